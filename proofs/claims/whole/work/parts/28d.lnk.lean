/-! LINKS, printed by gen27.py -/
theorem sl_152 {x1 : Int32} {m m2 : sh_X} {o : Outcome} {z : Int64} (e : sf_152 x1 m = some z) (tg : (sh_tJc m o m2) z) : sh_Lk 152 0 [(0, .ref 54), (1, .int x1)] [] m o m2 9 221 := by
  unfold sf_152 at e
  refine sh_Lk_lift (T := m.T) (I := m.I) (J := m.J) (s := m.s) (pc2 := 2) (lv2 := [(0, .ref 54), (1, .int x1)]) (st2 := [.int x1, .ref 54]) (I2 := m.I) (J2 := m.J) (fun hT v kk => ?_) ?_
  · refine sh_w (i := (.aload_n 0)) (len := 1) (pc2 := 1) (lv2 := [(0, .ref 54), (1, .int x1)]) (st2 := [.ref 54]) (h2 := (sh_rep m.T m.I m.J)) rfl rfl rfl ?_
    refine sh_w (i := (.iload_n 1)) (len := 1) (pc2 := 2) (lv2 := [(0, .ref 54), (1, .int x1)]) (st2 := [.int x1, .ref 54]) (h2 := (sh_rep m.T m.I m.J)) rfl rfl rfl ?_
    exact kk
  obtain ⟨r1, e1, e⟩ := sh_bc_e e
  refine sh_Lk_cV (r := (some (.int (sh_b2 r1)))) (st2 := [.int (sh_b2 r1)]) (pc2 := 5) (k2 := 121) (a := 53) (as := [.ref 54, .int x1]) (rest := []) rfl rfl rfl (fun hT => (sh_s53 hT.st)) rfl rfl ⟨Nat.le_of_ble_eq_true rfl, Nat.le_of_ble_eq_true rfl⟩ (sl_121 e1 ⟨rfl, rfl⟩) rfl rfl (Nat.le_of_ble_eq_true rfl) (Nat.le_of_ble_eq_true rfl) ?_
  rcases sh_ite e with ⟨c, e⟩ | ⟨c, e⟩
  · refine sh_Lk_lift (T := m.T) (I := m.I) (J := m.J) (s := m.s) (pc2 := 13) (lv2 := [(0, .ref 54), (1, .int x1)]) (st2 := [.int x1, .ref 58]) (I2 := m.I) (J2 := m.J) (fun hT v kk => ?_) ?_
    · refine sh_j0 (c := .eq) (off := (12)) (pc2 := 8) false rfl (sh_Zeqf c) rfl ?_
      refine sh_w (i := (.aload_n 0)) (len := 1) (pc2 := 9) (lv2 := [(0, .ref 54), (1, .int x1)]) (st2 := [.ref 54]) (h2 := (sh_rep m.T m.I m.J)) rfl rfl rfl ?_
      refine sh_gR1 (len := 3) (x := .ref 58) (pc2 := 12) rfl rfl (sh_s53 hT.st) rfl rfl ?_
      refine sh_w (i := (.iload_n 1)) (len := 1) (pc2 := 13) (lv2 := [(0, .ref 54), (1, .int x1)]) (st2 := [.int x1, .ref 58]) (h2 := (sh_rep m.T m.I m.J)) rfl rfl rfl ?_
      exact kk
    obtain ⟨c, e⟩ := sh_gd e
    refine sh_Lk_lift (T := m.T) (I := m.I) (J := m.J) (s := m.s) (pc2 := 18) (lv2 := [(0, .ref 54), (1, .int x1)]) (st2 := [.long (m.J 57 (Int32.toNatClampNeg x1))]) (I2 := m.I) (J2 := m.J) (fun hT v kk => ?_) ?_
    · refine sh_la1 (x := m.J 57 (Int32.toNatClampNeg x1)) (pc2 := 14) rfl (sh_s57 hT.st) (sh_okb1 c) (sh_okb2 c) rfl rfl ?_
      refine sh_w (i := (.goto 4)) (len := 3) (pc2 := 18) (lv2 := [(0, .ref 54), (1, .int x1)]) (st2 := [.long (m.J 57 (Int32.toNatClampNeg x1))]) (h2 := (sh_rep m.T m.I m.J)) rfl rfl rfl ?_
      exact kk
    obtain rfl := Option.some.inj e
    obtain ⟨rfl, rfl⟩ := tg
    exact sh_Lk_ret (i := .lreturn) rfl rfl rfl (Nat.le_of_ble_eq_true rfl) (Nat.le_of_ble_eq_true rfl)
  · refine sh_Lk_lift (T := m.T) (I := m.I) (J := m.J) (s := m.s) (pc2 := 18) (lv2 := [(0, .ref 54), (1, .int x1)]) (st2 := [.long 0]) (I2 := m.I) (J2 := m.J) (fun hT v kk => ?_) ?_
    · refine sh_j0 (c := .eq) (off := (12)) (pc2 := 17) true rfl (sh_Zeqt c) rfl ?_
      refine sh_w (i := (.lconst 0)) (len := 1) (pc2 := 18) (lv2 := [(0, .ref 54), (1, .int x1)]) (st2 := [.long 0]) (h2 := (sh_rep m.T m.I m.J)) rfl rfl rfl ?_
      exact kk
    obtain rfl := Option.some.inj e
    obtain ⟨rfl, rfl⟩ := tg
    exact sh_Lk_ret (i := .lreturn) rfl rfl rfl (Nat.le_of_ble_eq_true rfl) (Nat.le_of_ble_eq_true rfl)
theorem sl_151 {x1 : Int32} {x2 : Int32} {m m2 : sh_X} {o : Outcome} {z : (Option Unit × sh_X)} (e : sf_151 x1 x2 m = some z) (tg : (sh_tVt o m2) z) : sh_Lk 151 0 [(0, .ref 42), (1, .int x1), (2, .int x2)] [] m o m2 11 267 := by
  unfold sf_151 at e
  refine sh_Lk_lift (T := m.T) (I := m.I) (J := m.J) (s := m.s) (pc2 := 6) (lv2 := [(0, .ref 42), (1, .int x1), (2, .int x2)]) (st2 := [.int 1, .ref 42, .ref 54]) (I2 := m.I) (J2 := m.J) (fun hT v kk => ?_) ?_
  · refine sh_w (i := (.aload_n 0)) (len := 1) (pc2 := 1) (lv2 := [(0, .ref 42), (1, .int x1), (2, .int x2)]) (st2 := [.ref 42]) (h2 := (sh_rep m.T m.I m.J)) rfl rfl rfl ?_
    refine sh_gR1 (len := 3) (x := .ref 54) (pc2 := 4) rfl rfl (sh_s41 hT.st) rfl rfl ?_
    refine sh_w (i := (.aload_n 0)) (len := 1) (pc2 := 5) (lv2 := [(0, .ref 42), (1, .int x1), (2, .int x2)]) (st2 := [.ref 42, .ref 54]) (h2 := (sh_rep m.T m.I m.J)) rfl rfl rfl ?_
    refine sh_w (i := (.iconst 1)) (len := 1) (pc2 := 6) (lv2 := [(0, .ref 42), (1, .int x1), (2, .int x2)]) (st2 := [.int 1, .ref 42, .ref 54]) (h2 := (sh_rep m.T m.I m.J)) rfl rfl rfl ?_
    exact kk
  obtain ⟨r1, e1, e⟩ := sh_bc_e e
  refine sh_Lk_cV (r := (some (.int r1))) (st2 := [.int r1, .ref 54]) (pc2 := 9) (k2 := 145) (a := 41) (as := [.ref 42, .int 1]) (rest := [.ref 54]) rfl rfl rfl (fun hT => (sh_s41 hT.st)) rfl rfl ⟨Nat.le_of_ble_eq_true rfl, Nat.le_of_ble_eq_true rfl⟩ (sl_145 e1 ⟨rfl, rfl⟩) rfl rfl (Nat.le_of_ble_eq_true rfl) (Nat.le_of_ble_eq_true rfl) ?_
  obtain ⟨r2, e2, e⟩ := sh_bc_e e
  refine sh_Lk_cV (r := (some (.long r2))) (st2 := [.long r2]) (pc2 := 12) (k2 := 152) (a := 53) (as := [.ref 54, .int r1]) (rest := []) rfl rfl rfl (fun hT => (sh_s53 hT.st)) rfl rfl ⟨Nat.le_of_ble_eq_true rfl, Nat.le_of_ble_eq_true rfl⟩ (sl_152 e2 ⟨rfl, rfl⟩) rfl rfl (Nat.le_of_ble_eq_true rfl) (Nat.le_of_ble_eq_true rfl) ?_
  refine sh_Lk_lift (T := m.T) (I := m.I) (J := m.J) (s := m.s) (pc2 := 21) (lv2 := [(3, .long (r2 + (1 : Int64))), (0, .ref 42), (1, .int x1), (2, .int x2)]) (st2 := [.int 1, .ref 42, .ref 54]) (I2 := m.I) (J2 := m.J) (fun hT v kk => ?_) ?_
  · refine sh_w (i := (.lconst 1)) (len := 1) (pc2 := 13) (lv2 := [(0, .ref 42), (1, .int x1), (2, .int x2)]) (st2 := [.long 1, .long r2]) (h2 := (sh_rep m.T m.I m.J)) rfl rfl rfl ?_
    refine sh_w (i := .ladd) (len := 1) (pc2 := 14) (lv2 := [(0, .ref 42), (1, .int x1), (2, .int x2)]) (st2 := [.long (r2 + (1 : Int64))]) (h2 := (sh_rep m.T m.I m.J)) rfl rfl rfl ?_
    refine sh_w (i := (.lstore_n 3)) (len := 1) (pc2 := 15) (lv2 := [(3, .long (r2 + (1 : Int64))), (0, .ref 42), (1, .int x1), (2, .int x2)]) (st2 := []) (h2 := (sh_rep m.T m.I m.J)) rfl rfl rfl ?_
    refine sh_w (i := (.aload_n 0)) (len := 1) (pc2 := 16) (lv2 := [(3, .long (r2 + (1 : Int64))), (0, .ref 42), (1, .int x1), (2, .int x2)]) (st2 := [.ref 42]) (h2 := (sh_rep m.T m.I m.J)) rfl rfl rfl ?_
    refine sh_gR1 (len := 3) (x := .ref 54) (pc2 := 19) rfl rfl (sh_s41 hT.st) rfl rfl ?_
    refine sh_w (i := (.aload_n 0)) (len := 1) (pc2 := 20) (lv2 := [(3, .long (r2 + (1 : Int64))), (0, .ref 42), (1, .int x1), (2, .int x2)]) (st2 := [.ref 42, .ref 54]) (h2 := (sh_rep m.T m.I m.J)) rfl rfl rfl ?_
    refine sh_w (i := (.iconst 1)) (len := 1) (pc2 := 21) (lv2 := [(3, .long (r2 + (1 : Int64))), (0, .ref 42), (1, .int x1), (2, .int x2)]) (st2 := [.int 1, .ref 42, .ref 54]) (h2 := (sh_rep m.T m.I m.J)) rfl rfl rfl ?_
    exact kk
  obtain ⟨r3, e3, e⟩ := sh_bc_e e
  refine sh_Lk_cV (r := (some (.int r3))) (st2 := [.int r3, .ref 54]) (pc2 := 24) (k2 := 145) (a := 41) (as := [.ref 42, .int 1]) (rest := [.ref 54]) rfl rfl rfl (fun hT => (sh_s41 hT.st)) rfl rfl ⟨Nat.le_of_ble_eq_true rfl, Nat.le_of_ble_eq_true rfl⟩ (sl_145 e3 ⟨rfl, rfl⟩) rfl rfl (Nat.le_of_ble_eq_true rfl) (Nat.le_of_ble_eq_true rfl) ?_
  obtain ⟨r4, m14, e4, e⟩ := sh_bn_e e
  refine sh_Lk_cV (r := none) (st2 := []) (pc2 := 27) (k2 := 146) (a := 53) (as := [.ref 54, .int r3]) (rest := []) rfl rfl rfl (fun hT => (sh_s53 hT.st)) rfl rfl ⟨Nat.le_of_ble_eq_true rfl, Nat.le_of_ble_eq_true rfl⟩ (sl_146 e4 ⟨rfl, rfl⟩) rfl rfl (Nat.le_of_ble_eq_true rfl) (Nat.le_of_ble_eq_true rfl) ?_
  refine sh_Lk_lift (T := m14.T) (I := m14.I) (J := m14.J) (s := m14.s) (pc2 := 35) (lv2 := [(3, .long (r2 + (1 : Int64))), (0, .ref 42), (1, .int x1), (2, .int x2)]) (st2 := [.int (x1 + 4), .ref 3, .long (r2 + (1 : Int64))]) (I2 := m14.I) (J2 := m14.J) (fun hT v kk => ?_) ?_
  · refine sh_w (i := (.lload_n 3)) (len := 1) (pc2 := 28) (lv2 := [(3, .long (r2 + (1 : Int64))), (0, .ref 42), (1, .int x1), (2, .int x2)]) (st2 := [.long (r2 + (1 : Int64))]) (h2 := (sh_rep m14.T m14.I m14.J)) rfl rfl rfl ?_
    refine sh_w (i := (.aload_n 0)) (len := 1) (pc2 := 29) (lv2 := [(3, .long (r2 + (1 : Int64))), (0, .ref 42), (1, .int x1), (2, .int x2)]) (st2 := [.ref 42, .long (r2 + (1 : Int64))]) (h2 := (sh_rep m14.T m14.I m14.J)) rfl rfl rfl ?_
    refine sh_gR1 (len := 3) (x := .ref 3) (pc2 := 32) rfl rfl (sh_s41 hT.st) rfl rfl ?_
    refine sh_w (i := (.iload_n 1)) (len := 1) (pc2 := 33) (lv2 := [(3, .long (r2 + (1 : Int64))), (0, .ref 42), (1, .int x1), (2, .int x2)]) (st2 := [.int x1, .ref 3, .long (r2 + (1 : Int64))]) (h2 := (sh_rep m14.T m14.I m14.J)) rfl rfl rfl ?_
    refine sh_w (i := (.iconst 4)) (len := 1) (pc2 := 34) (lv2 := [(3, .long (r2 + (1 : Int64))), (0, .ref 42), (1, .int x1), (2, .int x2)]) (st2 := [.int 4, .int x1, .ref 3, .long (r2 + (1 : Int64))]) (h2 := (sh_rep m14.T m14.I m14.J)) rfl rfl rfl ?_
    refine sh_w (i := .iadd) (len := 1) (pc2 := 35) (lv2 := [(3, .long (r2 + (1 : Int64))), (0, .ref 42), (1, .int x1), (2, .int x2)]) (st2 := [.int (x1 + 4), .ref 3, .long (r2 + (1 : Int64))]) (h2 := (sh_rep m14.T m14.I m14.J)) rfl rfl rfl ?_
    exact kk
  obtain ⟨r5, e5, e⟩ := sh_bc_e e
  refine sh_Lk_cV (r := (some (.long r5))) (st2 := [.long r5, .long (r2 + (1 : Int64))]) (pc2 := 38) (k2 := 66) (a := 2) (as := [.ref 3, .int (x1 + 4)]) (rest := [.long (r2 + (1 : Int64))]) rfl rfl rfl (fun hT => hT.t2) rfl rfl ⟨Nat.le_of_ble_eq_true rfl, Nat.le_of_ble_eq_true rfl⟩ (sl_66 e5 ⟨rfl, rfl⟩) rfl rfl (Nat.le_of_ble_eq_true rfl) (Nat.le_of_ble_eq_true rfl) ?_
  refine sh_Lk_lift (T := m14.T) (I := m14.I) (J := m14.J) (s := m14.s) (pc2 := 39) (lv2 := [(3, .long (r2 + (1 : Int64))), (0, .ref 42), (1, .int x1), (2, .int x2)]) (st2 := [.int (lg_cmp (r2 + (1 : Int64)) r5)]) (I2 := m14.I) (J2 := m14.J) (fun hT v kk => ?_) ?_
  · refine sh_w (i := .lcmp) (len := 1) (pc2 := 39) (lv2 := [(3, .long (r2 + (1 : Int64))), (0, .ref 42), (1, .int x1), (2, .int x2)]) (st2 := [.int (lg_cmp (r2 + (1 : Int64)) r5)]) (h2 := (sh_rep m14.T m14.I m14.J)) rfl rfl rfl ?_
    exact kk
  rcases sh_ite e with ⟨c, e⟩ | ⟨c, e⟩
  · refine sh_Lk_lift (T := m14.T) (I := m14.I) (J := m14.J) (s := m14.s) (pc2 := 51) (lv2 := [(3, .long (r2 + (1 : Int64))), (0, .ref 42), (1, .int x1), (2, .int x2)]) (st2 := [.long (r2 + (1 : Int64)), .int x1, .ref 42]) (I2 := m14.I) (J2 := m14.J) (fun hT v kk => ?_) ?_
    · refine sh_j0 (c := .lt) (off := (9)) (pc2 := 48) true rfl (sh_Cltt c) rfl ?_
      refine sh_w (i := (.aload_n 0)) (len := 1) (pc2 := 49) (lv2 := [(3, .long (r2 + (1 : Int64))), (0, .ref 42), (1, .int x1), (2, .int x2)]) (st2 := [.ref 42]) (h2 := (sh_rep m14.T m14.I m14.J)) rfl rfl rfl ?_
      refine sh_w (i := (.iload_n 1)) (len := 1) (pc2 := 50) (lv2 := [(3, .long (r2 + (1 : Int64))), (0, .ref 42), (1, .int x1), (2, .int x2)]) (st2 := [.int x1, .ref 42]) (h2 := (sh_rep m14.T m14.I m14.J)) rfl rfl rfl ?_
      refine sh_w (i := (.lload_n 3)) (len := 1) (pc2 := 51) (lv2 := [(3, .long (r2 + (1 : Int64))), (0, .ref 42), (1, .int x1), (2, .int x2)]) (st2 := [.long (r2 + (1 : Int64)), .int x1, .ref 42]) (h2 := (sh_rep m14.T m14.I m14.J)) rfl rfl rfl ?_
      exact kk
    rcases sh_bt_e e with ⟨m16, e6, rfl⟩ | ⟨r6, m16, e6, e⟩
    · obtain ⟨rfl, rfl⟩ := tg
      exact sh_Lk_tV (k2 := 150) (a := 41) (as := [.ref 42, .int x1, .long (r2 + (1 : Int64))]) (rest := []) rfl rfl rfl (fun hT => (sh_s41 hT.st)) rfl rfl ⟨Nat.le_of_ble_eq_true rfl, Nat.le_of_ble_eq_true rfl⟩ (sl_150 e6 ⟨rfl, rfl⟩) rfl (Nat.le_of_ble_eq_true rfl) (Nat.le_of_ble_eq_true rfl) (Nat.le_of_ble_eq_true rfl) (Nat.le_of_ble_eq_true rfl) rfl
    refine sh_Lk_cV (r := none) (st2 := []) (pc2 := 54) (k2 := 150) (a := 41) (as := [.ref 42, .int x1, .long (r2 + (1 : Int64))]) (rest := []) rfl rfl rfl (fun hT => (sh_s41 hT.st)) rfl rfl ⟨Nat.le_of_ble_eq_true rfl, Nat.le_of_ble_eq_true rfl⟩ (sl_150 e6 ⟨rfl, rfl⟩) rfl rfl (Nat.le_of_ble_eq_true rfl) (Nat.le_of_ble_eq_true rfl) ?_
    refine sh_Lk_lift (T := m16.T) (I := m16.I) (J := m16.J) (s := m16.s) (pc2 := 61) (lv2 := [(3, .long (r2 + (1 : Int64))), (0, .ref 42), (1, .int x1), (2, .int x2)]) (st2 := []) (I2 := sh_u2 m16.I 41 13 (x2 + 1)) (J2 := m16.J) (fun hT v kk => ?_) ?_
    · refine sh_w (i := (.aload_n 0)) (len := 1) (pc2 := 55) (lv2 := [(3, .long (r2 + (1 : Int64))), (0, .ref 42), (1, .int x1), (2, .int x2)]) (st2 := [.ref 42]) (h2 := (sh_rep m16.T m16.I m16.J)) rfl rfl rfl ?_
      refine sh_w (i := (.iload_n 2)) (len := 1) (pc2 := 56) (lv2 := [(3, .long (r2 + (1 : Int64))), (0, .ref 42), (1, .int x1), (2, .int x2)]) (st2 := [.int x2, .ref 42]) (h2 := (sh_rep m16.T m16.I m16.J)) rfl rfl rfl ?_
      refine sh_w (i := (.iconst 1)) (len := 1) (pc2 := 57) (lv2 := [(3, .long (r2 + (1 : Int64))), (0, .ref 42), (1, .int x1), (2, .int x2)]) (st2 := [.int 1, .int x2, .ref 42]) (h2 := (sh_rep m16.T m16.I m16.J)) rfl rfl rfl ?_
      refine sh_w (i := .iadd) (len := 1) (pc2 := 58) (lv2 := [(3, .long (r2 + (1 : Int64))), (0, .ref 42), (1, .int x1), (2, .int x2)]) (st2 := [.int (x2 + 1), .ref 42]) (h2 := (sh_rep m16.T m16.I m16.J)) rfl rfl rfl ?_
      refine sh_pI1 (x := x2 + 1) (pc2 := 61) rfl rfl (sh_s41 hT.st) rfl rfl rfl rfl ?_
      exact kk
    obtain rfl := Option.some.inj e
    obtain ⟨rfl, rfl⟩ := tg
    exact sh_Lk_ret (i := .return_) rfl rfl rfl (Nat.le_of_ble_eq_true rfl) (Nat.le_of_ble_eq_true rfl)
  · refine sh_Lk_lift (T := m14.T) (I := m14.I) (J := m14.J) (s := m14.s) (pc2 := 43) (lv2 := [(3, .long (r2 + (1 : Int64))), (0, .ref 42), (1, .int x1), (2, .int x2)]) (st2 := [.ref 42]) (I2 := m14.I) (J2 := m14.J) (fun hT v kk => ?_) ?_
    · refine sh_j0 (c := .lt) (off := (9)) (pc2 := 42) false rfl (sh_Cltf c) rfl ?_
      refine sh_w (i := (.aload_n 0)) (len := 1) (pc2 := 43) (lv2 := [(3, .long (r2 + (1 : Int64))), (0, .ref 42), (1, .int x1), (2, .int x2)]) (st2 := [.ref 42]) (h2 := (sh_rep m14.T m14.I m14.J)) rfl rfl rfl ?_
      exact kk
    obtain ⟨r7, m17, e7, e⟩ := sh_bn_e e
    refine sh_Lk_cV (r := (some (.int r7))) (st2 := [.int r7]) (pc2 := 46) (k2 := 148) (a := 41) (as := [.ref 42]) (rest := []) rfl rfl rfl (fun hT => (sh_s41 hT.st)) rfl rfl ⟨Nat.le_of_ble_eq_true rfl, Nat.le_of_ble_eq_true rfl⟩ (sl_148 e7 ⟨rfl, rfl⟩) rfl rfl (Nat.le_of_ble_eq_true rfl) (Nat.le_of_ble_eq_true rfl) ?_
    refine sh_Lk_lift (T := m17.T) (I := m17.I) (J := m17.J) (s := m17.s) (pc2 := 47) (lv2 := [(3, .long (r2 + (1 : Int64))), (0, .ref 42), (1, .int x1), (2, .int x2)]) (st2 := []) (I2 := m17.I) (J2 := m17.J) (fun hT v kk => ?_) ?_
    · refine sh_w (i := .pop) (len := 1) (pc2 := 47) (lv2 := [(3, .long (r2 + (1 : Int64))), (0, .ref 42), (1, .int x1), (2, .int x2)]) (st2 := []) (h2 := (sh_rep m17.T m17.I m17.J)) rfl rfl rfl ?_
      exact kk
    obtain rfl := Option.some.inj e
    obtain ⟨rfl, rfl⟩ := tg
    exact sh_Lk_ret (i := .return_) rfl rfl rfl (Nat.le_of_ble_eq_true rfl) (Nat.le_of_ble_eq_true rfl)
theorem sl_153_21 {x1 : Int32} {m m2 : sh_X} {o : Outcome} {z : (Option Unit × sh_X)} (e : sf_153_21 x1 m = some z) (tg : (sh_tVt o m2) z) : sh_Lk 153 21 [(0, .ref 42), (1, .int x1)] [] m o m2 9 222 := by
  unfold sf_153_21 at e
  refine sh_Lk_lift (T := m.T) (I := m.I) (J := m.J) (s := m.s) (pc2 := 27) (lv2 := [(0, .ref 42), (1, .int x1)]) (st2 := [.int x1, .int 4, .ref 3]) (I2 := m.I) (J2 := m.J) (fun hT v kk => ?_) ?_
  · refine sh_w (i := (.aload_n 0)) (len := 1) (pc2 := 22) (lv2 := [(0, .ref 42), (1, .int x1)]) (st2 := [.ref 42]) (h2 := (sh_rep m.T m.I m.J)) rfl rfl rfl ?_
    refine sh_gR1 (len := 3) (x := .ref 3) (pc2 := 25) rfl rfl (sh_s41 hT.st) rfl rfl ?_
    refine sh_w (i := (.iconst 4)) (len := 1) (pc2 := 26) (lv2 := [(0, .ref 42), (1, .int x1)]) (st2 := [.int 4, .ref 3]) (h2 := (sh_rep m.T m.I m.J)) rfl rfl rfl ?_
    refine sh_w (i := (.iload_n 1)) (len := 1) (pc2 := 27) (lv2 := [(0, .ref 42), (1, .int x1)]) (st2 := [.int x1, .int 4, .ref 3]) (h2 := (sh_rep m.T m.I m.J)) rfl rfl rfl ?_
    exact kk
  rcases sh_bt_e e with ⟨m11, e1, rfl⟩ | ⟨r1, m11, e1, e⟩
  · obtain ⟨rfl, rfl⟩ := tg
    exact sh_Lk_tV (k2 := 50) (a := 2) (as := [.ref 3, .int 4, .int x1]) (rest := []) rfl rfl rfl (fun hT => hT.t2) rfl rfl ⟨Nat.le_of_ble_eq_true rfl, Nat.le_of_ble_eq_true rfl⟩ (sl_50 e1 ⟨rfl, rfl⟩) rfl (Nat.le_of_ble_eq_true rfl) (Nat.le_of_ble_eq_true rfl) (Nat.le_of_ble_eq_true rfl) (Nat.le_of_ble_eq_true rfl) rfl
  refine sh_Lk_cV (r := none) (st2 := []) (pc2 := 30) (k2 := 50) (a := 2) (as := [.ref 3, .int 4, .int x1]) (rest := []) rfl rfl rfl (fun hT => hT.t2) rfl rfl ⟨Nat.le_of_ble_eq_true rfl, Nat.le_of_ble_eq_true rfl⟩ (sl_50 e1 ⟨rfl, rfl⟩) rfl rfl (Nat.le_of_ble_eq_true rfl) (Nat.le_of_ble_eq_true rfl) ?_
  obtain rfl := Option.some.inj e
  obtain ⟨rfl, rfl⟩ := tg
  exact sh_Lk_ret (i := .return_) rfl rfl rfl (Nat.le_of_ble_eq_true rfl) (Nat.le_of_ble_eq_true rfl)
theorem sl_153 {x1 : Int32} {m m2 : sh_X} {o : Outcome} {z : (Option Unit × sh_X)} (e : sf_153 x1 m = some z) (tg : (sh_tVt o m2) z) : sh_Lk 153 0 [(0, .ref 42), (1, .int x1)] [] m o m2 9 222 := by
  unfold sf_153 at e
  refine sh_Lk_lift (T := m.T) (I := m.I) (J := m.J) (s := m.s) (pc2 := 4) (lv2 := [(0, .ref 42), (1, .int x1)]) (st2 := [.int (m.I 41 16)]) (I2 := m.I) (J2 := m.J) (fun hT v kk => ?_) ?_
  · refine sh_w (i := (.aload_n 0)) (len := 1) (pc2 := 1) (lv2 := [(0, .ref 42), (1, .int x1)]) (st2 := [.ref 42]) (h2 := (sh_rep m.T m.I m.J)) rfl rfl rfl ?_
    refine sh_gI1 (len := 3) (x := m.I 41 16) (pc2 := 4) rfl rfl (sh_s41 hT.st) rfl rfl rfl ?_
    exact kk
  rcases sh_ite e with ⟨c, e⟩ | ⟨c, e⟩
  · refine sh_Lk_lift (T := m.T) (I := m.I) (J := m.J) (s := m.s) (pc2 := 21) (lv2 := [(0, .ref 42), (1, .int x1)]) (st2 := []) (I2 := m.I) (J2 := m.J) (fun hT v kk => ?_) ?_
    · refine sh_j0 (c := .gt) (off := (17)) (pc2 := 21) true rfl (sh_Bgtt c) rfl ?_
      exact kk
    exact sh_Lk_sub (sh_sub_c rfl (sh_sub_c rfl (sh_sub_n))) (sl_153_21 e tg)
  · refine sh_Lk_lift (T := m.T) (I := m.I) (J := m.J) (s := m.s) (pc2 := 18) (lv2 := [(0, .ref 42), (1, .int x1)]) (st2 := [.int (m.I 28 12), .int (m.I 41 18)]) (I2 := m.I) (J2 := m.J) (fun hT v kk => ?_) ?_
    · refine sh_j0 (c := .gt) (off := (17)) (pc2 := 7) false rfl (sh_Bgtf c) rfl ?_
      refine sh_w (i := (.aload_n 0)) (len := 1) (pc2 := 8) (lv2 := [(0, .ref 42), (1, .int x1)]) (st2 := [.ref 42]) (h2 := (sh_rep m.T m.I m.J)) rfl rfl rfl ?_
      refine sh_gI1 (len := 3) (x := m.I 41 18) (pc2 := 11) rfl rfl (sh_s41 hT.st) rfl rfl rfl ?_
      refine sh_w (i := (.aload_n 0)) (len := 1) (pc2 := 12) (lv2 := [(0, .ref 42), (1, .int x1)]) (st2 := [.ref 42, .int (m.I 41 18)]) (h2 := (sh_rep m.T m.I m.J)) rfl rfl rfl ?_
      refine sh_gR1 (len := 3) (x := .ref 29) (pc2 := 15) rfl rfl (sh_s41 hT.st) rfl rfl ?_
      refine sh_gI1 (len := 3) (x := m.I 28 12) (pc2 := 18) rfl rfl (sh_s28 hT.st) rfl rfl rfl ?_
      exact kk
    rcases sh_ite e with ⟨c, e⟩ | ⟨c, e⟩
    · refine sh_Lk_lift (T := m.T) (I := m.I) (J := m.J) (s := m.s) (pc2 := 21) (lv2 := [(0, .ref 42), (1, .int x1)]) (st2 := []) (I2 := m.I) (J2 := m.J) (fun hT v kk => ?_) ?_
      · refine sh_jc (c := .ge) (off := (12)) (pc2 := 21) false rfl (sh_Bgef c) rfl ?_
        exact kk
      exact sh_Lk_sub (sh_sub_c rfl (sh_sub_c rfl (sh_sub_n))) (sl_153_21 e tg)
    · refine sh_Lk_lift (T := m.T) (I := m.I) (J := m.J) (s := m.s) (pc2 := 30) (lv2 := [(0, .ref 42), (1, .int x1)]) (st2 := []) (I2 := m.I) (J2 := m.J) (fun hT v kk => ?_) ?_
      · refine sh_jc (c := .ge) (off := (12)) (pc2 := 30) true rfl (sh_Bget c) rfl ?_
        exact kk
      obtain rfl := Option.some.inj e
      obtain ⟨rfl, rfl⟩ := tg
      exact sh_Lk_ret (i := .return_) rfl rfl rfl (Nat.le_of_ble_eq_true rfl) (Nat.le_of_ble_eq_true rfl)
theorem sl_154_59 {x2 : Int32} {x3 : Int32} {m m2 : sh_X} {o : Outcome} {z : (Option Unit × sh_X)} (e : sf_154_59 x2 x3 m = some z) (tg : (sh_tVt o m2) z) : sh_Lk 154 59 [(0, .ref 42), (2, .int x2), (3, .int x3)] [] m o m2 11 272 := by
  unfold sf_154_59 at e
  refine sh_Lk_lift (T := m.T) (I := m.I) (J := m.J) (s := m.s) (pc2 := 70) (lv2 := [(0, .ref 42), (2, .int x2), (3, .int x3)]) (st2 := [.int x2, .ref 49, .int x3, .ref 24, .ref 42]) (I2 := m.I) (J2 := m.J) (fun hT v kk => ?_) ?_
  · refine sh_w (i := (.aload_n 0)) (len := 1) (pc2 := 60) (lv2 := [(0, .ref 42), (2, .int x2), (3, .int x3)]) (st2 := [.ref 42]) (h2 := (sh_rep m.T m.I m.J)) rfl rfl rfl ?_
    refine sh_w (i := (.aload_n 0)) (len := 1) (pc2 := 61) (lv2 := [(0, .ref 42), (2, .int x2), (3, .int x3)]) (st2 := [.ref 42, .ref 42]) (h2 := (sh_rep m.T m.I m.J)) rfl rfl rfl ?_
    refine sh_gR1 (len := 3) (x := .ref 24) (pc2 := 64) rfl rfl (sh_s41 hT.st) rfl rfl ?_
    refine sh_w (i := (.iload_n 3)) (len := 1) (pc2 := 65) (lv2 := [(0, .ref 42), (2, .int x2), (3, .int x3)]) (st2 := [.int x3, .ref 24, .ref 42]) (h2 := (sh_rep m.T m.I m.J)) rfl rfl rfl ?_
    refine sh_w (i := (.aload_n 0)) (len := 1) (pc2 := 66) (lv2 := [(0, .ref 42), (2, .int x2), (3, .int x3)]) (st2 := [.ref 42, .int x3, .ref 24, .ref 42]) (h2 := (sh_rep m.T m.I m.J)) rfl rfl rfl ?_
    refine sh_gR1 (len := 3) (x := .ref 49) (pc2 := 69) rfl rfl (sh_s41 hT.st) rfl rfl ?_
    refine sh_w (i := (.iload_n 2)) (len := 1) (pc2 := 70) (lv2 := [(0, .ref 42), (2, .int x2), (3, .int x3)]) (st2 := [.int x2, .ref 49, .int x3, .ref 24, .ref 42]) (h2 := (sh_rep m.T m.I m.J)) rfl rfl rfl ?_
    exact kk
  obtain ⟨r1, e1, e⟩ := sh_bc_e e
  refine sh_Lk_cV (r := (some (.int r1))) (st2 := [.int r1, .int x3, .ref 24, .ref 42]) (pc2 := 73) (k2 := 117) (a := 48) (as := [.ref 49, .int x2]) (rest := [.int x3, .ref 24, .ref 42]) rfl rfl rfl (fun hT => (sh_s48 hT.st)) rfl rfl ⟨Nat.le_of_ble_eq_true rfl, Nat.le_of_ble_eq_true rfl⟩ (sl_117 e1 ⟨rfl, rfl⟩) rfl rfl (Nat.le_of_ble_eq_true rfl) (Nat.le_of_ble_eq_true rfl) ?_
  obtain ⟨r2, m12, e2, e⟩ := sh_bn_e e
  refine sh_Lk_cV (r := none) (st2 := []) (pc2 := 76) (k2 := 101) (a := 41) (as := [.ref 42, .ref 24, .int x3, .int r1]) (rest := []) rfl rfl rfl (fun hT => (sh_s41 hT.st)) rfl rfl ⟨Nat.le_of_ble_eq_true rfl, Nat.le_of_ble_eq_true rfl⟩ (sl_101 (by decide) e2 ⟨rfl, rfl⟩) rfl rfl (Nat.le_of_ble_eq_true rfl) (Nat.le_of_ble_eq_true rfl) ?_
  refine sh_Lk_lift (T := m12.T) (I := m12.I) (J := m12.J) (s := m12.s) (pc2 := 81) (lv2 := [(0, .ref 42), (2, .int x2), (3, .int x3)]) (st2 := [.int 1, .ref 49]) (I2 := m12.I) (J2 := m12.J) (fun hT v kk => ?_) ?_
  · refine sh_w (i := (.aload_n 0)) (len := 1) (pc2 := 77) (lv2 := [(0, .ref 42), (2, .int x2), (3, .int x3)]) (st2 := [.ref 42]) (h2 := (sh_rep m12.T m12.I m12.J)) rfl rfl rfl ?_
    refine sh_gR1 (len := 3) (x := .ref 49) (pc2 := 80) rfl rfl (sh_s41 hT.st) rfl rfl ?_
    refine sh_w (i := (.iconst 1)) (len := 1) (pc2 := 81) (lv2 := [(0, .ref 42), (2, .int x2), (3, .int x3)]) (st2 := [.int 1, .ref 49]) (h2 := (sh_rep m12.T m12.I m12.J)) rfl rfl rfl ?_
    exact kk
  obtain ⟨r3, m13, e3, e⟩ := sh_bn_e e
  refine sh_Lk_cV (r := none) (st2 := []) (pc2 := 84) (k2 := 118) (a := 48) (as := [.ref 49, .int 1]) (rest := []) rfl rfl rfl (fun hT => (sh_s48 hT.st)) rfl rfl ⟨Nat.le_of_ble_eq_true rfl, Nat.le_of_ble_eq_true rfl⟩ (sl_118 e3 ⟨rfl, rfl⟩) rfl rfl (Nat.le_of_ble_eq_true rfl) (Nat.le_of_ble_eq_true rfl) ?_
  obtain rfl := Option.some.inj e
  obtain ⟨rfl, rfl⟩ := tg
  exact sh_Lk_ret (i := .return_) rfl rfl rfl (Nat.le_of_ble_eq_true rfl) (Nat.le_of_ble_eq_true rfl)
theorem sl_154 {x1 : Int32} {m m2 : sh_X} {o : Outcome} {z : (Option Unit × sh_X)} (e : sf_154 x1 m = some z) (tg : (sh_tVt o m2) z) : sh_Lk 154 0 [(0, .ref 42), (1, .int x1)] [] m o m2 11 272 := by
  unfold sf_154 at e
  refine sh_Lk_lift (T := m.T) (I := m.I) (J := m.J) (s := m.s) (pc2 := 15) (lv2 := [(2, .int ((m.I 48 4) - 1)), (0, .ref 42), (1, .int x1)]) (st2 := [.int 160, .int ((m.I 48 4) - 1), .ref 42]) (I2 := m.I) (J2 := m.J) (fun hT v kk => ?_) ?_
  · refine sh_w (i := (.aload_n 0)) (len := 1) (pc2 := 1) (lv2 := [(0, .ref 42), (1, .int x1)]) (st2 := [.ref 42]) (h2 := (sh_rep m.T m.I m.J)) rfl rfl rfl ?_
    refine sh_gR1 (len := 3) (x := .ref 49) (pc2 := 4) rfl rfl (sh_s41 hT.st) rfl rfl ?_
    refine sh_gI1 (len := 3) (x := m.I 48 4) (pc2 := 7) rfl rfl (sh_s48 hT.st) rfl rfl rfl ?_
    refine sh_w (i := (.iconst 1)) (len := 1) (pc2 := 8) (lv2 := [(0, .ref 42), (1, .int x1)]) (st2 := [.int 1, .int (m.I 48 4)]) (h2 := (sh_rep m.T m.I m.J)) rfl rfl rfl ?_
    refine sh_w (i := .isub) (len := 1) (pc2 := 9) (lv2 := [(0, .ref 42), (1, .int x1)]) (st2 := [.int ((m.I 48 4) - 1)]) (h2 := (sh_rep m.T m.I m.J)) rfl rfl rfl ?_
    refine sh_w (i := (.istore_n 2)) (len := 1) (pc2 := 10) (lv2 := [(2, .int ((m.I 48 4) - 1)), (0, .ref 42), (1, .int x1)]) (st2 := []) (h2 := (sh_rep m.T m.I m.J)) rfl rfl rfl ?_
    refine sh_w (i := (.aload_n 0)) (len := 1) (pc2 := 11) (lv2 := [(2, .int ((m.I 48 4) - 1)), (0, .ref 42), (1, .int x1)]) (st2 := [.ref 42]) (h2 := (sh_rep m.T m.I m.J)) rfl rfl rfl ?_
    refine sh_w (i := (.iload_n 2)) (len := 1) (pc2 := 12) (lv2 := [(2, .int ((m.I 48 4) - 1)), (0, .ref 42), (1, .int x1)]) (st2 := [.int ((m.I 48 4) - 1), .ref 42]) (h2 := (sh_rep m.T m.I m.J)) rfl rfl rfl ?_
    refine sh_w (i := (.sipush 160)) (len := 3) (pc2 := 15) (lv2 := [(2, .int ((m.I 48 4) - 1)), (0, .ref 42), (1, .int x1)]) (st2 := [.int 160, .int ((m.I 48 4) - 1), .ref 42]) (h2 := (sh_rep m.T m.I m.J)) rfl rfl rfl ?_
    exact kk
  rcases sh_bt_e e with ⟨m11, e1, rfl⟩ | ⟨r1, m11, e1, e⟩
  · obtain ⟨rfl, rfl⟩ := tg
    exact sh_Lk_tV (k2 := 107) (a := 41) (as := [.ref 42, .int ((m.I 48 4) - 1), .int 160]) (rest := []) rfl rfl rfl (fun hT => (sh_s41 hT.st)) rfl rfl ⟨Nat.le_of_ble_eq_true rfl, Nat.le_of_ble_eq_true rfl⟩ (sl_107 e1 ⟨rfl, rfl⟩) rfl (Nat.le_of_ble_eq_true rfl) (Nat.le_of_ble_eq_true rfl) (Nat.le_of_ble_eq_true rfl) (Nat.le_of_ble_eq_true rfl) rfl
  refine sh_Lk_cV (r := none) (st2 := []) (pc2 := 18) (k2 := 107) (a := 41) (as := [.ref 42, .int ((m.I 48 4) - 1), .int 160]) (rest := []) rfl rfl rfl (fun hT => (sh_s41 hT.st)) rfl rfl ⟨Nat.le_of_ble_eq_true rfl, Nat.le_of_ble_eq_true rfl⟩ (sl_107 e1 ⟨rfl, rfl⟩) rfl rfl (Nat.le_of_ble_eq_true rfl) (Nat.le_of_ble_eq_true rfl) ?_
  refine sh_Lk_lift (T := m11.T) (I := m11.I) (J := m11.J) (s := m11.s) (pc2 := 23) (lv2 := [(2, .int ((m.I 48 4) - 1)), (0, .ref 42), (1, .int x1)]) (st2 := [.int ((m.I 48 4) - 1), .ref 49]) (I2 := m11.I) (J2 := m11.J) (fun hT v kk => ?_) ?_
  · refine sh_w (i := (.aload_n 0)) (len := 1) (pc2 := 19) (lv2 := [(2, .int ((m.I 48 4) - 1)), (0, .ref 42), (1, .int x1)]) (st2 := [.ref 42]) (h2 := (sh_rep m11.T m11.I m11.J)) rfl rfl rfl ?_
    refine sh_gR1 (len := 3) (x := .ref 49) (pc2 := 22) rfl rfl (sh_s41 hT.st) rfl rfl ?_
    refine sh_w (i := (.iload_n 2)) (len := 1) (pc2 := 23) (lv2 := [(2, .int ((m.I 48 4) - 1)), (0, .ref 42), (1, .int x1)]) (st2 := [.int ((m.I 48 4) - 1), .ref 49]) (h2 := (sh_rep m11.T m11.I m11.J)) rfl rfl rfl ?_
    exact kk
  obtain ⟨r2, e2, e⟩ := sh_bc_e e
  refine sh_Lk_cV (r := (some (.int r2))) (st2 := [.int r2]) (pc2 := 26) (k2 := 108) (a := 48) (as := [.ref 49, .int ((m.I 48 4) - 1)]) (rest := []) rfl rfl rfl (fun hT => (sh_s48 hT.st)) rfl rfl ⟨Nat.le_of_ble_eq_true rfl, Nat.le_of_ble_eq_true rfl⟩ (sl_108 e2 ⟨rfl, rfl⟩) rfl rfl (Nat.le_of_ble_eq_true rfl) (Nat.le_of_ble_eq_true rfl) ?_
  refine sh_Lk_lift (T := m11.T) (I := m11.I) (J := m11.J) (s := m11.s) (pc2 := 33) (lv2 := [(3, .int r2), (2, .int ((m.I 48 4) - 1)), (0, .ref 42), (1, .int x1)]) (st2 := [.int r2, .int 1, .ref 24]) (I2 := m11.I) (J2 := m11.J) (fun hT v kk => ?_) ?_
  · refine sh_w (i := (.istore_n 3)) (len := 1) (pc2 := 27) (lv2 := [(3, .int r2), (2, .int ((m.I 48 4) - 1)), (0, .ref 42), (1, .int x1)]) (st2 := []) (h2 := (sh_rep m11.T m11.I m11.J)) rfl rfl rfl ?_
    refine sh_w (i := (.aload_n 0)) (len := 1) (pc2 := 28) (lv2 := [(3, .int r2), (2, .int ((m.I 48 4) - 1)), (0, .ref 42), (1, .int x1)]) (st2 := [.ref 42]) (h2 := (sh_rep m11.T m11.I m11.J)) rfl rfl rfl ?_
    refine sh_gR1 (len := 3) (x := .ref 24) (pc2 := 31) rfl rfl (sh_s41 hT.st) rfl rfl ?_
    refine sh_w (i := (.iconst 1)) (len := 1) (pc2 := 32) (lv2 := [(3, .int r2), (2, .int ((m.I 48 4) - 1)), (0, .ref 42), (1, .int x1)]) (st2 := [.int 1, .ref 24]) (h2 := (sh_rep m11.T m11.I m11.J)) rfl rfl rfl ?_
    refine sh_w (i := (.iload_n 3)) (len := 1) (pc2 := 33) (lv2 := [(3, .int r2), (2, .int ((m.I 48 4) - 1)), (0, .ref 42), (1, .int x1)]) (st2 := [.int r2, .int 1, .ref 24]) (h2 := (sh_rep m11.T m11.I m11.J)) rfl rfl rfl ?_
    exact kk
  refine sh_Lk_cS (r := (some (.int (sf_93 r2)))) (st2 := [.int (sf_93 r2), .int 1, .ref 24]) (pc2 := 36) (k2 := 93) (as := [.int r2]) (rest := [.int 1, .ref 24]) rfl rfl (by decide) (Nat.le_of_ble_eq_true rfl) rfl rfl ⟨Nat.le_of_ble_eq_true rfl, Nat.le_of_ble_eq_true rfl⟩ (sl_93 (m := m11) rfl ⟨rfl, rfl⟩) rfl rfl (Nat.le_of_ble_eq_true rfl) (Nat.le_of_ble_eq_true rfl) ?_
  refine sh_Lk_cS (r := (some (.int (sf_42 1 (sf_93 r2))))) (st2 := [.int (sf_42 1 (sf_93 r2)), .ref 24]) (pc2 := 39) (k2 := 42) (as := [.int 1, .int (sf_93 r2)]) (rest := [.ref 24]) rfl rfl (by decide) (Nat.le_of_ble_eq_true rfl) rfl rfl ⟨Nat.le_of_ble_eq_true rfl, Nat.le_of_ble_eq_true rfl⟩ (sl_42 (m := m11) rfl ⟨rfl, rfl⟩) rfl rfl (Nat.le_of_ble_eq_true rfl) (Nat.le_of_ble_eq_true rfl) ?_
  refine sh_Lk_lift (T := m11.T) (I := m11.I) (J := m11.J) (s := m11.s) (pc2 := 40) (lv2 := [(3, .int r2), (2, .int ((m.I 48 4) - 1)), (0, .ref 42), (1, .int x1)]) (st2 := [.int r2, .int (sf_42 1 (sf_93 r2)), .ref 24]) (I2 := m11.I) (J2 := m11.J) (fun hT v kk => ?_) ?_
  · refine sh_w (i := (.iload_n 3)) (len := 1) (pc2 := 40) (lv2 := [(3, .int r2), (2, .int ((m.I 48 4) - 1)), (0, .ref 42), (1, .int x1)]) (st2 := [.int r2, .int (sf_42 1 (sf_93 r2)), .ref 24]) (h2 := (sh_rep m11.T m11.I m11.J)) rfl rfl rfl ?_
    exact kk
  refine sh_Lk_cS (r := (some (.int (sf_94 r2)))) (st2 := [.int (sf_94 r2), .int (sf_42 1 (sf_93 r2)), .ref 24]) (pc2 := 43) (k2 := 94) (as := [.int r2]) (rest := [.int (sf_42 1 (sf_93 r2)), .ref 24]) rfl rfl (by decide) (Nat.le_of_ble_eq_true rfl) rfl rfl ⟨Nat.le_of_ble_eq_true rfl, Nat.le_of_ble_eq_true rfl⟩ (sl_94 (m := m11) rfl ⟨rfl, rfl⟩) rfl rfl (Nat.le_of_ble_eq_true rfl) (Nat.le_of_ble_eq_true rfl) ?_
  obtain ⟨r6, e6, e⟩ := sh_bc_e e
  refine sh_Lk_cV (r := (some (.int (sh_b2 r6)))) (st2 := [.int (sh_b2 r6)]) (pc2 := 46) (k2 := 95) (a := 23) (as := [.ref 24, .int (sf_42 1 (sf_93 r2)), .int (sf_94 r2)]) (rest := []) rfl rfl rfl (fun hT => (sh_s23 hT.st)) rfl rfl ⟨Nat.le_of_ble_eq_true rfl, Nat.le_of_ble_eq_true rfl⟩ (sl_95 (by decide) e6 ⟨rfl, rfl⟩) rfl rfl (Nat.le_of_ble_eq_true rfl) (Nat.le_of_ble_eq_true rfl) ?_
  rcases sh_ite e with ⟨c, e⟩ | ⟨c, e⟩
  · refine sh_Lk_lift (T := m11.T) (I := m11.I) (J := m11.J) (s := m11.s) (pc2 := 59) (lv2 := [(3, .int r2), (2, .int ((m.I 48 4) - 1)), (0, .ref 42), (1, .int x1)]) (st2 := []) (I2 := m11.I) (J2 := m11.J) (fun hT v kk => ?_) ?_
    · refine sh_j0 (c := .ne) (off := (13)) (pc2 := 59) true rfl (sh_Znet c) rfl ?_
      exact kk
    exact sh_Lk_sub (sh_sub_c rfl (sh_sub_c rfl (sh_sub_c rfl (sh_sub_n)))) (sl_154_59 e tg)
  · refine sh_Lk_lift (T := m11.T) (I := m11.I) (J := m11.J) (s := m11.s) (pc2 := 56) (lv2 := [(3, .int r2), (2, .int ((m.I 48 4) - 1)), (0, .ref 42), (1, .int x1)]) (st2 := [.int x1, .int 6, .ref 3]) (I2 := m11.I) (J2 := m11.J) (fun hT v kk => ?_) ?_
    · refine sh_j0 (c := .ne) (off := (13)) (pc2 := 49) false rfl (sh_Znef c) rfl ?_
      refine sh_w (i := (.aload_n 0)) (len := 1) (pc2 := 50) (lv2 := [(3, .int r2), (2, .int ((m.I 48 4) - 1)), (0, .ref 42), (1, .int x1)]) (st2 := [.ref 42]) (h2 := (sh_rep m11.T m11.I m11.J)) rfl rfl rfl ?_
      refine sh_gR1 (len := 3) (x := .ref 3) (pc2 := 53) rfl rfl (sh_s41 hT.st) rfl rfl ?_
      refine sh_w (i := (.bipush 6)) (len := 2) (pc2 := 55) (lv2 := [(3, .int r2), (2, .int ((m.I 48 4) - 1)), (0, .ref 42), (1, .int x1)]) (st2 := [.int 6, .ref 3]) (h2 := (sh_rep m11.T m11.I m11.J)) rfl rfl rfl ?_
      refine sh_w (i := (.iload_n 1)) (len := 1) (pc2 := 56) (lv2 := [(3, .int r2), (2, .int ((m.I 48 4) - 1)), (0, .ref 42), (1, .int x1)]) (st2 := [.int x1, .int 6, .ref 3]) (h2 := (sh_rep m11.T m11.I m11.J)) rfl rfl rfl ?_
      exact kk
    rcases sh_bt_e e with ⟨m17, e7, rfl⟩ | ⟨r7, m17, e7, e⟩
    · obtain ⟨rfl, rfl⟩ := tg
      exact sh_Lk_tV (k2 := 50) (a := 2) (as := [.ref 3, .int 6, .int x1]) (rest := []) rfl rfl rfl (fun hT => hT.t2) rfl rfl ⟨Nat.le_of_ble_eq_true rfl, Nat.le_of_ble_eq_true rfl⟩ (sl_50 e7 ⟨rfl, rfl⟩) rfl (Nat.le_of_ble_eq_true rfl) (Nat.le_of_ble_eq_true rfl) (Nat.le_of_ble_eq_true rfl) (Nat.le_of_ble_eq_true rfl) rfl
    refine sh_Lk_cV (r := none) (st2 := []) (pc2 := 59) (k2 := 50) (a := 2) (as := [.ref 3, .int 6, .int x1]) (rest := []) rfl rfl rfl (fun hT => hT.t2) rfl rfl ⟨Nat.le_of_ble_eq_true rfl, Nat.le_of_ble_eq_true rfl⟩ (sl_50 e7 ⟨rfl, rfl⟩) rfl rfl (Nat.le_of_ble_eq_true rfl) (Nat.le_of_ble_eq_true rfl) ?_
    exact sh_Lk_sub (sh_sub_c rfl (sh_sub_c rfl (sh_sub_c rfl (sh_sub_n)))) (sl_154_59 e tg)
theorem sl_156 {x1 : Int32} {m m2 : sh_X} {o : Outcome} {z : Bool} (e : sf_156 x1 m = some z) (tg : (sh_tZc m o m2) z) : sh_Lk 156 0 [(0, .ref 29), (1, .int x1)] [] m o m2 8 200 := by
  unfold sf_156 at e
  refine sh_Lk_lift (T := m.T) (I := m.I) (J := m.J) (s := m.s) (pc2 := 1) (lv2 := [(0, .ref 29), (1, .int x1)]) (st2 := [.int x1]) (I2 := m.I) (J2 := m.J) (fun hT v kk => ?_) ?_
  · refine sh_w (i := (.iload_n 1)) (len := 1) (pc2 := 1) (lv2 := [(0, .ref 29), (1, .int x1)]) (st2 := [.int x1]) (h2 := (sh_rep m.T m.I m.J)) rfl rfl rfl ?_
    exact kk
  rcases sh_ite e with ⟨c, e⟩ | ⟨c, e⟩
  · refine sh_Lk_lift (T := m.T) (I := m.I) (J := m.J) (s := m.s) (pc2 := 17) (lv2 := [(0, .ref 29), (1, .int x1)]) (st2 := [.int 0]) (I2 := m.I) (J2 := m.J) (fun hT v kk => ?_) ?_
    · refine sh_j0 (c := .lt) (off := (15)) (pc2 := 16) true rfl (sh_Bltt c) rfl ?_
      refine sh_w (i := (.iconst 0)) (len := 1) (pc2 := 17) (lv2 := [(0, .ref 29), (1, .int x1)]) (st2 := [.int 0]) (h2 := (sh_rep m.T m.I m.J)) rfl rfl rfl ?_
      exact kk
    obtain rfl := Option.some.inj e
    obtain ⟨rfl, rfl⟩ := tg
    exact sh_Lk_ret (i := .ireturn) rfl rfl rfl (Nat.le_of_ble_eq_true rfl) (Nat.le_of_ble_eq_true rfl)
  · refine sh_Lk_lift (T := m.T) (I := m.I) (J := m.J) (s := m.s) (pc2 := 9) (lv2 := [(0, .ref 29), (1, .int x1)]) (st2 := [.int (m.I 28 12), .int x1]) (I2 := m.I) (J2 := m.J) (fun hT v kk => ?_) ?_
    · refine sh_j0 (c := .lt) (off := (15)) (pc2 := 4) false rfl (sh_Bltf c) rfl ?_
      refine sh_w (i := (.iload_n 1)) (len := 1) (pc2 := 5) (lv2 := [(0, .ref 29), (1, .int x1)]) (st2 := [.int x1]) (h2 := (sh_rep m.T m.I m.J)) rfl rfl rfl ?_
      refine sh_w (i := (.aload_n 0)) (len := 1) (pc2 := 6) (lv2 := [(0, .ref 29), (1, .int x1)]) (st2 := [.ref 29, .int x1]) (h2 := (sh_rep m.T m.I m.J)) rfl rfl rfl ?_
      refine sh_gI1 (len := 3) (x := m.I 28 12) (pc2 := 9) rfl rfl (sh_s28 hT.st) rfl rfl rfl ?_
      exact kk
    rcases sh_ite e with ⟨c, e⟩ | ⟨c, e⟩
    · refine sh_Lk_lift (T := m.T) (I := m.I) (J := m.J) (s := m.s) (pc2 := 17) (lv2 := [(0, .ref 29), (1, .int x1)]) (st2 := [.int 1]) (I2 := m.I) (J2 := m.J) (fun hT v kk => ?_) ?_
      · refine sh_jc (c := .ge) (off := (7)) (pc2 := 12) false rfl (sh_Bgef c) rfl ?_
        refine sh_w (i := (.iconst 1)) (len := 1) (pc2 := 13) (lv2 := [(0, .ref 29), (1, .int x1)]) (st2 := [.int 1]) (h2 := (sh_rep m.T m.I m.J)) rfl rfl rfl ?_
        refine sh_w (i := (.goto 4)) (len := 3) (pc2 := 17) (lv2 := [(0, .ref 29), (1, .int x1)]) (st2 := [.int 1]) (h2 := (sh_rep m.T m.I m.J)) rfl rfl rfl ?_
        exact kk
      obtain rfl := Option.some.inj e
      obtain ⟨rfl, rfl⟩ := tg
      exact sh_Lk_ret (i := .ireturn) rfl rfl rfl (Nat.le_of_ble_eq_true rfl) (Nat.le_of_ble_eq_true rfl)
    · refine sh_Lk_lift (T := m.T) (I := m.I) (J := m.J) (s := m.s) (pc2 := 17) (lv2 := [(0, .ref 29), (1, .int x1)]) (st2 := [.int 0]) (I2 := m.I) (J2 := m.J) (fun hT v kk => ?_) ?_
      · refine sh_jc (c := .ge) (off := (7)) (pc2 := 16) true rfl (sh_Bget c) rfl ?_
        refine sh_w (i := (.iconst 0)) (len := 1) (pc2 := 17) (lv2 := [(0, .ref 29), (1, .int x1)]) (st2 := [.int 0]) (h2 := (sh_rep m.T m.I m.J)) rfl rfl rfl ?_
        exact kk
      obtain rfl := Option.some.inj e
      obtain ⟨rfl, rfl⟩ := tg
      exact sh_Lk_ret (i := .ireturn) rfl rfl rfl (Nat.le_of_ble_eq_true rfl) (Nat.le_of_ble_eq_true rfl)
theorem sl_155_60 {x3 : Int32} {m m2 : sh_X} {o : Outcome} {z : (Option Unit × sh_X)} (e : sf_155_60 x3 m = some z) (tg : (sh_tVt o m2) z) : sh_Lk 155 60 [(0, .ref 42), (3, .int x3)] [] m o m2 11 265 := by
  unfold sf_155_60 at e
  refine sh_Lk_lift (T := m.T) (I := m.I) (J := m.J) (s := m.s) (pc2 := 67) (lv2 := [(0, .ref 42), (3, .int x3)]) (st2 := [.int 1024, .int (m.I 41 12)]) (I2 := m.I) (J2 := m.J) (fun hT v kk => ?_) ?_
  · refine sh_w (i := (.aload_n 0)) (len := 1) (pc2 := 61) (lv2 := [(0, .ref 42), (3, .int x3)]) (st2 := [.ref 42]) (h2 := (sh_rep m.T m.I m.J)) rfl rfl rfl ?_
    refine sh_gI1 (len := 3) (x := m.I 41 12) (pc2 := 64) rfl rfl (sh_s41 hT.st) rfl rfl rfl ?_
    refine sh_w (i := (.sipush 1024)) (len := 3) (pc2 := 67) (lv2 := [(0, .ref 42), (3, .int x3)]) (st2 := [.int 1024, .int (m.I 41 12)]) (h2 := (sh_rep m.T m.I m.J)) rfl rfl rfl ?_
    exact kk
  rcases sh_ite e with ⟨c, e⟩ | ⟨c, e⟩
  · refine sh_Lk_lift (T := m.T) (I := m.I) (J := m.J) (s := m.s) (pc2 := 79) (lv2 := [(0, .ref 42), (3, .int x3)]) (st2 := [.int x3, .int (m.I 41 12), .ref 44]) (I2 := m.I) (J2 := m.J) (fun hT v kk => ?_) ?_
    · refine sh_jc (c := .ge) (off := (23)) (pc2 := 70) false rfl (sh_Bgef c) rfl ?_
      refine sh_w (i := (.aload_n 0)) (len := 1) (pc2 := 71) (lv2 := [(0, .ref 42), (3, .int x3)]) (st2 := [.ref 42]) (h2 := (sh_rep m.T m.I m.J)) rfl rfl rfl ?_
      refine sh_gR1 (len := 3) (x := .ref 44) (pc2 := 74) rfl rfl (sh_s41 hT.st) rfl rfl ?_
      refine sh_w (i := (.aload_n 0)) (len := 1) (pc2 := 75) (lv2 := [(0, .ref 42), (3, .int x3)]) (st2 := [.ref 42, .ref 44]) (h2 := (sh_rep m.T m.I m.J)) rfl rfl rfl ?_
      refine sh_gI1 (len := 3) (x := m.I 41 12) (pc2 := 78) rfl rfl (sh_s41 hT.st) rfl rfl rfl ?_
      refine sh_w (i := (.iload_n 3)) (len := 1) (pc2 := 79) (lv2 := [(0, .ref 42), (3, .int x3)]) (st2 := [.int x3, .int (m.I 41 12), .ref 44]) (h2 := (sh_rep m.T m.I m.J)) rfl rfl rfl ?_
      exact kk
    obtain ⟨c, e⟩ := sh_gd e
    refine sh_Lk_lift (T := m.T) (I := m.I) (J := m.J) (s := m.s) (pc2 := 90) (lv2 := [(0, .ref 42), (3, .int x3)]) (st2 := []) (I2 := sh_u2 (sh_u2 m.I 43 (Int32.toNatClampNeg (m.I 41 12)) x3) 41 12 ((m.I 41 12) + 1)) (J2 := m.J) (fun hT v kk => ?_) ?_
    · refine sh_is1 (x := x3) (i := m.I 41 12) (pc2 := 80) rfl (sh_s43 hT.st) (sh_okb1 c) (sh_okb2 c) rfl ?_
      refine sh_w (i := (.aload_n 0)) (len := 1) (pc2 := 81) (lv2 := [(0, .ref 42), (3, .int x3)]) (st2 := [.ref 42]) (h2 := (sh_rep m.T (sh_u2 m.I 43 (Int32.toNatClampNeg (m.I 41 12)) x3) m.J)) rfl rfl rfl ?_
      refine sh_w (i := .dup) (len := 1) (pc2 := 82) (lv2 := [(0, .ref 42), (3, .int x3)]) (st2 := [.ref 42, .ref 42]) (h2 := (sh_rep m.T (sh_u2 m.I 43 (Int32.toNatClampNeg (m.I 41 12)) x3) m.J)) rfl rfl rfl ?_
      refine sh_gI1 (len := 3) (x := m.I 41 12) (pc2 := 85) rfl rfl (sh_s41 hT.st) rfl rfl rfl ?_
      refine sh_w (i := (.iconst 1)) (len := 1) (pc2 := 86) (lv2 := [(0, .ref 42), (3, .int x3)]) (st2 := [.int 1, .int (m.I 41 12), .ref 42]) (h2 := (sh_rep m.T (sh_u2 m.I 43 (Int32.toNatClampNeg (m.I 41 12)) x3) m.J)) rfl rfl rfl ?_
      refine sh_w (i := .iadd) (len := 1) (pc2 := 87) (lv2 := [(0, .ref 42), (3, .int x3)]) (st2 := [.int ((m.I 41 12) + 1), .ref 42]) (h2 := (sh_rep m.T (sh_u2 m.I 43 (Int32.toNatClampNeg (m.I 41 12)) x3) m.J)) rfl rfl rfl ?_
      refine sh_pI1 (x := (m.I 41 12) + 1) (pc2 := 90) rfl rfl (sh_s41 hT.st) rfl rfl rfl rfl ?_
      exact kk
    obtain rfl := Option.some.inj e
    obtain ⟨rfl, rfl⟩ := tg
    exact sh_Lk_ret (i := .return_) rfl rfl rfl (Nat.le_of_ble_eq_true rfl) (Nat.le_of_ble_eq_true rfl)
  · refine sh_Lk_lift (T := m.T) (I := m.I) (J := m.J) (s := m.s) (pc2 := 90) (lv2 := [(0, .ref 42), (3, .int x3)]) (st2 := []) (I2 := m.I) (J2 := m.J) (fun hT v kk => ?_) ?_
    · refine sh_jc (c := .ge) (off := (23)) (pc2 := 90) true rfl (sh_Bget c) rfl ?_
      exact kk
    obtain rfl := Option.some.inj e
    obtain ⟨rfl, rfl⟩ := tg
    exact sh_Lk_ret (i := .return_) rfl rfl rfl (Nat.le_of_ble_eq_true rfl) (Nat.le_of_ble_eq_true rfl)
theorem sl_155 {x1 : Int32} {x2 : Int32} {m m2 : sh_X} {o : Outcome} {z : (Option Unit × sh_X)} (e : sf_155 x1 x2 m = some z) (tg : (sh_tVt o m2) z) : sh_Lk 155 0 [(0, .ref 42), (1, .int x1), (2, .int x2)] [] m o m2 11 265 := by
  unfold sf_155 at e
  refine sh_Lk_lift (T := m.T) (I := m.I) (J := m.J) (s := m.s) (pc2 := 6) (lv2 := [(0, .ref 42), (1, .int x1), (2, .int x2)]) (st2 := [.int x1, .ref 3, .ref 42]) (I2 := m.I) (J2 := m.J) (fun hT v kk => ?_) ?_
  · refine sh_w (i := (.aload_n 0)) (len := 1) (pc2 := 1) (lv2 := [(0, .ref 42), (1, .int x1), (2, .int x2)]) (st2 := [.ref 42]) (h2 := (sh_rep m.T m.I m.J)) rfl rfl rfl ?_
    refine sh_w (i := (.aload_n 0)) (len := 1) (pc2 := 2) (lv2 := [(0, .ref 42), (1, .int x1), (2, .int x2)]) (st2 := [.ref 42, .ref 42]) (h2 := (sh_rep m.T m.I m.J)) rfl rfl rfl ?_
    refine sh_gR1 (len := 3) (x := .ref 3) (pc2 := 5) rfl rfl (sh_s41 hT.st) rfl rfl ?_
    refine sh_w (i := (.iload_n 1)) (len := 1) (pc2 := 6) (lv2 := [(0, .ref 42), (1, .int x1), (2, .int x2)]) (st2 := [.int x1, .ref 3, .ref 42]) (h2 := (sh_rep m.T m.I m.J)) rfl rfl rfl ?_
    exact kk
  obtain ⟨r1, e1, e⟩ := sh_bc_e e
  refine sh_Lk_cV (r := (some (.int r1))) (st2 := [.int r1, .ref 42]) (pc2 := 9) (k2 := 83) (a := 2) (as := [.ref 3, .int x1]) (rest := [.ref 42]) rfl rfl rfl (fun hT => hT.t2) rfl rfl ⟨Nat.le_of_ble_eq_true rfl, Nat.le_of_ble_eq_true rfl⟩ (sl_83 e1 ⟨rfl, rfl⟩) rfl rfl (Nat.le_of_ble_eq_true rfl) (Nat.le_of_ble_eq_true rfl) ?_
  refine sh_Lk_lift (T := m.T) (I := m.I) (J := m.J) (s := m.s) (pc2 := 13) (lv2 := [(0, .ref 42), (1, .int x1), (2, .int x2)]) (st2 := [.int (m.I 41 18), .int r1, .ref 42]) (I2 := m.I) (J2 := m.J) (fun hT v kk => ?_) ?_
  · refine sh_w (i := (.aload_n 0)) (len := 1) (pc2 := 10) (lv2 := [(0, .ref 42), (1, .int x1), (2, .int x2)]) (st2 := [.ref 42, .int r1, .ref 42]) (h2 := (sh_rep m.T m.I m.J)) rfl rfl rfl ?_
    refine sh_gI1 (len := 3) (x := m.I 41 18) (pc2 := 13) rfl rfl (sh_s41 hT.st) rfl rfl rfl ?_
    exact kk
  obtain ⟨r2, e2, e⟩ := sh_bc_e e
  refine sh_Lk_cV (r := (some (.int r2))) (st2 := [.int r2]) (pc2 := 16) (k2 := 84) (a := 41) (as := [.ref 42, .int r1, .int (m.I 41 18)]) (rest := []) rfl rfl rfl (fun hT => (sh_s41 hT.st)) rfl rfl ⟨Nat.le_of_ble_eq_true rfl, Nat.le_of_ble_eq_true rfl⟩ (sl_84 e2 ⟨rfl, rfl⟩) rfl rfl (Nat.le_of_ble_eq_true rfl) (Nat.le_of_ble_eq_true rfl) ?_
  refine sh_Lk_lift (T := m.T) (I := m.I) (J := m.J) (s := m.s) (pc2 := 22) (lv2 := [(3, .int r2), (0, .ref 42), (1, .int x1), (2, .int x2)]) (st2 := [.int r2, .ref 29]) (I2 := m.I) (J2 := m.J) (fun hT v kk => ?_) ?_
  · refine sh_w (i := (.istore_n 3)) (len := 1) (pc2 := 17) (lv2 := [(3, .int r2), (0, .ref 42), (1, .int x1), (2, .int x2)]) (st2 := []) (h2 := (sh_rep m.T m.I m.J)) rfl rfl rfl ?_
    refine sh_w (i := (.aload_n 0)) (len := 1) (pc2 := 18) (lv2 := [(3, .int r2), (0, .ref 42), (1, .int x1), (2, .int x2)]) (st2 := [.ref 42]) (h2 := (sh_rep m.T m.I m.J)) rfl rfl rfl ?_
    refine sh_gR1 (len := 3) (x := .ref 29) (pc2 := 21) rfl rfl (sh_s41 hT.st) rfl rfl ?_
    refine sh_w (i := (.iload_n 3)) (len := 1) (pc2 := 22) (lv2 := [(3, .int r2), (0, .ref 42), (1, .int x1), (2, .int x2)]) (st2 := [.int r2, .ref 29]) (h2 := (sh_rep m.T m.I m.J)) rfl rfl rfl ?_
    exact kk
  obtain ⟨r3, e3, e⟩ := sh_bc_e e
  refine sh_Lk_cV (r := (some (.int (sh_b2 r3)))) (st2 := [.int (sh_b2 r3)]) (pc2 := 25) (k2 := 156) (a := 28) (as := [.ref 29, .int r2]) (rest := []) rfl rfl rfl (fun hT => (sh_s28 hT.st)) rfl rfl ⟨Nat.le_of_ble_eq_true rfl, Nat.le_of_ble_eq_true rfl⟩ (sl_156 e3 ⟨rfl, rfl⟩) rfl rfl (Nat.le_of_ble_eq_true rfl) (Nat.le_of_ble_eq_true rfl) ?_
  rcases sh_ite e with ⟨c, e⟩ | ⟨c, e⟩
  · refine sh_Lk_lift (T := m.T) (I := m.I) (J := m.J) (s := m.s) (pc2 := 46) (lv2 := [(3, .int r2), (0, .ref 42), (1, .int x1), (2, .int x2)]) (st2 := [.int r2, .ref 34]) (I2 := m.I) (J2 := m.J) (fun hT v kk => ?_) ?_
    · refine sh_j0 (c := .ne) (off := (13)) (pc2 := 38) true rfl (sh_Znet c) rfl ?_
      refine sh_w (i := (.aload_n 0)) (len := 1) (pc2 := 39) (lv2 := [(3, .int r2), (0, .ref 42), (1, .int x1), (2, .int x2)]) (st2 := [.ref 42]) (h2 := (sh_rep m.T m.I m.J)) rfl rfl rfl ?_
      refine sh_gR1 (len := 3) (x := .ref 29) (pc2 := 42) rfl rfl (sh_s41 hT.st) rfl rfl ?_
      refine sh_gR1 (len := 3) (x := .ref 34) (pc2 := 45) rfl rfl (sh_s28 hT.st) rfl rfl ?_
      refine sh_w (i := (.iload_n 3)) (len := 1) (pc2 := 46) (lv2 := [(3, .int r2), (0, .ref 42), (1, .int x1), (2, .int x2)]) (st2 := [.int r2, .ref 34]) (h2 := (sh_rep m.T m.I m.J)) rfl rfl rfl ?_
      exact kk
    obtain ⟨c, e⟩ := sh_gd e
    refine sh_Lk_lift (T := m.T) (I := m.I) (J := m.J) (s := m.s) (pc2 := 48) (lv2 := [(3, .int r2), (0, .ref 42), (1, .int x1), (2, .int x2)]) (st2 := [.int x2, .int (m.I 33 (Int32.toNatClampNeg r2))]) (I2 := m.I) (J2 := m.J) (fun hT v kk => ?_) ?_
    · refine sh_ia1 (x := m.I 33 (Int32.toNatClampNeg r2)) (pc2 := 47) rfl (sh_s33 hT.st) (sh_okb1 c) (sh_okb2 c) rfl rfl ?_
      refine sh_w (i := (.iload_n 2)) (len := 1) (pc2 := 48) (lv2 := [(3, .int r2), (0, .ref 42), (1, .int x1), (2, .int x2)]) (st2 := [.int x2, .int (m.I 33 (Int32.toNatClampNeg r2))]) (h2 := (sh_rep m.T m.I m.J)) rfl rfl rfl ?_
      exact kk
    rcases sh_ite e with ⟨c, e⟩ | ⟨c, e⟩
    · refine sh_Lk_lift (T := m.T) (I := m.I) (J := m.J) (s := m.s) (pc2 := 60) (lv2 := [(3, .int r2), (0, .ref 42), (1, .int x1), (2, .int x2)]) (st2 := []) (I2 := m.I) (J2 := m.J) (fun hT v kk => ?_) ?_
      · refine sh_jc (c := .eq) (off := (12)) (pc2 := 60) true rfl (sh_Beqt c) rfl ?_
        exact kk
      exact sh_Lk_sub (sh_sub_c rfl (sh_sub_c rfl (sh_sub_n))) (sl_155_60 e tg)
    · refine sh_Lk_lift (T := m.T) (I := m.I) (J := m.J) (s := m.s) (pc2 := 57) (lv2 := [(3, .int r2), (0, .ref 42), (1, .int x1), (2, .int x2)]) (st2 := [.int x1, .int 4, .ref 3]) (I2 := m.I) (J2 := m.J) (fun hT v kk => ?_) ?_
      · refine sh_jc (c := .eq) (off := (12)) (pc2 := 51) false rfl (sh_Beqf c) rfl ?_
        refine sh_w (i := (.aload_n 0)) (len := 1) (pc2 := 52) (lv2 := [(3, .int r2), (0, .ref 42), (1, .int x1), (2, .int x2)]) (st2 := [.ref 42]) (h2 := (sh_rep m.T m.I m.J)) rfl rfl rfl ?_
        refine sh_gR1 (len := 3) (x := .ref 3) (pc2 := 55) rfl rfl (sh_s41 hT.st) rfl rfl ?_
        refine sh_w (i := (.iconst 4)) (len := 1) (pc2 := 56) (lv2 := [(3, .int r2), (0, .ref 42), (1, .int x1), (2, .int x2)]) (st2 := [.int 4, .ref 3]) (h2 := (sh_rep m.T m.I m.J)) rfl rfl rfl ?_
        refine sh_w (i := (.iload_n 1)) (len := 1) (pc2 := 57) (lv2 := [(3, .int r2), (0, .ref 42), (1, .int x1), (2, .int x2)]) (st2 := [.int x1, .int 4, .ref 3]) (h2 := (sh_rep m.T m.I m.J)) rfl rfl rfl ?_
        exact kk
      rcases sh_bt_e e with ⟨m14, e4, rfl⟩ | ⟨r4, m14, e4, e⟩
      · obtain ⟨rfl, rfl⟩ := tg
        exact sh_Lk_tV (k2 := 50) (a := 2) (as := [.ref 3, .int 4, .int x1]) (rest := []) rfl rfl rfl (fun hT => hT.t2) rfl rfl ⟨Nat.le_of_ble_eq_true rfl, Nat.le_of_ble_eq_true rfl⟩ (sl_50 e4 ⟨rfl, rfl⟩) rfl (Nat.le_of_ble_eq_true rfl) (Nat.le_of_ble_eq_true rfl) (Nat.le_of_ble_eq_true rfl) (Nat.le_of_ble_eq_true rfl) rfl
      refine sh_Lk_cV (r := none) (st2 := []) (pc2 := 60) (k2 := 50) (a := 2) (as := [.ref 3, .int 4, .int x1]) (rest := []) rfl rfl rfl (fun hT => hT.t2) rfl rfl ⟨Nat.le_of_ble_eq_true rfl, Nat.le_of_ble_eq_true rfl⟩ (sl_50 e4 ⟨rfl, rfl⟩) rfl rfl (Nat.le_of_ble_eq_true rfl) (Nat.le_of_ble_eq_true rfl) ?_
      exact sh_Lk_sub (sh_sub_c rfl (sh_sub_c rfl (sh_sub_n))) (sl_155_60 e tg)
  · refine sh_Lk_lift (T := m.T) (I := m.I) (J := m.J) (s := m.s) (pc2 := 34) (lv2 := [(3, .int r2), (0, .ref 42), (1, .int x1), (2, .int x2)]) (st2 := [.int x1, .int 3, .ref 3]) (I2 := m.I) (J2 := m.J) (fun hT v kk => ?_) ?_
    · refine sh_j0 (c := .ne) (off := (13)) (pc2 := 28) false rfl (sh_Znef c) rfl ?_
      refine sh_w (i := (.aload_n 0)) (len := 1) (pc2 := 29) (lv2 := [(3, .int r2), (0, .ref 42), (1, .int x1), (2, .int x2)]) (st2 := [.ref 42]) (h2 := (sh_rep m.T m.I m.J)) rfl rfl rfl ?_
      refine sh_gR1 (len := 3) (x := .ref 3) (pc2 := 32) rfl rfl (sh_s41 hT.st) rfl rfl ?_
      refine sh_w (i := (.iconst 3)) (len := 1) (pc2 := 33) (lv2 := [(3, .int r2), (0, .ref 42), (1, .int x1), (2, .int x2)]) (st2 := [.int 3, .ref 3]) (h2 := (sh_rep m.T m.I m.J)) rfl rfl rfl ?_
      refine sh_w (i := (.iload_n 1)) (len := 1) (pc2 := 34) (lv2 := [(3, .int r2), (0, .ref 42), (1, .int x1), (2, .int x2)]) (st2 := [.int x1, .int 3, .ref 3]) (h2 := (sh_rep m.T m.I m.J)) rfl rfl rfl ?_
      exact kk
    rcases sh_bt_e e with ⟨m15, e5, rfl⟩ | ⟨r5, m15, e5, e⟩
    · obtain ⟨rfl, rfl⟩ := tg
      exact sh_Lk_tV (k2 := 50) (a := 2) (as := [.ref 3, .int 3, .int x1]) (rest := []) rfl rfl rfl (fun hT => hT.t2) rfl rfl ⟨Nat.le_of_ble_eq_true rfl, Nat.le_of_ble_eq_true rfl⟩ (sl_50 e5 ⟨rfl, rfl⟩) rfl (Nat.le_of_ble_eq_true rfl) (Nat.le_of_ble_eq_true rfl) (Nat.le_of_ble_eq_true rfl) (Nat.le_of_ble_eq_true rfl) rfl
    refine sh_Lk_cV (r := none) (st2 := []) (pc2 := 37) (k2 := 50) (a := 2) (as := [.ref 3, .int 3, .int x1]) (rest := []) rfl rfl rfl (fun hT => hT.t2) rfl rfl ⟨Nat.le_of_ble_eq_true rfl, Nat.le_of_ble_eq_true rfl⟩ (sl_50 e5 ⟨rfl, rfl⟩) rfl rfl (Nat.le_of_ble_eq_true rfl) (Nat.le_of_ble_eq_true rfl) ?_
    obtain rfl := Option.some.inj e
    obtain ⟨rfl, rfl⟩ := tg
    exact sh_Lk_ret (i := .return_) rfl rfl rfl (Nat.le_of_ble_eq_true rfl) (Nat.le_of_ble_eq_true rfl)
theorem sl_158 {m m2 : sh_X} {o : Outcome} {z : Int32} (e : sf_158 m = some z) (tg : (sh_tIc m o m2) z) : sh_Lk 158 0 [(0, .ref 42)] [] m o m2 8 200 := by
  unfold sf_158 at e
  refine sh_Lk_lift (T := m.T) (I := m.I) (J := m.J) (s := m.s) (pc2 := 4) (lv2 := [(0, .ref 42)]) (st2 := [.int (m.I 41 12)]) (I2 := m.I) (J2 := m.J) (fun hT v kk => ?_) ?_
  · refine sh_w (i := (.aload_n 0)) (len := 1) (pc2 := 1) (lv2 := [(0, .ref 42)]) (st2 := [.ref 42]) (h2 := (sh_rep m.T m.I m.J)) rfl rfl rfl ?_
    refine sh_gI1 (len := 3) (x := m.I 41 12) (pc2 := 4) rfl rfl (sh_s41 hT.st) rfl rfl rfl ?_
    exact kk
  rcases sh_ite e with ⟨c, e⟩ | ⟨c, e⟩
  · refine sh_Lk_lift (T := m.T) (I := m.I) (J := m.J) (s := m.s) (pc2 := 17) (lv2 := [(0, .ref 42)]) (st2 := [.int ((m.I 41 12) - 1), .ref 44]) (I2 := m.I) (J2 := m.J) (fun hT v kk => ?_) ?_
    · refine sh_j0 (c := .le) (off := (17)) (pc2 := 7) false rfl (sh_Blef c) rfl ?_
      refine sh_w (i := (.aload_n 0)) (len := 1) (pc2 := 8) (lv2 := [(0, .ref 42)]) (st2 := [.ref 42]) (h2 := (sh_rep m.T m.I m.J)) rfl rfl rfl ?_
      refine sh_gR1 (len := 3) (x := .ref 44) (pc2 := 11) rfl rfl (sh_s41 hT.st) rfl rfl ?_
      refine sh_w (i := (.aload_n 0)) (len := 1) (pc2 := 12) (lv2 := [(0, .ref 42)]) (st2 := [.ref 42, .ref 44]) (h2 := (sh_rep m.T m.I m.J)) rfl rfl rfl ?_
      refine sh_gI1 (len := 3) (x := m.I 41 12) (pc2 := 15) rfl rfl (sh_s41 hT.st) rfl rfl rfl ?_
      refine sh_w (i := (.iconst 1)) (len := 1) (pc2 := 16) (lv2 := [(0, .ref 42)]) (st2 := [.int 1, .int (m.I 41 12), .ref 44]) (h2 := (sh_rep m.T m.I m.J)) rfl rfl rfl ?_
      refine sh_w (i := .isub) (len := 1) (pc2 := 17) (lv2 := [(0, .ref 42)]) (st2 := [.int ((m.I 41 12) - 1), .ref 44]) (h2 := (sh_rep m.T m.I m.J)) rfl rfl rfl ?_
      exact kk
    obtain ⟨c, e⟩ := sh_gd e
    refine sh_Lk_lift (T := m.T) (I := m.I) (J := m.J) (s := m.s) (pc2 := 22) (lv2 := [(0, .ref 42)]) (st2 := [.int (m.I 43 (Int32.toNatClampNeg ((m.I 41 12) - 1)))]) (I2 := m.I) (J2 := m.J) (fun hT v kk => ?_) ?_
    · refine sh_ia1 (x := m.I 43 (Int32.toNatClampNeg ((m.I 41 12) - 1))) (pc2 := 18) rfl (sh_s43 hT.st) (sh_okb1 c) (sh_okb2 c) rfl rfl ?_
      refine sh_w (i := (.goto 4)) (len := 3) (pc2 := 22) (lv2 := [(0, .ref 42)]) (st2 := [.int (m.I 43 (Int32.toNatClampNeg ((m.I 41 12) - 1)))]) (h2 := (sh_rep m.T m.I m.J)) rfl rfl rfl ?_
      exact kk
    obtain rfl := Option.some.inj e
    obtain ⟨rfl, rfl⟩ := tg
    exact sh_Lk_ret (i := .ireturn) rfl rfl rfl (Nat.le_of_ble_eq_true rfl) (Nat.le_of_ble_eq_true rfl)
  · refine sh_Lk_lift (T := m.T) (I := m.I) (J := m.J) (s := m.s) (pc2 := 22) (lv2 := [(0, .ref 42)]) (st2 := [.int 0]) (I2 := m.I) (J2 := m.J) (fun hT v kk => ?_) ?_
    · refine sh_j0 (c := .le) (off := (17)) (pc2 := 21) true rfl (sh_Blet c) rfl ?_
      refine sh_w (i := (.iconst 0)) (len := 1) (pc2 := 22) (lv2 := [(0, .ref 42)]) (st2 := [.int 0]) (h2 := (sh_rep m.T m.I m.J)) rfl rfl rfl ?_
      exact kk
    obtain rfl := Option.some.inj e
    obtain ⟨rfl, rfl⟩ := tg
    exact sh_Lk_ret (i := .ireturn) rfl rfl rfl (Nat.le_of_ble_eq_true rfl) (Nat.le_of_ble_eq_true rfl)
theorem sl_157_21 {x1 : Int32} {m m2 : sh_X} {o : Outcome} {z : (Option Unit × sh_X)} (e : sf_157_21 x1 m = some z) (tg : (sh_tVt o m2) z) : sh_Lk 157 21 [(0, .ref 42), (1, .int x1)] [] m o m2 10 244 := by
  unfold sf_157_21 at e
  refine sh_Lk_lift (T := m.T) (I := m.I) (J := m.J) (s := m.s) (pc2 := 31) (lv2 := [(0, .ref 42), (1, .int x1)]) (st2 := [.ref 42, .ref 34, .int 1, .ref 42]) (I2 := m.I) (J2 := m.J) (fun hT v kk => ?_) ?_
  · refine sh_w (i := (.aload_n 0)) (len := 1) (pc2 := 22) (lv2 := [(0, .ref 42), (1, .int x1)]) (st2 := [.ref 42]) (h2 := (sh_rep m.T m.I m.J)) rfl rfl rfl ?_
    refine sh_w (i := (.iconst 1)) (len := 1) (pc2 := 23) (lv2 := [(0, .ref 42), (1, .int x1)]) (st2 := [.int 1, .ref 42]) (h2 := (sh_rep m.T m.I m.J)) rfl rfl rfl ?_
    refine sh_w (i := (.aload_n 0)) (len := 1) (pc2 := 24) (lv2 := [(0, .ref 42), (1, .int x1)]) (st2 := [.ref 42, .int 1, .ref 42]) (h2 := (sh_rep m.T m.I m.J)) rfl rfl rfl ?_
    refine sh_gR1 (len := 3) (x := .ref 29) (pc2 := 27) rfl rfl (sh_s41 hT.st) rfl rfl ?_
    refine sh_gR1 (len := 3) (x := .ref 34) (pc2 := 30) rfl rfl (sh_s28 hT.st) rfl rfl ?_
    refine sh_w (i := (.aload_n 0)) (len := 1) (pc2 := 31) (lv2 := [(0, .ref 42), (1, .int x1)]) (st2 := [.ref 42, .ref 34, .int 1, .ref 42]) (h2 := (sh_rep m.T m.I m.J)) rfl rfl rfl ?_
    exact kk
  obtain ⟨r1, e1, e⟩ := sh_bc_e e
  refine sh_Lk_cV (r := (some (.int r1))) (st2 := [.int r1, .ref 34, .int 1, .ref 42]) (pc2 := 34) (k2 := 158) (a := 41) (as := [.ref 42]) (rest := [.ref 34, .int 1, .ref 42]) rfl rfl rfl (fun hT => (sh_s41 hT.st)) rfl rfl ⟨Nat.le_of_ble_eq_true rfl, Nat.le_of_ble_eq_true rfl⟩ (sl_158 e1 ⟨rfl, rfl⟩) rfl rfl (Nat.le_of_ble_eq_true rfl) (Nat.le_of_ble_eq_true rfl) ?_
  obtain ⟨c, e⟩ := sh_gd e
  refine sh_Lk_lift (T := m.T) (I := m.I) (J := m.J) (s := m.s) (pc2 := 37) (lv2 := [(0, .ref 42), (1, .int x1)]) (st2 := [.int x1, .int (1 + (m.I 33 (Int32.toNatClampNeg r1))), .ref 42]) (I2 := m.I) (J2 := m.J) (fun hT v kk => ?_) ?_
  · refine sh_ia1 (x := m.I 33 (Int32.toNatClampNeg r1)) (pc2 := 35) rfl (sh_s33 hT.st) (sh_okb1 c) (sh_okb2 c) rfl rfl ?_
    refine sh_w (i := .iadd) (len := 1) (pc2 := 36) (lv2 := [(0, .ref 42), (1, .int x1)]) (st2 := [.int (1 + (m.I 33 (Int32.toNatClampNeg r1))), .ref 42]) (h2 := (sh_rep m.T m.I m.J)) rfl rfl rfl ?_
    refine sh_w (i := (.iload_n 1)) (len := 1) (pc2 := 37) (lv2 := [(0, .ref 42), (1, .int x1)]) (st2 := [.int x1, .int (1 + (m.I 33 (Int32.toNatClampNeg r1))), .ref 42]) (h2 := (sh_rep m.T m.I m.J)) rfl rfl rfl ?_
    exact kk
  rcases sh_bt_e e with ⟨m12, e2, rfl⟩ | ⟨r2, m12, e2, e⟩
  · obtain ⟨rfl, rfl⟩ := tg
    exact sh_Lk_tV (k2 := 90) (a := 41) (as := [.ref 42, .int (1 + (m.I 33 (Int32.toNatClampNeg r1))), .int x1]) (rest := []) rfl rfl rfl (fun hT => (sh_s41 hT.st)) rfl rfl ⟨Nat.le_of_ble_eq_true rfl, Nat.le_of_ble_eq_true rfl⟩ (sl_90 e2 ⟨rfl, rfl⟩) rfl (Nat.le_of_ble_eq_true rfl) (Nat.le_of_ble_eq_true rfl) (Nat.le_of_ble_eq_true rfl) (Nat.le_of_ble_eq_true rfl) rfl
  refine sh_Lk_cV (r := none) (st2 := []) (pc2 := 40) (k2 := 90) (a := 41) (as := [.ref 42, .int (1 + (m.I 33 (Int32.toNatClampNeg r1))), .int x1]) (rest := []) rfl rfl rfl (fun hT => (sh_s41 hT.st)) rfl rfl ⟨Nat.le_of_ble_eq_true rfl, Nat.le_of_ble_eq_true rfl⟩ (sl_90 e2 ⟨rfl, rfl⟩) rfl rfl (Nat.le_of_ble_eq_true rfl) (Nat.le_of_ble_eq_true rfl) ?_
  obtain rfl := Option.some.inj e
  obtain ⟨rfl, rfl⟩ := tg
  exact sh_Lk_ret (i := .return_) rfl rfl rfl (Nat.le_of_ble_eq_true rfl) (Nat.le_of_ble_eq_true rfl)
theorem sl_157 {x1 : Int32} {x2 : Int32} {m m2 : sh_X} {o : Outcome} {z : (Option Unit × sh_X)} (e : sf_157 x1 x2 m = some z) (tg : (sh_tVt o m2) z) : sh_Lk 157 0 [(0, .ref 42), (1, .int x1), (2, .int x2)] [] m o m2 10 244 := by
  unfold sf_157 at e
  refine sh_Lk_lift (T := m.T) (I := m.I) (J := m.J) (s := m.s) (pc2 := 8) (lv2 := [(0, .ref 42), (1, .int x1), (2, .int x2)]) (st2 := [.int 20, .int ((m.I 41 17) + x2)]) (I2 := m.I) (J2 := m.J) (fun hT v kk => ?_) ?_
  · refine sh_w (i := (.aload_n 0)) (len := 1) (pc2 := 1) (lv2 := [(0, .ref 42), (1, .int x1), (2, .int x2)]) (st2 := [.ref 42]) (h2 := (sh_rep m.T m.I m.J)) rfl rfl rfl ?_
    refine sh_gI1 (len := 3) (x := m.I 41 17) (pc2 := 4) rfl rfl (sh_s41 hT.st) rfl rfl rfl ?_
    refine sh_w (i := (.iload_n 2)) (len := 1) (pc2 := 5) (lv2 := [(0, .ref 42), (1, .int x1), (2, .int x2)]) (st2 := [.int x2, .int (m.I 41 17)]) (h2 := (sh_rep m.T m.I m.J)) rfl rfl rfl ?_
    refine sh_w (i := .iadd) (len := 1) (pc2 := 6) (lv2 := [(0, .ref 42), (1, .int x1), (2, .int x2)]) (st2 := [.int ((m.I 41 17) + x2)]) (h2 := (sh_rep m.T m.I m.J)) rfl rfl rfl ?_
    refine sh_w (i := (.bipush 20)) (len := 2) (pc2 := 8) (lv2 := [(0, .ref 42), (1, .int x1), (2, .int x2)]) (st2 := [.int 20, .int ((m.I 41 17) + x2)]) (h2 := (sh_rep m.T m.I m.J)) rfl rfl rfl ?_
    exact kk
  rcases sh_ite e with ⟨c, e⟩ | ⟨c, e⟩
  · refine sh_Lk_lift (T := m.T) (I := m.I) (J := m.J) (s := m.s) (pc2 := 18) (lv2 := [(0, .ref 42), (1, .int x1), (2, .int x2)]) (st2 := [.int x1, .int 6, .ref 3]) (I2 := m.I) (J2 := m.J) (fun hT v kk => ?_) ?_
    · refine sh_jc (c := .le) (off := (13)) (pc2 := 11) false rfl (sh_Blef c) rfl ?_
      refine sh_w (i := (.aload_n 0)) (len := 1) (pc2 := 12) (lv2 := [(0, .ref 42), (1, .int x1), (2, .int x2)]) (st2 := [.ref 42]) (h2 := (sh_rep m.T m.I m.J)) rfl rfl rfl ?_
      refine sh_gR1 (len := 3) (x := .ref 3) (pc2 := 15) rfl rfl (sh_s41 hT.st) rfl rfl ?_
      refine sh_w (i := (.bipush 6)) (len := 2) (pc2 := 17) (lv2 := [(0, .ref 42), (1, .int x1), (2, .int x2)]) (st2 := [.int 6, .ref 3]) (h2 := (sh_rep m.T m.I m.J)) rfl rfl rfl ?_
      refine sh_w (i := (.iload_n 1)) (len := 1) (pc2 := 18) (lv2 := [(0, .ref 42), (1, .int x1), (2, .int x2)]) (st2 := [.int x1, .int 6, .ref 3]) (h2 := (sh_rep m.T m.I m.J)) rfl rfl rfl ?_
      exact kk
    rcases sh_bt_e e with ⟨m11, e1, rfl⟩ | ⟨r1, m11, e1, e⟩
    · obtain ⟨rfl, rfl⟩ := tg
      exact sh_Lk_tV (k2 := 50) (a := 2) (as := [.ref 3, .int 6, .int x1]) (rest := []) rfl rfl rfl (fun hT => hT.t2) rfl rfl ⟨Nat.le_of_ble_eq_true rfl, Nat.le_of_ble_eq_true rfl⟩ (sl_50 e1 ⟨rfl, rfl⟩) rfl (Nat.le_of_ble_eq_true rfl) (Nat.le_of_ble_eq_true rfl) (Nat.le_of_ble_eq_true rfl) (Nat.le_of_ble_eq_true rfl) rfl
    refine sh_Lk_cV (r := none) (st2 := []) (pc2 := 21) (k2 := 50) (a := 2) (as := [.ref 3, .int 6, .int x1]) (rest := []) rfl rfl rfl (fun hT => hT.t2) rfl rfl ⟨Nat.le_of_ble_eq_true rfl, Nat.le_of_ble_eq_true rfl⟩ (sl_50 e1 ⟨rfl, rfl⟩) rfl rfl (Nat.le_of_ble_eq_true rfl) (Nat.le_of_ble_eq_true rfl) ?_
    exact sh_Lk_sub (sh_sub_c rfl (sh_sub_c rfl (sh_sub_n))) (sl_157_21 e tg)
  · refine sh_Lk_lift (T := m.T) (I := m.I) (J := m.J) (s := m.s) (pc2 := 21) (lv2 := [(0, .ref 42), (1, .int x1), (2, .int x2)]) (st2 := []) (I2 := m.I) (J2 := m.J) (fun hT v kk => ?_) ?_
    · refine sh_jc (c := .le) (off := (13)) (pc2 := 21) true rfl (sh_Blet c) rfl ?_
      exact kk
    exact sh_Lk_sub (sh_sub_c rfl (sh_sub_c rfl (sh_sub_n))) (sl_157_21 e tg)
theorem sl_159 {x1 : Int32} {x2 : Int32} {m m2 : sh_X} {o : Outcome} {z : (Option Unit × sh_X)} (e : sf_159 x1 x2 m = some z) (tg : (sh_tVt o m2) z) : sh_Lk 159 0 [(0, .ref 42), (1, .int x1), (2, .int x2)] [] m o m2 12 294 := by
  unfold sf_159 at e
  refine sh_Lk_lift (T := m.T) (I := m.I) (J := m.J) (s := m.s) (pc2 := 1) (lv2 := [(0, .ref 42), (1, .int x1), (2, .int x2)]) (st2 := [.ref 42]) (I2 := m.I) (J2 := m.J) (fun hT v kk => ?_) ?_
  · refine sh_w (i := (.aload_n 0)) (len := 1) (pc2 := 1) (lv2 := [(0, .ref 42), (1, .int x1), (2, .int x2)]) (st2 := [.ref 42]) (h2 := (sh_rep m.T m.I m.J)) rfl rfl rfl ?_
    exact kk
  obtain ⟨r1, e1, e⟩ := sh_bc_e e
  refine sh_Lk_cV (r := (some (.int r1))) (st2 := [.int r1]) (pc2 := 4) (k2 := 158) (a := 41) (as := [.ref 42]) (rest := []) rfl rfl rfl (fun hT => (sh_s41 hT.st)) rfl rfl ⟨Nat.le_of_ble_eq_true rfl, Nat.le_of_ble_eq_true rfl⟩ (sl_158 e1 ⟨rfl, rfl⟩) rfl rfl (Nat.le_of_ble_eq_true rfl) (Nat.le_of_ble_eq_true rfl) ?_
  refine sh_Lk_lift (T := m.T) (I := m.I) (J := m.J) (s := m.s) (pc2 := 11) (lv2 := [(3, .int ((r1 * 8) + x2)), (0, .ref 42), (1, .int x1), (2, .int x2)]) (st2 := [.int ((r1 * 8) + x2)]) (I2 := m.I) (J2 := m.J) (fun hT v kk => ?_) ?_
  · refine sh_w (i := (.bipush 8)) (len := 2) (pc2 := 6) (lv2 := [(0, .ref 42), (1, .int x1), (2, .int x2)]) (st2 := [.int 8, .int r1]) (h2 := (sh_rep m.T m.I m.J)) rfl rfl rfl ?_
    refine sh_w (i := .imul) (len := 1) (pc2 := 7) (lv2 := [(0, .ref 42), (1, .int x1), (2, .int x2)]) (st2 := [.int (r1 * 8)]) (h2 := (sh_rep m.T m.I m.J)) rfl rfl rfl ?_
    refine sh_w (i := (.iload_n 2)) (len := 1) (pc2 := 8) (lv2 := [(0, .ref 42), (1, .int x1), (2, .int x2)]) (st2 := [.int x2, .int (r1 * 8)]) (h2 := (sh_rep m.T m.I m.J)) rfl rfl rfl ?_
    refine sh_w (i := .iadd) (len := 1) (pc2 := 9) (lv2 := [(0, .ref 42), (1, .int x1), (2, .int x2)]) (st2 := [.int ((r1 * 8) + x2)]) (h2 := (sh_rep m.T m.I m.J)) rfl rfl rfl ?_
    refine sh_w (i := (.istore_n 3)) (len := 1) (pc2 := 10) (lv2 := [(3, .int ((r1 * 8) + x2)), (0, .ref 42), (1, .int x1), (2, .int x2)]) (st2 := []) (h2 := (sh_rep m.T m.I m.J)) rfl rfl rfl ?_
    refine sh_w (i := (.iload_n 3)) (len := 1) (pc2 := 11) (lv2 := [(3, .int ((r1 * 8) + x2)), (0, .ref 42), (1, .int x1), (2, .int x2)]) (st2 := [.int ((r1 * 8) + x2)]) (h2 := (sh_rep m.T m.I m.J)) rfl rfl rfl ?_
    exact kk
  rcases sh_ite e with ⟨c, e⟩ | ⟨c, e⟩
  · refine sh_Lk_lift (T := m.T) (I := m.I) (J := m.J) (s := m.s) (pc2 := 40) (lv2 := [(3, .int ((r1 * 8) + x2)), (0, .ref 42), (1, .int x1), (2, .int x2)]) (st2 := []) (I2 := m.I) (J2 := m.J) (fun hT v kk => ?_) ?_
    · refine sh_j0 (c := .lt) (off := (29)) (pc2 := 40) true rfl (sh_Bltt c) rfl ?_
      exact kk
    obtain rfl := Option.some.inj e
    obtain ⟨rfl, rfl⟩ := tg
    exact sh_Lk_ret (i := .return_) rfl rfl rfl (Nat.le_of_ble_eq_true rfl) (Nat.le_of_ble_eq_true rfl)
  · refine sh_Lk_lift (T := m.T) (I := m.I) (J := m.J) (s := m.s) (pc2 := 23) (lv2 := [(3, .int ((r1 * 8) + x2)), (0, .ref 42), (1, .int x1), (2, .int x2)]) (st2 := [.int 2048, .int ((r1 * 8) + x2)]) (I2 := m.I) (J2 := m.J) (fun hT v kk => ?_) ?_
    · refine sh_j0 (c := .lt) (off := (29)) (pc2 := 14) false rfl (sh_Bltf c) rfl ?_
      refine sh_w (i := (.iload_n 3)) (len := 1) (pc2 := 15) (lv2 := [(3, .int ((r1 * 8) + x2)), (0, .ref 42), (1, .int x1), (2, .int x2)]) (st2 := [.int ((r1 * 8) + x2)]) (h2 := (sh_rep m.T m.I m.J)) rfl rfl rfl ?_
      refine sh_w (i := (.aload_n 0)) (len := 1) (pc2 := 16) (lv2 := [(3, .int ((r1 * 8) + x2)), (0, .ref 42), (1, .int x1), (2, .int x2)]) (st2 := [.ref 42, .int ((r1 * 8) + x2)]) (h2 := (sh_rep m.T m.I m.J)) rfl rfl rfl ?_
      refine sh_gR1 (len := 3) (x := .ref 29) (pc2 := 19) rfl rfl (sh_s41 hT.st) rfl rfl ?_
      refine sh_gR1 (len := 3) (x := .ref 36) (pc2 := 22) rfl rfl (sh_s28 hT.st) rfl rfl ?_
      refine sh_al1 (pc2 := 23) rfl (sh_s35 hT.st) (by decide) rfl ?_
      exact kk
    rcases sh_ite e with ⟨c, e⟩ | ⟨c, e⟩
    · refine sh_Lk_lift (T := m.T) (I := m.I) (J := m.J) (s := m.s) (pc2 := 35) (lv2 := [(3, .int ((r1 * 8) + x2)), (0, .ref 42), (1, .int x1), (2, .int x2)]) (st2 := [.int ((r1 * 8) + x2), .ref 36, .ref 42]) (I2 := m.I) (J2 := m.J) (fun hT v kk => ?_) ?_
      · refine sh_jc (c := .ge) (off := (17)) (pc2 := 26) false rfl (sh_Bgef c) rfl ?_
        refine sh_w (i := (.aload_n 0)) (len := 1) (pc2 := 27) (lv2 := [(3, .int ((r1 * 8) + x2)), (0, .ref 42), (1, .int x1), (2, .int x2)]) (st2 := [.ref 42]) (h2 := (sh_rep m.T m.I m.J)) rfl rfl rfl ?_
        refine sh_w (i := (.aload_n 0)) (len := 1) (pc2 := 28) (lv2 := [(3, .int ((r1 * 8) + x2)), (0, .ref 42), (1, .int x1), (2, .int x2)]) (st2 := [.ref 42, .ref 42]) (h2 := (sh_rep m.T m.I m.J)) rfl rfl rfl ?_
        refine sh_gR1 (len := 3) (x := .ref 29) (pc2 := 31) rfl rfl (sh_s41 hT.st) rfl rfl ?_
        refine sh_gR1 (len := 3) (x := .ref 36) (pc2 := 34) rfl rfl (sh_s28 hT.st) rfl rfl ?_
        refine sh_w (i := (.iload_n 3)) (len := 1) (pc2 := 35) (lv2 := [(3, .int ((r1 * 8) + x2)), (0, .ref 42), (1, .int x1), (2, .int x2)]) (st2 := [.int ((r1 * 8) + x2), .ref 36, .ref 42]) (h2 := (sh_rep m.T m.I m.J)) rfl rfl rfl ?_
        exact kk
      obtain ⟨c, e⟩ := sh_gd e
      refine sh_Lk_lift (T := m.T) (I := m.I) (J := m.J) (s := m.s) (pc2 := 37) (lv2 := [(3, .int ((r1 * 8) + x2)), (0, .ref 42), (1, .int x1), (2, .int x2)]) (st2 := [.int x1, .int (m.I 35 (Int32.toNatClampNeg ((r1 * 8) + x2))), .ref 42]) (I2 := m.I) (J2 := m.J) (fun hT v kk => ?_) ?_
      · refine sh_ia1 (x := m.I 35 (Int32.toNatClampNeg ((r1 * 8) + x2))) (pc2 := 36) rfl (sh_s35 hT.st) (sh_okb1 c) (sh_okb2 c) rfl rfl ?_
        refine sh_w (i := (.iload_n 1)) (len := 1) (pc2 := 37) (lv2 := [(3, .int ((r1 * 8) + x2)), (0, .ref 42), (1, .int x1), (2, .int x2)]) (st2 := [.int x1, .int (m.I 35 (Int32.toNatClampNeg ((r1 * 8) + x2))), .ref 42]) (h2 := (sh_rep m.T m.I m.J)) rfl rfl rfl ?_
        exact kk
      rcases sh_bt_e e with ⟨m12, e2, rfl⟩ | ⟨r2, m12, e2, e⟩
      · obtain ⟨rfl, rfl⟩ := tg
        exact sh_Lk_tV (k2 := 125) (a := 41) (as := [.ref 42, .int (m.I 35 (Int32.toNatClampNeg ((r1 * 8) + x2))), .int x1]) (rest := []) rfl rfl rfl (fun hT => (sh_s41 hT.st)) rfl rfl ⟨Nat.le_of_ble_eq_true rfl, Nat.le_of_ble_eq_true rfl⟩ (sl_125 e2 ⟨rfl, rfl⟩) rfl (Nat.le_of_ble_eq_true rfl) (Nat.le_of_ble_eq_true rfl) (Nat.le_of_ble_eq_true rfl) (Nat.le_of_ble_eq_true rfl) rfl
      refine sh_Lk_cV (r := none) (st2 := []) (pc2 := 40) (k2 := 125) (a := 41) (as := [.ref 42, .int (m.I 35 (Int32.toNatClampNeg ((r1 * 8) + x2))), .int x1]) (rest := []) rfl rfl rfl (fun hT => (sh_s41 hT.st)) rfl rfl ⟨Nat.le_of_ble_eq_true rfl, Nat.le_of_ble_eq_true rfl⟩ (sl_125 e2 ⟨rfl, rfl⟩) rfl rfl (Nat.le_of_ble_eq_true rfl) (Nat.le_of_ble_eq_true rfl) ?_
      obtain rfl := Option.some.inj e
      obtain ⟨rfl, rfl⟩ := tg
      exact sh_Lk_ret (i := .return_) rfl rfl rfl (Nat.le_of_ble_eq_true rfl) (Nat.le_of_ble_eq_true rfl)
    · refine sh_Lk_lift (T := m.T) (I := m.I) (J := m.J) (s := m.s) (pc2 := 40) (lv2 := [(3, .int ((r1 * 8) + x2)), (0, .ref 42), (1, .int x1), (2, .int x2)]) (st2 := []) (I2 := m.I) (J2 := m.J) (fun hT v kk => ?_) ?_
      · refine sh_jc (c := .ge) (off := (17)) (pc2 := 40) true rfl (sh_Bget c) rfl ?_
        exact kk
      obtain rfl := Option.some.inj e
      obtain ⟨rfl, rfl⟩ := tg
      exact sh_Lk_ret (i := .return_) rfl rfl rfl (Nat.le_of_ble_eq_true rfl) (Nat.le_of_ble_eq_true rfl)
theorem sl_160_167 {x1 : Int32} {x2 : Int32} {x3 : Int32} {m m2 : sh_X} {o : Outcome} {z : (Unit × sh_X)} (e : sf_160_167 x1 x2 x3 m = some z) (tg : (sh_tV o m2) z) : sh_Lk 160 167 [(0, .ref 42), (1, .int x1), (2, .int x2), (3, .int x3)] [] m o m2 10 242 := by
  unfold sf_160_167 at e
  refine sh_Lk_lift (T := m.T) (I := m.I) (J := m.J) (s := m.s) (pc2 := 172) (lv2 := [(0, .ref 42), (1, .int x1), (2, .int x2), (3, .int x3)]) (st2 := [.int x3, .ref 49]) (I2 := m.I) (J2 := m.J) (fun hT v kk => ?_) ?_
  · refine sh_w (i := (.aload_n 0)) (len := 1) (pc2 := 168) (lv2 := [(0, .ref 42), (1, .int x1), (2, .int x2), (3, .int x3)]) (st2 := [.ref 42]) (h2 := (sh_rep m.T m.I m.J)) rfl rfl rfl ?_
    refine sh_gR1 (len := 3) (x := .ref 49) (pc2 := 171) rfl rfl (sh_s41 hT.st) rfl rfl ?_
    refine sh_w (i := (.iload_n 3)) (len := 1) (pc2 := 172) (lv2 := [(0, .ref 42), (1, .int x1), (2, .int x2), (3, .int x3)]) (st2 := [.int x3, .ref 49]) (h2 := (sh_rep m.T m.I m.J)) rfl rfl rfl ?_
    exact kk
  obtain ⟨r1, m11, e1, e⟩ := sh_bn_e e
  refine sh_Lk_cV (r := none) (st2 := []) (pc2 := 175) (k2 := 118) (a := 48) (as := [.ref 49, .int x3]) (rest := []) rfl rfl rfl (fun hT => (sh_s48 hT.st)) rfl rfl ⟨Nat.le_of_ble_eq_true rfl, Nat.le_of_ble_eq_true rfl⟩ (sl_118 e1 ⟨rfl, rfl⟩) rfl rfl (Nat.le_of_ble_eq_true rfl) (Nat.le_of_ble_eq_true rfl) ?_
  refine sh_Lk_lift (T := m11.T) (I := m11.I) (J := m11.J) (s := m11.s) (pc2 := 199) (lv2 := [(0, .ref 42), (1, .int x1), (2, .int x2), (3, .int x3)]) (st2 := [.int x2, .ref 31, .ref 42]) (I2 := sh_u2 (sh_u2 m11.I 41 17 ((m11.I 41 17) + x1)) 41 18 x2) (J2 := m11.J) (fun hT v kk => ?_) ?_
  · refine sh_w (i := (.aload_n 0)) (len := 1) (pc2 := 176) (lv2 := [(0, .ref 42), (1, .int x1), (2, .int x2), (3, .int x3)]) (st2 := [.ref 42]) (h2 := (sh_rep m11.T m11.I m11.J)) rfl rfl rfl ?_
    refine sh_w (i := .dup) (len := 1) (pc2 := 177) (lv2 := [(0, .ref 42), (1, .int x1), (2, .int x2), (3, .int x3)]) (st2 := [.ref 42, .ref 42]) (h2 := (sh_rep m11.T m11.I m11.J)) rfl rfl rfl ?_
    refine sh_gI1 (len := 3) (x := m11.I 41 17) (pc2 := 180) rfl rfl (sh_s41 hT.st) rfl rfl rfl ?_
    refine sh_w (i := (.iload_n 1)) (len := 1) (pc2 := 181) (lv2 := [(0, .ref 42), (1, .int x1), (2, .int x2), (3, .int x3)]) (st2 := [.int x1, .int (m11.I 41 17), .ref 42]) (h2 := (sh_rep m11.T m11.I m11.J)) rfl rfl rfl ?_
    refine sh_w (i := .iadd) (len := 1) (pc2 := 182) (lv2 := [(0, .ref 42), (1, .int x1), (2, .int x2), (3, .int x3)]) (st2 := [.int ((m11.I 41 17) + x1), .ref 42]) (h2 := (sh_rep m11.T m11.I m11.J)) rfl rfl rfl ?_
    refine sh_pI1 (x := (m11.I 41 17) + x1) (pc2 := 185) rfl rfl (sh_s41 hT.st) rfl rfl rfl rfl ?_
    refine sh_w (i := (.aload_n 0)) (len := 1) (pc2 := 186) (lv2 := [(0, .ref 42), (1, .int x1), (2, .int x2), (3, .int x3)]) (st2 := [.ref 42]) (h2 := (sh_rep m11.T (sh_u2 m11.I 41 17 ((m11.I 41 17) + x1)) m11.J)) rfl rfl rfl ?_
    refine sh_w (i := (.iload_n 2)) (len := 1) (pc2 := 187) (lv2 := [(0, .ref 42), (1, .int x1), (2, .int x2), (3, .int x3)]) (st2 := [.int x2, .ref 42]) (h2 := (sh_rep m11.T (sh_u2 m11.I 41 17 ((m11.I 41 17) + x1)) m11.J)) rfl rfl rfl ?_
    refine sh_pI1 (x := x2) (pc2 := 190) rfl rfl (sh_s41 hT.st) rfl rfl rfl rfl ?_
    refine sh_w (i := (.aload_n 0)) (len := 1) (pc2 := 191) (lv2 := [(0, .ref 42), (1, .int x1), (2, .int x2), (3, .int x3)]) (st2 := [.ref 42]) (h2 := (sh_rep m11.T (sh_u2 (sh_u2 m11.I 41 17 ((m11.I 41 17) + x1)) 41 18 x2) m11.J)) rfl rfl rfl ?_
    refine sh_w (i := (.aload_n 0)) (len := 1) (pc2 := 192) (lv2 := [(0, .ref 42), (1, .int x1), (2, .int x2), (3, .int x3)]) (st2 := [.ref 42, .ref 42]) (h2 := (sh_rep m11.T (sh_u2 (sh_u2 m11.I 41 17 ((m11.I 41 17) + x1)) 41 18 x2) m11.J)) rfl rfl rfl ?_
    refine sh_gR1 (len := 3) (x := .ref 29) (pc2 := 195) rfl rfl (sh_s41 hT.st) rfl rfl ?_
    refine sh_gR1 (len := 3) (x := .ref 31) (pc2 := 198) rfl rfl (sh_s28 hT.st) rfl rfl ?_
    refine sh_w (i := (.iload_n 2)) (len := 1) (pc2 := 199) (lv2 := [(0, .ref 42), (1, .int x1), (2, .int x2), (3, .int x3)]) (st2 := [.int x2, .ref 31, .ref 42]) (h2 := (sh_rep m11.T (sh_u2 (sh_u2 m11.I 41 17 ((m11.I 41 17) + x1)) 41 18 x2) m11.J)) rfl rfl rfl ?_
    exact kk
  obtain ⟨c, e⟩ := sh_gd e
  refine sh_Lk_lift (T := m11.T) (I := sh_u2 (sh_u2 m11.I 41 17 ((m11.I 41 17) + x1)) 41 18 x2) (J := m11.J) (s := m11.s) (pc2 := 203) (lv2 := [(0, .ref 42), (1, .int x1), (2, .int x2), (3, .int x3)]) (st2 := []) (I2 := sh_u2 (sh_u2 (sh_u2 m11.I 41 17 ((m11.I 41 17) + x1)) 41 18 x2) 41 13 (m11.I 30 (Int32.toNatClampNeg x2))) (J2 := m11.J) (fun hT v kk => ?_) ?_
  · refine sh_ia1 (x := m11.I 30 (Int32.toNatClampNeg x2)) (pc2 := 200) rfl (sh_s30 hT.st) (sh_okb1 c) (sh_okb2 c) rfl rfl ?_
    refine sh_pI1 (x := m11.I 30 (Int32.toNatClampNeg x2)) (pc2 := 203) rfl rfl (sh_s41 hT.st) rfl rfl rfl rfl ?_
    exact kk
  obtain rfl := Option.some.inj e
  obtain ⟨rfl, rfl⟩ := tg
  exact sh_Lk_ret (i := .return_) rfl rfl rfl (Nat.le_of_ble_eq_true rfl) (Nat.le_of_ble_eq_true rfl)
theorem sl_160_81s {x1 : Int32} {x2 : Int32} {x3 : Int32} {x4 : Int32} {m m2 : sh_X} {o : Outcome} {z : ((Int32 × sh_X) ⊕ (Unit × sh_X))} (e : sf_160_81s x1 x2 x3 x4 m = some z) (tg : (sh_el (fun q => sh_Lk 160 81 [(0, .ref 42), (1, .int x1), (2, .int x2), (3, .int x3), (4, .int q.1)] [] q.2 o m2 10 242) (sh_tV o m2)) z) : sh_Lk 160 81 [(0, .ref 42), (1, .int x1), (2, .int x2), (3, .int x3), (4, .int x4)] [] m o m2 10 242 := by
  unfold sf_160_81s at e
  refine sh_Lk_lift (T := m.T) (I := m.I) (J := m.J) (s := m.s) (pc2 := 84) (lv2 := [(0, .ref 42), (1, .int x1), (2, .int x2), (3, .int x3), (4, .int x4)]) (st2 := [.int x3, .int x4]) (I2 := m.I) (J2 := m.J) (fun hT v kk => ?_) ?_
  · refine sh_w (i := (.iload 4)) (len := 2) (pc2 := 83) (lv2 := [(0, .ref 42), (1, .int x1), (2, .int x2), (3, .int x3), (4, .int x4)]) (st2 := [.int x4]) (h2 := (sh_rep m.T m.I m.J)) rfl rfl rfl ?_
    refine sh_w (i := (.iload_n 3)) (len := 1) (pc2 := 84) (lv2 := [(0, .ref 42), (1, .int x1), (2, .int x2), (3, .int x3), (4, .int x4)]) (st2 := [.int x3, .int x4]) (h2 := (sh_rep m.T m.I m.J)) rfl rfl rfl ?_
    exact kk
  rcases sh_ite e with ⟨c, e⟩ | ⟨c, e⟩
  · refine sh_Lk_lift (T := m.T) (I := m.I) (J := m.J) (s := m.s) (pc2 := 91) (lv2 := [(0, .ref 42), (1, .int x1), (2, .int x2), (3, .int x3), (4, .int x4)]) (st2 := [.int 8, .int x4]) (I2 := m.I) (J2 := m.J) (fun hT v kk => ?_) ?_
    · refine sh_jc (c := .ge) (off := (83)) (pc2 := 87) false rfl (sh_Bgef c) rfl ?_
      refine sh_w (i := (.iload 4)) (len := 2) (pc2 := 89) (lv2 := [(0, .ref 42), (1, .int x1), (2, .int x2), (3, .int x3), (4, .int x4)]) (st2 := [.int x4]) (h2 := (sh_rep m.T m.I m.J)) rfl rfl rfl ?_
      refine sh_w (i := (.bipush 8)) (len := 2) (pc2 := 91) (lv2 := [(0, .ref 42), (1, .int x1), (2, .int x2), (3, .int x3), (4, .int x4)]) (st2 := [.int 8, .int x4]) (h2 := (sh_rep m.T m.I m.J)) rfl rfl rfl ?_
      exact kk
    rcases sh_ite e with ⟨c, e⟩ | ⟨c, e⟩
    · refine sh_Lk_lift (T := m.T) (I := m.I) (J := m.J) (s := m.s) (pc2 := 119) (lv2 := [(5, .int ((x2 * 8) + x4)), (0, .ref 42), (1, .int x1), (2, .int x2), (3, .int x3), (4, .int x4)]) (st2 := [.int (((m.I 48 4) - x3) + x4), .ref 49]) (I2 := m.I) (J2 := m.J) (fun hT v kk => ?_) ?_
      · refine sh_jc (c := .ge) (off := (76)) (pc2 := 94) false rfl (sh_Bgef c) rfl ?_
        refine sh_w (i := (.iload_n 2)) (len := 1) (pc2 := 95) (lv2 := [(0, .ref 42), (1, .int x1), (2, .int x2), (3, .int x3), (4, .int x4)]) (st2 := [.int x2]) (h2 := (sh_rep m.T m.I m.J)) rfl rfl rfl ?_
        refine sh_w (i := (.bipush 8)) (len := 2) (pc2 := 97) (lv2 := [(0, .ref 42), (1, .int x1), (2, .int x2), (3, .int x3), (4, .int x4)]) (st2 := [.int 8, .int x2]) (h2 := (sh_rep m.T m.I m.J)) rfl rfl rfl ?_
        refine sh_w (i := .imul) (len := 1) (pc2 := 98) (lv2 := [(0, .ref 42), (1, .int x1), (2, .int x2), (3, .int x3), (4, .int x4)]) (st2 := [.int (x2 * 8)]) (h2 := (sh_rep m.T m.I m.J)) rfl rfl rfl ?_
        refine sh_w (i := (.iload 4)) (len := 2) (pc2 := 100) (lv2 := [(0, .ref 42), (1, .int x1), (2, .int x2), (3, .int x3), (4, .int x4)]) (st2 := [.int x4, .int (x2 * 8)]) (h2 := (sh_rep m.T m.I m.J)) rfl rfl rfl ?_
        refine sh_w (i := .iadd) (len := 1) (pc2 := 101) (lv2 := [(0, .ref 42), (1, .int x1), (2, .int x2), (3, .int x3), (4, .int x4)]) (st2 := [.int ((x2 * 8) + x4)]) (h2 := (sh_rep m.T m.I m.J)) rfl rfl rfl ?_
        refine sh_w (i := (.istore 5)) (len := 2) (pc2 := 103) (lv2 := [(5, .int ((x2 * 8) + x4)), (0, .ref 42), (1, .int x1), (2, .int x2), (3, .int x3), (4, .int x4)]) (st2 := []) (h2 := (sh_rep m.T m.I m.J)) rfl rfl rfl ?_
        refine sh_w (i := (.aload_n 0)) (len := 1) (pc2 := 104) (lv2 := [(5, .int ((x2 * 8) + x4)), (0, .ref 42), (1, .int x1), (2, .int x2), (3, .int x3), (4, .int x4)]) (st2 := [.ref 42]) (h2 := (sh_rep m.T m.I m.J)) rfl rfl rfl ?_
        refine sh_gR1 (len := 3) (x := .ref 49) (pc2 := 107) rfl rfl (sh_s41 hT.st) rfl rfl ?_
        refine sh_w (i := (.aload_n 0)) (len := 1) (pc2 := 108) (lv2 := [(5, .int ((x2 * 8) + x4)), (0, .ref 42), (1, .int x1), (2, .int x2), (3, .int x3), (4, .int x4)]) (st2 := [.ref 42, .ref 49]) (h2 := (sh_rep m.T m.I m.J)) rfl rfl rfl ?_
        refine sh_gR1 (len := 3) (x := .ref 49) (pc2 := 111) rfl rfl (sh_s41 hT.st) rfl rfl ?_
        refine sh_gI1 (len := 3) (x := m.I 48 4) (pc2 := 114) rfl rfl (sh_s48 hT.st) rfl rfl rfl ?_
        refine sh_w (i := (.iload_n 3)) (len := 1) (pc2 := 115) (lv2 := [(5, .int ((x2 * 8) + x4)), (0, .ref 42), (1, .int x1), (2, .int x2), (3, .int x3), (4, .int x4)]) (st2 := [.int x3, .int (m.I 48 4), .ref 49]) (h2 := (sh_rep m.T m.I m.J)) rfl rfl rfl ?_
        refine sh_w (i := .isub) (len := 1) (pc2 := 116) (lv2 := [(5, .int ((x2 * 8) + x4)), (0, .ref 42), (1, .int x1), (2, .int x2), (3, .int x3), (4, .int x4)]) (st2 := [.int ((m.I 48 4) - x3), .ref 49]) (h2 := (sh_rep m.T m.I m.J)) rfl rfl rfl ?_
        refine sh_w (i := (.iload 4)) (len := 2) (pc2 := 118) (lv2 := [(5, .int ((x2 * 8) + x4)), (0, .ref 42), (1, .int x1), (2, .int x2), (3, .int x3), (4, .int x4)]) (st2 := [.int x4, .int ((m.I 48 4) - x3), .ref 49]) (h2 := (sh_rep m.T m.I m.J)) rfl rfl rfl ?_
        refine sh_w (i := .iadd) (len := 1) (pc2 := 119) (lv2 := [(5, .int ((x2 * 8) + x4)), (0, .ref 42), (1, .int x1), (2, .int x2), (3, .int x3), (4, .int x4)]) (st2 := [.int (((m.I 48 4) - x3) + x4), .ref 49]) (h2 := (sh_rep m.T m.I m.J)) rfl rfl rfl ?_
        exact kk
      obtain ⟨r1, e1, e⟩ := sh_bc_e e
      refine sh_Lk_cV (r := (some (.int r1))) (st2 := [.int r1]) (pc2 := 122) (k2 := 117) (a := 48) (as := [.ref 49, .int (((m.I 48 4) - x3) + x4)]) (rest := []) rfl rfl rfl (fun hT => (sh_s48 hT.st)) rfl rfl ⟨Nat.le_of_ble_eq_true rfl, Nat.le_of_ble_eq_true rfl⟩ (sl_117 e1 ⟨rfl, rfl⟩) rfl rfl (Nat.le_of_ble_eq_true rfl) (Nat.le_of_ble_eq_true rfl) ?_
      refine sh_Lk_lift (T := m.T) (I := m.I) (J := m.J) (s := m.s) (pc2 := 141) (lv2 := [(6, .int r1), (5, .int ((x2 * 8) + x4)), (0, .ref 42), (1, .int x1), (2, .int x2), (3, .int x3), (4, .int x4)]) (st2 := [.int ((x2 * 8) + x4), .ref 35, .ref 3, .ref 54]) (I2 := m.I) (J2 := m.J) (fun hT v kk => ?_) ?_
      · refine sh_w (i := (.istore 6)) (len := 2) (pc2 := 124) (lv2 := [(6, .int r1), (5, .int ((x2 * 8) + x4)), (0, .ref 42), (1, .int x1), (2, .int x2), (3, .int x3), (4, .int x4)]) (st2 := []) (h2 := (sh_rep m.T m.I m.J)) rfl rfl rfl ?_
        refine sh_w (i := (.aload_n 0)) (len := 1) (pc2 := 125) (lv2 := [(6, .int r1), (5, .int ((x2 * 8) + x4)), (0, .ref 42), (1, .int x1), (2, .int x2), (3, .int x3), (4, .int x4)]) (st2 := [.ref 42]) (h2 := (sh_rep m.T m.I m.J)) rfl rfl rfl ?_
        refine sh_gR1 (len := 3) (x := .ref 54) (pc2 := 128) rfl rfl (sh_s41 hT.st) rfl rfl ?_
        refine sh_w (i := (.aload_n 0)) (len := 1) (pc2 := 129) (lv2 := [(6, .int r1), (5, .int ((x2 * 8) + x4)), (0, .ref 42), (1, .int x1), (2, .int x2), (3, .int x3), (4, .int x4)]) (st2 := [.ref 42, .ref 54]) (h2 := (sh_rep m.T m.I m.J)) rfl rfl rfl ?_
        refine sh_gR1 (len := 3) (x := .ref 3) (pc2 := 132) rfl rfl (sh_s41 hT.st) rfl rfl ?_
        refine sh_w (i := (.aload_n 0)) (len := 1) (pc2 := 133) (lv2 := [(6, .int r1), (5, .int ((x2 * 8) + x4)), (0, .ref 42), (1, .int x1), (2, .int x2), (3, .int x3), (4, .int x4)]) (st2 := [.ref 42, .ref 3, .ref 54]) (h2 := (sh_rep m.T m.I m.J)) rfl rfl rfl ?_
        refine sh_gR1 (len := 3) (x := .ref 29) (pc2 := 136) rfl rfl (sh_s41 hT.st) rfl rfl ?_
        refine sh_gR1 (len := 3) (x := .ref 35) (pc2 := 139) rfl rfl (sh_s28 hT.st) rfl rfl ?_
        refine sh_w (i := (.iload 5)) (len := 2) (pc2 := 141) (lv2 := [(6, .int r1), (5, .int ((x2 * 8) + x4)), (0, .ref 42), (1, .int x1), (2, .int x2), (3, .int x3), (4, .int x4)]) (st2 := [.int ((x2 * 8) + x4), .ref 35, .ref 3, .ref 54]) (h2 := (sh_rep m.T m.I m.J)) rfl rfl rfl ?_
        exact kk
      obtain ⟨c, e⟩ := sh_gd e
      refine sh_Lk_lift (T := m.T) (I := m.I) (J := m.J) (s := m.s) (pc2 := 142) (lv2 := [(6, .int r1), (5, .int ((x2 * 8) + x4)), (0, .ref 42), (1, .int x1), (2, .int x2), (3, .int x3), (4, .int x4)]) (st2 := [.int (m.I 34 (Int32.toNatClampNeg ((x2 * 8) + x4))), .ref 3, .ref 54]) (I2 := m.I) (J2 := m.J) (fun hT v kk => ?_) ?_
      · refine sh_ia1 (x := m.I 34 (Int32.toNatClampNeg ((x2 * 8) + x4))) (pc2 := 142) rfl (sh_s34 hT.st) (sh_okb1 c) (sh_okb2 c) rfl rfl ?_
        exact kk
      obtain ⟨r2, e2, e⟩ := sh_bc_e e
      refine sh_Lk_cV (r := (some (.int r2))) (st2 := [.int r2, .ref 54]) (pc2 := 145) (k2 := 83) (a := 2) (as := [.ref 3, .int (m.I 34 (Int32.toNatClampNeg ((x2 * 8) + x4)))]) (rest := [.ref 54]) rfl rfl rfl (fun hT => hT.t2) rfl rfl ⟨Nat.le_of_ble_eq_true rfl, Nat.le_of_ble_eq_true rfl⟩ (sl_83 e2 ⟨rfl, rfl⟩) rfl rfl (Nat.le_of_ble_eq_true rfl) (Nat.le_of_ble_eq_true rfl) ?_
      refine sh_Lk_lift (T := m.T) (I := m.I) (J := m.J) (s := m.s) (pc2 := 154) (lv2 := [(6, .int r1), (5, .int ((x2 * 8) + x4)), (0, .ref 42), (1, .int x1), (2, .int x2), (3, .int x3), (4, .int x4)]) (st2 := [.int ((x2 * 8) + x4), .ref 36, .int r2, .ref 54]) (I2 := m.I) (J2 := m.J) (fun hT v kk => ?_) ?_
      · refine sh_w (i := (.aload_n 0)) (len := 1) (pc2 := 146) (lv2 := [(6, .int r1), (5, .int ((x2 * 8) + x4)), (0, .ref 42), (1, .int x1), (2, .int x2), (3, .int x3), (4, .int x4)]) (st2 := [.ref 42, .int r2, .ref 54]) (h2 := (sh_rep m.T m.I m.J)) rfl rfl rfl ?_
        refine sh_gR1 (len := 3) (x := .ref 29) (pc2 := 149) rfl rfl (sh_s41 hT.st) rfl rfl ?_
        refine sh_gR1 (len := 3) (x := .ref 36) (pc2 := 152) rfl rfl (sh_s28 hT.st) rfl rfl ?_
        refine sh_w (i := (.iload 5)) (len := 2) (pc2 := 154) (lv2 := [(6, .int r1), (5, .int ((x2 * 8) + x4)), (0, .ref 42), (1, .int x1), (2, .int x2), (3, .int x3), (4, .int x4)]) (st2 := [.int ((x2 * 8) + x4), .ref 36, .int r2, .ref 54]) (h2 := (sh_rep m.T m.I m.J)) rfl rfl rfl ?_
        exact kk
      obtain ⟨c, e⟩ := sh_gd e
      refine sh_Lk_lift (T := m.T) (I := m.I) (J := m.J) (s := m.s) (pc2 := 158) (lv2 := [(6, .int r1), (5, .int ((x2 * 8) + x4)), (0, .ref 42), (1, .int x1), (2, .int x2), (3, .int x3), (4, .int x4)]) (st2 := [.long 0, .int r1, .int (m.I 35 (Int32.toNatClampNeg ((x2 * 8) + x4))), .int r2, .ref 54]) (I2 := m.I) (J2 := m.J) (fun hT v kk => ?_) ?_
      · refine sh_ia1 (x := m.I 35 (Int32.toNatClampNeg ((x2 * 8) + x4))) (pc2 := 155) rfl (sh_s35 hT.st) (sh_okb1 c) (sh_okb2 c) rfl rfl ?_
        refine sh_w (i := (.iload 6)) (len := 2) (pc2 := 157) (lv2 := [(6, .int r1), (5, .int ((x2 * 8) + x4)), (0, .ref 42), (1, .int x1), (2, .int x2), (3, .int x3), (4, .int x4)]) (st2 := [.int r1, .int (m.I 35 (Int32.toNatClampNeg ((x2 * 8) + x4))), .int r2, .ref 54]) (h2 := (sh_rep m.T m.I m.J)) rfl rfl rfl ?_
        refine sh_w (i := (.lconst 0)) (len := 1) (pc2 := 158) (lv2 := [(6, .int r1), (5, .int ((x2 * 8) + x4)), (0, .ref 42), (1, .int x1), (2, .int x2), (3, .int x3), (4, .int x4)]) (st2 := [.long 0, .int r1, .int (m.I 35 (Int32.toNatClampNeg ((x2 * 8) + x4))), .int r2, .ref 54]) (h2 := (sh_rep m.T m.I m.J)) rfl rfl rfl ?_
        exact kk
      obtain ⟨r3, m13, e3, e⟩ := sh_bn_e e
      refine sh_Lk_cV (r := none) (st2 := []) (pc2 := 161) (k2 := 105) (a := 53) (as := [.ref 54, .int r2, .int (m.I 35 (Int32.toNatClampNeg ((x2 * 8) + x4))), .int r1, .long 0]) (rest := []) rfl rfl rfl (fun hT => (sh_s53 hT.st)) rfl rfl ⟨Nat.le_of_ble_eq_true rfl, Nat.le_of_ble_eq_true rfl⟩ (sl_105 e3 ⟨rfl, rfl⟩) rfl rfl (Nat.le_of_ble_eq_true rfl) (Nat.le_of_ble_eq_true rfl) ?_
      refine sh_Lk_lift (T := m13.T) (I := m13.I) (J := m13.J) (s := m13.s) (pc2 := 81) (lv2 := [(4, .int (x4 + 1)), (6, .int r1), (5, .int ((x2 * 8) + x4)), (0, .ref 42), (1, .int x1), (2, .int x2), (3, .int x3)]) (st2 := []) (I2 := m13.I) (J2 := m13.J) (fun hT v kk => ?_) ?_
      · refine sh_w (i := (.iinc 4 1)) (len := 3) (pc2 := 164) (lv2 := [(4, .int (x4 + 1)), (6, .int r1), (5, .int ((x2 * 8) + x4)), (0, .ref 42), (1, .int x1), (2, .int x2), (3, .int x3)]) (st2 := []) (h2 := (sh_rep m13.T m13.I m13.J)) rfl rfl rfl ?_
        refine sh_w (i := (.goto (-83))) (len := 3) (pc2 := 81) (lv2 := [(4, .int (x4 + 1)), (6, .int r1), (5, .int ((x2 * 8) + x4)), (0, .ref 42), (1, .int x1), (2, .int x2), (3, .int x3)]) (st2 := []) (h2 := (sh_rep m13.T m13.I m13.J)) rfl rfl rfl ?_
        exact kk
      obtain rfl := Option.some.inj e
      exact sh_Lk_sub (sh_sub_c rfl (sh_sub_c rfl (sh_sub_c rfl (sh_sub_c rfl (sh_sub_c rfl (sh_sub_n)))))) tg
    · refine sh_Lk_lift (T := m.T) (I := m.I) (J := m.J) (s := m.s) (pc2 := 167) (lv2 := [(0, .ref 42), (1, .int x1), (2, .int x2), (3, .int x3), (4, .int x4)]) (st2 := []) (I2 := m.I) (J2 := m.J) (fun hT v kk => ?_) ?_
      · refine sh_jc (c := .ge) (off := (76)) (pc2 := 167) true rfl (sh_Bget c) rfl ?_
        exact kk
      obtain ⟨_, eu, rfl⟩ := sh_up_e e
      exact sh_Lk_sub (sh_sub_c rfl (sh_sub_c rfl (sh_sub_c rfl (sh_sub_c rfl (sh_sub_n))))) (sl_160_167 eu tg)
  · refine sh_Lk_lift (T := m.T) (I := m.I) (J := m.J) (s := m.s) (pc2 := 167) (lv2 := [(0, .ref 42), (1, .int x1), (2, .int x2), (3, .int x3), (4, .int x4)]) (st2 := []) (I2 := m.I) (J2 := m.J) (fun hT v kk => ?_) ?_
    · refine sh_jc (c := .ge) (off := (83)) (pc2 := 167) true rfl (sh_Bget c) rfl ?_
      exact kk
    obtain ⟨_, eu, rfl⟩ := sh_up_e e
    exact sh_Lk_sub (sh_sub_c rfl (sh_sub_c rfl (sh_sub_c rfl (sh_sub_c rfl (sh_sub_n))))) (sl_160_167 eu tg)
theorem sl_160_81 {x1 : Int32} {x2 : Int32} {x3 : Int32} {x4 : Int32} {m m2 : sh_X} {o : Outcome} {z : (Unit × sh_X)} (e : sf_160_81 x1 x2 x3 x4 m = some z) (tg : (sh_tV o m2) z) : sh_Lk 160 81 [(0, .ref 42), (1, .int x1), (2, .int x2), (3, .int x3), (4, .int x4)] [] m o m2 10 242 := by
  unfold sf_160_81 at e
  exact sh_while_lk (P := fun q => sh_Lk 160 81 [(0, .ref 42), (1, .int x1), (2, .int x2), (3, .int x3), (4, .int q.1)] [] q.2 o m2 10 242) (Q := (sh_tV o m2)) (fun q z e tg => sl_160_81s (x1 := x1) (x2 := x2) (x3 := x3) (x4 := q.1) (m := q.2) e tg) (s := (x4, m)) e tg
theorem sl_160 {x1 : Int32} {m m2 : sh_X} {o : Outcome} {z : (Unit × sh_X)} (e : sf_160 x1 m = some z) (tg : (sh_tV o m2) z) : sh_Lk 160 0 [(0, .ref 42), (1, .int x1)] [] m o m2 10 242 := by
  unfold sf_160 at e
  refine sh_Lk_lift (T := m.T) (I := m.I) (J := m.J) (s := m.s) (pc2 := 1) (lv2 := [(0, .ref 42), (1, .int x1)]) (st2 := [.ref 42]) (I2 := m.I) (J2 := m.J) (fun hT v kk => ?_) ?_
  · refine sh_w (i := (.aload_n 0)) (len := 1) (pc2 := 1) (lv2 := [(0, .ref 42), (1, .int x1)]) (st2 := [.ref 42]) (h2 := (sh_rep m.T m.I m.J)) rfl rfl rfl ?_
    exact kk
  obtain ⟨r1, e1, e⟩ := sh_bc_e e
  refine sh_Lk_cV (r := (some (.int r1))) (st2 := [.int r1]) (pc2 := 4) (k2 := 158) (a := 41) (as := [.ref 42]) (rest := []) rfl rfl rfl (fun hT => (sh_s41 hT.st)) rfl rfl ⟨Nat.le_of_ble_eq_true rfl, Nat.le_of_ble_eq_true rfl⟩ (sl_158 e1 ⟨rfl, rfl⟩) rfl rfl (Nat.le_of_ble_eq_true rfl) (Nat.le_of_ble_eq_true rfl) ?_
  refine sh_Lk_lift (T := m.T) (I := m.I) (J := m.J) (s := m.s) (pc2 := 13) (lv2 := [(2, .int r1), (0, .ref 42), (1, .int x1)]) (st2 := [.int r1, .ref 34]) (I2 := m.I) (J2 := m.J) (fun hT v kk => ?_) ?_
  · refine sh_w (i := (.istore_n 2)) (len := 1) (pc2 := 5) (lv2 := [(2, .int r1), (0, .ref 42), (1, .int x1)]) (st2 := []) (h2 := (sh_rep m.T m.I m.J)) rfl rfl rfl ?_
    refine sh_w (i := (.aload_n 0)) (len := 1) (pc2 := 6) (lv2 := [(2, .int r1), (0, .ref 42), (1, .int x1)]) (st2 := [.ref 42]) (h2 := (sh_rep m.T m.I m.J)) rfl rfl rfl ?_
    refine sh_gR1 (len := 3) (x := .ref 29) (pc2 := 9) rfl rfl (sh_s41 hT.st) rfl rfl ?_
    refine sh_gR1 (len := 3) (x := .ref 34) (pc2 := 12) rfl rfl (sh_s28 hT.st) rfl rfl ?_
    refine sh_w (i := (.iload_n 2)) (len := 1) (pc2 := 13) (lv2 := [(2, .int r1), (0, .ref 42), (1, .int x1)]) (st2 := [.int r1, .ref 34]) (h2 := (sh_rep m.T m.I m.J)) rfl rfl rfl ?_
    exact kk
  obtain ⟨c, e⟩ := sh_gd e
  refine sh_Lk_lift (T := m.T) (I := m.I) (J := m.J) (s := m.s) (pc2 := 23) (lv2 := [(3, .int (m.I 33 (Int32.toNatClampNeg r1))), (2, .int r1), (0, .ref 42), (1, .int x1)]) (st2 := [.int ((m.I 41 12) - 1), .int 0, .ref 42]) (I2 := m.I) (J2 := m.J) (fun hT v kk => ?_) ?_
  · refine sh_ia1 (x := m.I 33 (Int32.toNatClampNeg r1)) (pc2 := 14) rfl (sh_s33 hT.st) (sh_okb1 c) (sh_okb2 c) rfl rfl ?_
    refine sh_w (i := (.istore_n 3)) (len := 1) (pc2 := 15) (lv2 := [(3, .int (m.I 33 (Int32.toNatClampNeg r1))), (2, .int r1), (0, .ref 42), (1, .int x1)]) (st2 := []) (h2 := (sh_rep m.T m.I m.J)) rfl rfl rfl ?_
    refine sh_w (i := (.aload_n 0)) (len := 1) (pc2 := 16) (lv2 := [(3, .int (m.I 33 (Int32.toNatClampNeg r1))), (2, .int r1), (0, .ref 42), (1, .int x1)]) (st2 := [.ref 42]) (h2 := (sh_rep m.T m.I m.J)) rfl rfl rfl ?_
    refine sh_w (i := (.iconst 0)) (len := 1) (pc2 := 17) (lv2 := [(3, .int (m.I 33 (Int32.toNatClampNeg r1))), (2, .int r1), (0, .ref 42), (1, .int x1)]) (st2 := [.int 0, .ref 42]) (h2 := (sh_rep m.T m.I m.J)) rfl rfl rfl ?_
    refine sh_w (i := (.aload_n 0)) (len := 1) (pc2 := 18) (lv2 := [(3, .int (m.I 33 (Int32.toNatClampNeg r1))), (2, .int r1), (0, .ref 42), (1, .int x1)]) (st2 := [.ref 42, .int 0, .ref 42]) (h2 := (sh_rep m.T m.I m.J)) rfl rfl rfl ?_
    refine sh_gI1 (len := 3) (x := m.I 41 12) (pc2 := 21) rfl rfl (sh_s41 hT.st) rfl rfl rfl ?_
    refine sh_w (i := (.iconst 1)) (len := 1) (pc2 := 22) (lv2 := [(3, .int (m.I 33 (Int32.toNatClampNeg r1))), (2, .int r1), (0, .ref 42), (1, .int x1)]) (st2 := [.int 1, .int (m.I 41 12), .int 0, .ref 42]) (h2 := (sh_rep m.T m.I m.J)) rfl rfl rfl ?_
    refine sh_w (i := .isub) (len := 1) (pc2 := 23) (lv2 := [(3, .int (m.I 33 (Int32.toNatClampNeg r1))), (2, .int r1), (0, .ref 42), (1, .int x1)]) (st2 := [.int ((m.I 41 12) - 1), .int 0, .ref 42]) (h2 := (sh_rep m.T m.I m.J)) rfl rfl rfl ?_
    exact kk
  refine sh_Lk_cS (r := (some (.int (sf_42 0 ((m.I 41 12) - 1))))) (st2 := [.int (sf_42 0 ((m.I 41 12) - 1)), .ref 42]) (pc2 := 26) (k2 := 42) (as := [.int 0, .int ((m.I 41 12) - 1)]) (rest := [.ref 42]) rfl rfl (by decide) (Nat.le_of_ble_eq_true rfl) rfl rfl ⟨Nat.le_of_ble_eq_true rfl, Nat.le_of_ble_eq_true rfl⟩ (sl_42 (m := m) rfl ⟨rfl, rfl⟩) rfl rfl (Nat.le_of_ble_eq_true rfl) (Nat.le_of_ble_eq_true rfl) ?_
  refine sh_Lk_lift (T := m.T) (I := m.I) (J := m.J) (s := m.s) (pc2 := 34) (lv2 := [(3, .int (m.I 33 (Int32.toNatClampNeg r1))), (2, .int r1), (0, .ref 42), (1, .int x1)]) (st2 := [.int (m.I 41 13), .ref 42]) (I2 := sh_u2 m.I 41 12 (sf_42 0 ((m.I 41 12) - 1))) (J2 := m.J) (fun hT v kk => ?_) ?_
  · refine sh_pI1 (x := sf_42 0 ((m.I 41 12) - 1)) (pc2 := 29) rfl rfl (sh_s41 hT.st) rfl rfl rfl rfl ?_
    refine sh_w (i := (.aload_n 0)) (len := 1) (pc2 := 30) (lv2 := [(3, .int (m.I 33 (Int32.toNatClampNeg r1))), (2, .int r1), (0, .ref 42), (1, .int x1)]) (st2 := [.ref 42]) (h2 := (sh_rep m.T (sh_u2 m.I 41 12 (sf_42 0 ((m.I 41 12) - 1))) m.J)) rfl rfl rfl ?_
    refine sh_w (i := (.aload_n 0)) (len := 1) (pc2 := 31) (lv2 := [(3, .int (m.I 33 (Int32.toNatClampNeg r1))), (2, .int r1), (0, .ref 42), (1, .int x1)]) (st2 := [.ref 42, .ref 42]) (h2 := (sh_rep m.T (sh_u2 m.I 41 12 (sf_42 0 ((m.I 41 12) - 1))) m.J)) rfl rfl rfl ?_
    refine sh_gI1 (len := 3) (x := m.I 41 13) (pc2 := 34) rfl rfl (sh_s41 hT.st) rfl rfl rfl ?_
    exact kk
  obtain ⟨r3, m13, e3, e⟩ := sh_bn_e e
  refine sh_Lk_cV (r := none) (st2 := []) (pc2 := 37) (k2 := 143) (a := 41) (as := [.ref 42, .int (m.I 41 13)]) (rest := []) rfl rfl rfl (fun hT => (sh_s41 hT.st)) rfl rfl ⟨Nat.le_of_ble_eq_true rfl, Nat.le_of_ble_eq_true rfl⟩ (sl_143 e3 ⟨rfl, rfl⟩) rfl rfl (Nat.le_of_ble_eq_true rfl) (Nat.le_of_ble_eq_true rfl) ?_
  refine sh_Lk_lift (T := m13.T) (I := m13.I) (J := m13.J) (s := m13.s) (pc2 := 45) (lv2 := [(3, .int (m.I 33 (Int32.toNatClampNeg r1))), (2, .int r1), (0, .ref 42), (1, .int x1)]) (st2 := [.int (m13.I 53 5), .ref 42]) (I2 := m13.I) (J2 := m13.J) (fun hT v kk => ?_) ?_
  · refine sh_w (i := (.aload_n 0)) (len := 1) (pc2 := 38) (lv2 := [(3, .int (m.I 33 (Int32.toNatClampNeg r1))), (2, .int r1), (0, .ref 42), (1, .int x1)]) (st2 := [.ref 42]) (h2 := (sh_rep m13.T m13.I m13.J)) rfl rfl rfl ?_
    refine sh_w (i := (.aload_n 0)) (len := 1) (pc2 := 39) (lv2 := [(3, .int (m.I 33 (Int32.toNatClampNeg r1))), (2, .int r1), (0, .ref 42), (1, .int x1)]) (st2 := [.ref 42, .ref 42]) (h2 := (sh_rep m13.T m13.I m13.J)) rfl rfl rfl ?_
    refine sh_gR1 (len := 3) (x := .ref 54) (pc2 := 42) rfl rfl (sh_s41 hT.st) rfl rfl ?_
    refine sh_gI1 (len := 3) (x := m13.I 53 5) (pc2 := 45) rfl rfl (sh_s53 hT.st) rfl rfl rfl ?_
    exact kk
  obtain ⟨r4, m14, e4, e⟩ := sh_bn_e e
  refine sh_Lk_cV (r := none) (st2 := []) (pc2 := 48) (k2 := 143) (a := 41) (as := [.ref 42, .int (m13.I 53 5)]) (rest := []) rfl rfl rfl (fun hT => (sh_s41 hT.st)) rfl rfl ⟨Nat.le_of_ble_eq_true rfl, Nat.le_of_ble_eq_true rfl⟩ (sl_143 e4 ⟨rfl, rfl⟩) rfl rfl (Nat.le_of_ble_eq_true rfl) (Nat.le_of_ble_eq_true rfl) ?_
  refine sh_Lk_lift (T := m14.T) (I := m14.I) (J := m14.J) (s := m14.s) (pc2 := 53) (lv2 := [(3, .int (m.I 33 (Int32.toNatClampNeg r1))), (2, .int r1), (0, .ref 42), (1, .int x1)]) (st2 := [.int (m14.I 41 17), .ref 42]) (I2 := m14.I) (J2 := m14.J) (fun hT v kk => ?_) ?_
  · refine sh_w (i := (.aload_n 0)) (len := 1) (pc2 := 49) (lv2 := [(3, .int (m.I 33 (Int32.toNatClampNeg r1))), (2, .int r1), (0, .ref 42), (1, .int x1)]) (st2 := [.ref 42]) (h2 := (sh_rep m14.T m14.I m14.J)) rfl rfl rfl ?_
    refine sh_w (i := (.aload_n 0)) (len := 1) (pc2 := 50) (lv2 := [(3, .int (m.I 33 (Int32.toNatClampNeg r1))), (2, .int r1), (0, .ref 42), (1, .int x1)]) (st2 := [.ref 42, .ref 42]) (h2 := (sh_rep m14.T m14.I m14.J)) rfl rfl rfl ?_
    refine sh_gI1 (len := 3) (x := m14.I 41 17) (pc2 := 53) rfl rfl (sh_s41 hT.st) rfl rfl rfl ?_
    exact kk
  obtain ⟨r5, m15, e5, e⟩ := sh_bn_e e
  refine sh_Lk_cV (r := none) (st2 := []) (pc2 := 56) (k2 := 143) (a := 41) (as := [.ref 42, .int (m14.I 41 17)]) (rest := []) rfl rfl rfl (fun hT => (sh_s41 hT.st)) rfl rfl ⟨Nat.le_of_ble_eq_true rfl, Nat.le_of_ble_eq_true rfl⟩ (sl_143 e5 ⟨rfl, rfl⟩) rfl rfl (Nat.le_of_ble_eq_true rfl) (Nat.le_of_ble_eq_true rfl) ?_
  refine sh_Lk_lift (T := m15.T) (I := m15.I) (J := m15.J) (s := m15.s) (pc2 := 61) (lv2 := [(3, .int (m.I 33 (Int32.toNatClampNeg r1))), (2, .int r1), (0, .ref 42), (1, .int x1)]) (st2 := [.int (m15.I 41 18), .ref 42]) (I2 := m15.I) (J2 := m15.J) (fun hT v kk => ?_) ?_
  · refine sh_w (i := (.aload_n 0)) (len := 1) (pc2 := 57) (lv2 := [(3, .int (m.I 33 (Int32.toNatClampNeg r1))), (2, .int r1), (0, .ref 42), (1, .int x1)]) (st2 := [.ref 42]) (h2 := (sh_rep m15.T m15.I m15.J)) rfl rfl rfl ?_
    refine sh_w (i := (.aload_n 0)) (len := 1) (pc2 := 58) (lv2 := [(3, .int (m.I 33 (Int32.toNatClampNeg r1))), (2, .int r1), (0, .ref 42), (1, .int x1)]) (st2 := [.ref 42, .ref 42]) (h2 := (sh_rep m15.T m15.I m15.J)) rfl rfl rfl ?_
    refine sh_gI1 (len := 3) (x := m15.I 41 18) (pc2 := 61) rfl rfl (sh_s41 hT.st) rfl rfl rfl ?_
    exact kk
  obtain ⟨r6, m16, e6, e⟩ := sh_bn_e e
  refine sh_Lk_cV (r := none) (st2 := []) (pc2 := 64) (k2 := 143) (a := 41) (as := [.ref 42, .int (m15.I 41 18)]) (rest := []) rfl rfl rfl (fun hT => (sh_s41 hT.st)) rfl rfl ⟨Nat.le_of_ble_eq_true rfl, Nat.le_of_ble_eq_true rfl⟩ (sl_143 e6 ⟨rfl, rfl⟩) rfl rfl (Nat.le_of_ble_eq_true rfl) (Nat.le_of_ble_eq_true rfl) ?_
  refine sh_Lk_lift (T := m16.T) (I := m16.I) (J := m16.J) (s := m16.s) (pc2 := 81) (lv2 := [(4, .int 0), (3, .int (m.I 33 (Int32.toNatClampNeg r1))), (2, .int r1), (0, .ref 42), (1, .int x1)]) (st2 := []) (I2 := sh_u2 m16.I 53 5 (m16.I 53 4)) (J2 := m16.J) (fun hT v kk => ?_) ?_
  · refine sh_w (i := (.aload_n 0)) (len := 1) (pc2 := 65) (lv2 := [(3, .int (m.I 33 (Int32.toNatClampNeg r1))), (2, .int r1), (0, .ref 42), (1, .int x1)]) (st2 := [.ref 42]) (h2 := (sh_rep m16.T m16.I m16.J)) rfl rfl rfl ?_
    refine sh_gR1 (len := 3) (x := .ref 54) (pc2 := 68) rfl rfl (sh_s41 hT.st) rfl rfl ?_
    refine sh_w (i := (.aload_n 0)) (len := 1) (pc2 := 69) (lv2 := [(3, .int (m.I 33 (Int32.toNatClampNeg r1))), (2, .int r1), (0, .ref 42), (1, .int x1)]) (st2 := [.ref 42, .ref 54]) (h2 := (sh_rep m16.T m16.I m16.J)) rfl rfl rfl ?_
    refine sh_gR1 (len := 3) (x := .ref 54) (pc2 := 72) rfl rfl (sh_s41 hT.st) rfl rfl ?_
    refine sh_gI1 (len := 3) (x := m16.I 53 4) (pc2 := 75) rfl rfl (sh_s53 hT.st) rfl rfl rfl ?_
    refine sh_pI1 (x := m16.I 53 4) (pc2 := 78) rfl rfl (sh_s53 hT.st) rfl rfl rfl rfl ?_
    refine sh_w (i := (.iconst 0)) (len := 1) (pc2 := 79) (lv2 := [(3, .int (m.I 33 (Int32.toNatClampNeg r1))), (2, .int r1), (0, .ref 42), (1, .int x1)]) (st2 := [.int 0]) (h2 := (sh_rep m16.T (sh_u2 m16.I 53 5 (m16.I 53 4)) m16.J)) rfl rfl rfl ?_
    refine sh_w (i := (.istore 4)) (len := 2) (pc2 := 81) (lv2 := [(4, .int 0), (3, .int (m.I 33 (Int32.toNatClampNeg r1))), (2, .int r1), (0, .ref 42), (1, .int x1)]) (st2 := []) (h2 := (sh_rep m16.T (sh_u2 m16.I 53 5 (m16.I 53 4)) m16.J)) rfl rfl rfl ?_
    exact kk
  exact sh_Lk_sub (sh_sub_c rfl (sh_sub_c rfl (sh_sub_c rfl (sh_sub_c rfl (sh_sub_c rfl (sh_sub_n)))))) (sl_160_81 e tg)
theorem sl_161_31 {m m2 : sh_X} {o : Outcome} {z : (Option Unit × sh_X)} (e : sf_161_31 m = some z) (tg : (sh_tVt o m2) z) : sh_Lk 161 31 [(0, .ref 42)] [] m o m2 12 294 := by
  unfold sf_161_31 at e
  refine sh_Lk_lift (T := m.T) (I := m.I) (J := m.J) (s := m.s) (pc2 := 42) (lv2 := [(0, .ref 42)]) (st2 := [.int (m.I 53 5), .ref 54]) (I2 := m.I) (J2 := m.J) (fun hT v kk => ?_) ?_
  · refine sh_w (i := (.aload_n 0)) (len := 1) (pc2 := 32) (lv2 := [(0, .ref 42)]) (st2 := [.ref 42]) (h2 := (sh_rep m.T m.I m.J)) rfl rfl rfl ?_
    refine sh_gR1 (len := 3) (x := .ref 54) (pc2 := 35) rfl rfl (sh_s41 hT.st) rfl rfl ?_
    refine sh_w (i := (.aload_n 0)) (len := 1) (pc2 := 36) (lv2 := [(0, .ref 42)]) (st2 := [.ref 42, .ref 54]) (h2 := (sh_rep m.T m.I m.J)) rfl rfl rfl ?_
    refine sh_gR1 (len := 3) (x := .ref 54) (pc2 := 39) rfl rfl (sh_s41 hT.st) rfl rfl ?_
    refine sh_gI1 (len := 3) (x := m.I 53 5) (pc2 := 42) rfl rfl (sh_s53 hT.st) rfl rfl rfl ?_
    exact kk
  obtain ⟨r1, m11, e1, e⟩ := sh_bn_e e
  refine sh_Lk_cV (r := none) (st2 := []) (pc2 := 45) (k2 := 146) (a := 53) (as := [.ref 54, .int (m.I 53 5)]) (rest := []) rfl rfl rfl (fun hT => (sh_s53 hT.st)) rfl rfl ⟨Nat.le_of_ble_eq_true rfl, Nat.le_of_ble_eq_true rfl⟩ (sl_146 e1 ⟨rfl, rfl⟩) rfl rfl (Nat.le_of_ble_eq_true rfl) (Nat.le_of_ble_eq_true rfl) ?_
  refine sh_Lk_lift (T := m11.T) (I := m11.I) (J := m11.J) (s := m11.s) (pc2 := 47) (lv2 := [(0, .ref 42)]) (st2 := [.ref 42, .ref 42]) (I2 := m11.I) (J2 := m11.J) (fun hT v kk => ?_) ?_
  · refine sh_w (i := (.aload_n 0)) (len := 1) (pc2 := 46) (lv2 := [(0, .ref 42)]) (st2 := [.ref 42]) (h2 := (sh_rep m11.T m11.I m11.J)) rfl rfl rfl ?_
    refine sh_w (i := (.aload_n 0)) (len := 1) (pc2 := 47) (lv2 := [(0, .ref 42)]) (st2 := [.ref 42, .ref 42]) (h2 := (sh_rep m11.T m11.I m11.J)) rfl rfl rfl ?_
    exact kk
  obtain ⟨r2, m12, e2, e⟩ := sh_bn_e e
  refine sh_Lk_cV (r := (some (.int r2))) (st2 := [.int r2, .ref 42]) (pc2 := 50) (k2 := 148) (a := 41) (as := [.ref 42]) (rest := [.ref 42]) rfl rfl rfl (fun hT => (sh_s41 hT.st)) rfl rfl ⟨Nat.le_of_ble_eq_true rfl, Nat.le_of_ble_eq_true rfl⟩ (sl_148 e2 ⟨rfl, rfl⟩) rfl rfl (Nat.le_of_ble_eq_true rfl) (Nat.le_of_ble_eq_true rfl) ?_
  refine sh_Lk_lift (T := m12.T) (I := m12.I) (J := m12.J) (s := m12.s) (pc2 := 55) (lv2 := [(0, .ref 42)]) (st2 := [.ref 42, .ref 42]) (I2 := sh_u2 m12.I 41 18 r2) (J2 := m12.J) (fun hT v kk => ?_) ?_
  · refine sh_pI1 (x := r2) (pc2 := 53) rfl rfl (sh_s41 hT.st) rfl rfl rfl rfl ?_
    refine sh_w (i := (.aload_n 0)) (len := 1) (pc2 := 54) (lv2 := [(0, .ref 42)]) (st2 := [.ref 42]) (h2 := (sh_rep m12.T (sh_u2 m12.I 41 18 r2) m12.J)) rfl rfl rfl ?_
    refine sh_w (i := (.aload_n 0)) (len := 1) (pc2 := 55) (lv2 := [(0, .ref 42)]) (st2 := [.ref 42, .ref 42]) (h2 := (sh_rep m12.T (sh_u2 m12.I 41 18 r2) m12.J)) rfl rfl rfl ?_
    exact kk
  obtain ⟨r3, m13, e3, e⟩ := sh_bn_e e
  refine sh_Lk_cV (r := (some (.int r3))) (st2 := [.int r3, .ref 42]) (pc2 := 58) (k2 := 148) (a := 41) (as := [.ref 42]) (rest := [.ref 42]) rfl rfl rfl (fun hT => (sh_s41 hT.st)) rfl rfl ⟨Nat.le_of_ble_eq_true rfl, Nat.le_of_ble_eq_true rfl⟩ (sl_148 e3 ⟨rfl, rfl⟩) rfl rfl (Nat.le_of_ble_eq_true rfl) (Nat.le_of_ble_eq_true rfl) ?_
  refine sh_Lk_lift (T := m13.T) (I := m13.I) (J := m13.J) (s := m13.s) (pc2 := 66) (lv2 := [(0, .ref 42)]) (st2 := [.ref 42, .ref 54]) (I2 := sh_u2 m13.I 41 17 r3) (J2 := m13.J) (fun hT v kk => ?_) ?_
  · refine sh_pI1 (x := r3) (pc2 := 61) rfl rfl (sh_s41 hT.st) rfl rfl rfl rfl ?_
    refine sh_w (i := (.aload_n 0)) (len := 1) (pc2 := 62) (lv2 := [(0, .ref 42)]) (st2 := [.ref 42]) (h2 := (sh_rep m13.T (sh_u2 m13.I 41 17 r3) m13.J)) rfl rfl rfl ?_
    refine sh_gR1 (len := 3) (x := .ref 54) (pc2 := 65) rfl rfl (sh_s41 hT.st) rfl rfl ?_
    refine sh_w (i := (.aload_n 0)) (len := 1) (pc2 := 66) (lv2 := [(0, .ref 42)]) (st2 := [.ref 42, .ref 54]) (h2 := (sh_rep m13.T (sh_u2 m13.I 41 17 r3) m13.J)) rfl rfl rfl ?_
    exact kk
  obtain ⟨r4, m14, e4, e⟩ := sh_bn_e e
  refine sh_Lk_cV (r := (some (.int r4))) (st2 := [.int r4, .ref 54]) (pc2 := 69) (k2 := 148) (a := 41) (as := [.ref 42]) (rest := [.ref 54]) rfl rfl rfl (fun hT => (sh_s41 hT.st)) rfl rfl ⟨Nat.le_of_ble_eq_true rfl, Nat.le_of_ble_eq_true rfl⟩ (sl_148 e4 ⟨rfl, rfl⟩) rfl rfl (Nat.le_of_ble_eq_true rfl) (Nat.le_of_ble_eq_true rfl) ?_
  refine sh_Lk_lift (T := m14.T) (I := m14.I) (J := m14.J) (s := m14.s) (pc2 := 74) (lv2 := [(0, .ref 42)]) (st2 := [.ref 42, .ref 42]) (I2 := sh_u2 m14.I 53 5 r4) (J2 := m14.J) (fun hT v kk => ?_) ?_
  · refine sh_pI1 (x := r4) (pc2 := 72) rfl rfl (sh_s53 hT.st) rfl rfl rfl rfl ?_
    refine sh_w (i := (.aload_n 0)) (len := 1) (pc2 := 73) (lv2 := [(0, .ref 42)]) (st2 := [.ref 42]) (h2 := (sh_rep m14.T (sh_u2 m14.I 53 5 r4) m14.J)) rfl rfl rfl ?_
    refine sh_w (i := (.aload_n 0)) (len := 1) (pc2 := 74) (lv2 := [(0, .ref 42)]) (st2 := [.ref 42, .ref 42]) (h2 := (sh_rep m14.T (sh_u2 m14.I 53 5 r4) m14.J)) rfl rfl rfl ?_
    exact kk
  obtain ⟨r5, m15, e5, e⟩ := sh_bn_e e
  refine sh_Lk_cV (r := (some (.int r5))) (st2 := [.int r5, .ref 42]) (pc2 := 77) (k2 := 148) (a := 41) (as := [.ref 42]) (rest := [.ref 42]) rfl rfl rfl (fun hT => (sh_s41 hT.st)) rfl rfl ⟨Nat.le_of_ble_eq_true rfl, Nat.le_of_ble_eq_true rfl⟩ (sl_148 e5 ⟨rfl, rfl⟩) rfl rfl (Nat.le_of_ble_eq_true rfl) (Nat.le_of_ble_eq_true rfl) ?_
  refine sh_Lk_lift (T := m15.T) (I := m15.I) (J := m15.J) (s := m15.s) (pc2 := 80) (lv2 := [(0, .ref 42)]) (st2 := []) (I2 := sh_u2 m15.I 41 13 r5) (J2 := m15.J) (fun hT v kk => ?_) ?_
  · refine sh_pI1 (x := r5) (pc2 := 80) rfl rfl (sh_s41 hT.st) rfl rfl rfl rfl ?_
    exact kk
  obtain rfl := Option.some.inj e
  obtain ⟨rfl, rfl⟩ := tg
  exact sh_Lk_ret (i := .return_) rfl rfl rfl (Nat.le_of_ble_eq_true rfl) (Nat.le_of_ble_eq_true rfl)
theorem sl_161 {x1 : Int32} {m m2 : sh_X} {o : Outcome} {z : (Option Unit × sh_X)} (e : sf_161 x1 m = some z) (tg : (sh_tVt o m2) z) : sh_Lk 161 0 [(0, .ref 42), (1, .int x1)] [] m o m2 12 294 := by
  unfold sf_161 at e
  refine sh_Lk_lift (T := m.T) (I := m.I) (J := m.J) (s := m.s) (pc2 := 8) (lv2 := [(0, .ref 42), (1, .int x1)]) (st2 := [.int (m.I 41 18), .ref 29]) (I2 := m.I) (J2 := m.J) (fun hT v kk => ?_) ?_
  · refine sh_w (i := (.aload_n 0)) (len := 1) (pc2 := 1) (lv2 := [(0, .ref 42), (1, .int x1)]) (st2 := [.ref 42]) (h2 := (sh_rep m.T m.I m.J)) rfl rfl rfl ?_
    refine sh_gR1 (len := 3) (x := .ref 29) (pc2 := 4) rfl rfl (sh_s41 hT.st) rfl rfl ?_
    refine sh_w (i := (.aload_n 0)) (len := 1) (pc2 := 5) (lv2 := [(0, .ref 42), (1, .int x1)]) (st2 := [.ref 42, .ref 29]) (h2 := (sh_rep m.T m.I m.J)) rfl rfl rfl ?_
    refine sh_gI1 (len := 3) (x := m.I 41 18) (pc2 := 8) rfl rfl (sh_s41 hT.st) rfl rfl rfl ?_
    exact kk
  obtain ⟨r1, e1, e⟩ := sh_bc_e e
  refine sh_Lk_cV (r := (some (.int (sh_b2 r1)))) (st2 := [.int (sh_b2 r1)]) (pc2 := 11) (k2 := 156) (a := 28) (as := [.ref 29, .int (m.I 41 18)]) (rest := []) rfl rfl rfl (fun hT => (sh_s28 hT.st)) rfl rfl ⟨Nat.le_of_ble_eq_true rfl, Nat.le_of_ble_eq_true rfl⟩ (sl_156 e1 ⟨rfl, rfl⟩) rfl rfl (Nat.le_of_ble_eq_true rfl) (Nat.le_of_ble_eq_true rfl) ?_
  rcases sh_ite e with ⟨c, e⟩ | ⟨c, e⟩
  · refine sh_Lk_lift (T := m.T) (I := m.I) (J := m.J) (s := m.s) (pc2 := 26) (lv2 := [(0, .ref 42), (1, .int x1)]) (st2 := [.int (m.I 41 18), .ref 33, .ref 42]) (I2 := m.I) (J2 := m.J) (fun hT v kk => ?_) ?_
    · refine sh_j0 (c := .eq) (off := (20)) (pc2 := 14) false rfl (sh_Zeqf c) rfl ?_
      refine sh_w (i := (.aload_n 0)) (len := 1) (pc2 := 15) (lv2 := [(0, .ref 42), (1, .int x1)]) (st2 := [.ref 42]) (h2 := (sh_rep m.T m.I m.J)) rfl rfl rfl ?_
      refine sh_w (i := (.aload_n 0)) (len := 1) (pc2 := 16) (lv2 := [(0, .ref 42), (1, .int x1)]) (st2 := [.ref 42, .ref 42]) (h2 := (sh_rep m.T m.I m.J)) rfl rfl rfl ?_
      refine sh_gR1 (len := 3) (x := .ref 29) (pc2 := 19) rfl rfl (sh_s41 hT.st) rfl rfl ?_
      refine sh_gR1 (len := 3) (x := .ref 33) (pc2 := 22) rfl rfl (sh_s28 hT.st) rfl rfl ?_
      refine sh_w (i := (.aload_n 0)) (len := 1) (pc2 := 23) (lv2 := [(0, .ref 42), (1, .int x1)]) (st2 := [.ref 42, .ref 33, .ref 42]) (h2 := (sh_rep m.T m.I m.J)) rfl rfl rfl ?_
      refine sh_gI1 (len := 3) (x := m.I 41 18) (pc2 := 26) rfl rfl (sh_s41 hT.st) rfl rfl rfl ?_
      exact kk
    obtain ⟨c, e⟩ := sh_gd e
    refine sh_Lk_lift (T := m.T) (I := m.I) (J := m.J) (s := m.s) (pc2 := 28) (lv2 := [(0, .ref 42), (1, .int x1)]) (st2 := [.int x1, .int (m.I 32 (Int32.toNatClampNeg (m.I 41 18))), .ref 42]) (I2 := m.I) (J2 := m.J) (fun hT v kk => ?_) ?_
    · refine sh_ia1 (x := m.I 32 (Int32.toNatClampNeg (m.I 41 18))) (pc2 := 27) rfl (sh_s32 hT.st) (sh_okb1 c) (sh_okb2 c) rfl rfl ?_
      refine sh_w (i := (.iload_n 1)) (len := 1) (pc2 := 28) (lv2 := [(0, .ref 42), (1, .int x1)]) (st2 := [.int x1, .int (m.I 32 (Int32.toNatClampNeg (m.I 41 18))), .ref 42]) (h2 := (sh_rep m.T m.I m.J)) rfl rfl rfl ?_
      exact kk
    rcases sh_bt_e e with ⟨m12, e2, rfl⟩ | ⟨r2, m12, e2, e⟩
    · obtain ⟨rfl, rfl⟩ := tg
      exact sh_Lk_tV (k2 := 125) (a := 41) (as := [.ref 42, .int (m.I 32 (Int32.toNatClampNeg (m.I 41 18))), .int x1]) (rest := []) rfl rfl rfl (fun hT => (sh_s41 hT.st)) rfl rfl ⟨Nat.le_of_ble_eq_true rfl, Nat.le_of_ble_eq_true rfl⟩ (sl_125 e2 ⟨rfl, rfl⟩) rfl (Nat.le_of_ble_eq_true rfl) (Nat.le_of_ble_eq_true rfl) (Nat.le_of_ble_eq_true rfl) (Nat.le_of_ble_eq_true rfl) rfl
    refine sh_Lk_cV (r := none) (st2 := []) (pc2 := 31) (k2 := 125) (a := 41) (as := [.ref 42, .int (m.I 32 (Int32.toNatClampNeg (m.I 41 18))), .int x1]) (rest := []) rfl rfl rfl (fun hT => (sh_s41 hT.st)) rfl rfl ⟨Nat.le_of_ble_eq_true rfl, Nat.le_of_ble_eq_true rfl⟩ (sl_125 e2 ⟨rfl, rfl⟩) rfl rfl (Nat.le_of_ble_eq_true rfl) (Nat.le_of_ble_eq_true rfl) ?_
    exact sh_Lk_sub (sh_sub_c rfl (sh_sub_n)) (sl_161_31 e tg)
  · refine sh_Lk_lift (T := m.T) (I := m.I) (J := m.J) (s := m.s) (pc2 := 31) (lv2 := [(0, .ref 42), (1, .int x1)]) (st2 := []) (I2 := m.I) (J2 := m.J) (fun hT v kk => ?_) ?_
    · refine sh_j0 (c := .eq) (off := (20)) (pc2 := 31) true rfl (sh_Zeqt c) rfl ?_
      exact kk
    exact sh_Lk_sub (sh_sub_c rfl (sh_sub_n)) (sl_161_31 e tg)
theorem sl_162 {x1 : Int64} {x3 : Int32} {m m2 : sh_X} {o : Outcome} {z : (Unit × sh_X)} (e : sf_162 x1 x3 m = some z) (tg : (sh_tV o m2) z) : sh_Lk 162 0 [(0, .ref 49), (1, .long x1), (3, .int x3)] [] m o m2 8 200 := by
  unfold sf_162 at e
  refine sh_Lk_lift (T := m.T) (I := m.I) (J := m.J) (s := m.s) (pc2 := 7) (lv2 := [(0, .ref 49), (1, .long x1), (3, .int x3)]) (st2 := [.int 2048, .int (m.I 48 4)]) (I2 := m.I) (J2 := m.J) (fun hT v kk => ?_) ?_
  · refine sh_w (i := (.aload_n 0)) (len := 1) (pc2 := 1) (lv2 := [(0, .ref 49), (1, .long x1), (3, .int x3)]) (st2 := [.ref 49]) (h2 := (sh_rep m.T m.I m.J)) rfl rfl rfl ?_
    refine sh_gI1 (len := 3) (x := m.I 48 4) (pc2 := 4) rfl rfl (sh_s48 hT.st) rfl rfl rfl ?_
    refine sh_w (i := (.sipush 2048)) (len := 3) (pc2 := 7) (lv2 := [(0, .ref 49), (1, .long x1), (3, .int x3)]) (st2 := [.int 2048, .int (m.I 48 4)]) (h2 := (sh_rep m.T m.I m.J)) rfl rfl rfl ?_
    exact kk
  rcases sh_ite e with ⟨c, e⟩ | ⟨c, e⟩
  · refine sh_Lk_lift (T := m.T) (I := m.I) (J := m.J) (s := m.s) (pc2 := 19) (lv2 := [(0, .ref 49), (1, .long x1), (3, .int x3)]) (st2 := [.int 0, .int (m.I 48 4), .ref 50]) (I2 := m.I) (J2 := m.J) (fun hT v kk => ?_) ?_
    · refine sh_jc (c := .ge) (off := (43)) (pc2 := 10) false rfl (sh_Bgef c) rfl ?_
      refine sh_w (i := (.aload_n 0)) (len := 1) (pc2 := 11) (lv2 := [(0, .ref 49), (1, .long x1), (3, .int x3)]) (st2 := [.ref 49]) (h2 := (sh_rep m.T m.I m.J)) rfl rfl rfl ?_
      refine sh_gR1 (len := 3) (x := .ref 50) (pc2 := 14) rfl rfl (sh_s48 hT.st) rfl rfl ?_
      refine sh_w (i := (.aload_n 0)) (len := 1) (pc2 := 15) (lv2 := [(0, .ref 49), (1, .long x1), (3, .int x3)]) (st2 := [.ref 49, .ref 50]) (h2 := (sh_rep m.T m.I m.J)) rfl rfl rfl ?_
      refine sh_gI1 (len := 3) (x := m.I 48 4) (pc2 := 18) rfl rfl (sh_s48 hT.st) rfl rfl rfl ?_
      refine sh_w (i := (.iconst 0)) (len := 1) (pc2 := 19) (lv2 := [(0, .ref 49), (1, .long x1), (3, .int x3)]) (st2 := [.int 0, .int (m.I 48 4), .ref 50]) (h2 := (sh_rep m.T m.I m.J)) rfl rfl rfl ?_
      exact kk
    obtain ⟨c, e⟩ := sh_gd e
    refine sh_Lk_lift (T := m.T) (I := m.I) (J := m.J) (s := m.s) (pc2 := 29) (lv2 := [(0, .ref 49), (1, .long x1), (3, .int x3)]) (st2 := [.long x1, .int (m.I 48 4), .ref 52]) (I2 := sh_u2 m.I 49 (Int32.toNatClampNeg (m.I 48 4)) 0) (J2 := m.J) (fun hT v kk => ?_) ?_
    · refine sh_is1 (x := 0) (i := m.I 48 4) (pc2 := 20) rfl (sh_s49 hT.st) (sh_okb1 c) (sh_okb2 c) rfl ?_
      refine sh_w (i := (.aload_n 0)) (len := 1) (pc2 := 21) (lv2 := [(0, .ref 49), (1, .long x1), (3, .int x3)]) (st2 := [.ref 49]) (h2 := (sh_rep m.T (sh_u2 m.I 49 (Int32.toNatClampNeg (m.I 48 4)) 0) m.J)) rfl rfl rfl ?_
      refine sh_gR1 (len := 3) (x := .ref 52) (pc2 := 24) rfl rfl (sh_s48 hT.st) rfl rfl ?_
      refine sh_w (i := (.aload_n 0)) (len := 1) (pc2 := 25) (lv2 := [(0, .ref 49), (1, .long x1), (3, .int x3)]) (st2 := [.ref 49, .ref 52]) (h2 := (sh_rep m.T (sh_u2 m.I 49 (Int32.toNatClampNeg (m.I 48 4)) 0) m.J)) rfl rfl rfl ?_
      refine sh_gI1 (len := 3) (x := m.I 48 4) (pc2 := 28) rfl rfl (sh_s48 hT.st) rfl rfl rfl ?_
      refine sh_w (i := (.lload_n 1)) (len := 1) (pc2 := 29) (lv2 := [(0, .ref 49), (1, .long x1), (3, .int x3)]) (st2 := [.long x1, .int (m.I 48 4), .ref 52]) (h2 := (sh_rep m.T (sh_u2 m.I 49 (Int32.toNatClampNeg (m.I 48 4)) 0) m.J)) rfl rfl rfl ?_
      exact kk
    obtain ⟨c, e⟩ := sh_gd e
    refine sh_Lk_lift (T := m.T) (I := sh_u2 m.I 49 (Int32.toNatClampNeg (m.I 48 4)) 0) (J := m.J) (s := m.s) (pc2 := 39) (lv2 := [(0, .ref 49), (1, .long x1), (3, .int x3)]) (st2 := [.int x3, .int (m.I 48 4), .ref 53]) (I2 := sh_u2 m.I 49 (Int32.toNatClampNeg (m.I 48 4)) 0) (J2 := sh_u2 m.J 51 (Int32.toNatClampNeg (m.I 48 4)) x1) (fun hT v kk => ?_) ?_
    · refine sh_ls1 (x := x1) (i := m.I 48 4) (pc2 := 30) rfl (sh_s51 hT.st) (sh_okb1 c) (sh_okb2 c) rfl ?_
      refine sh_w (i := (.aload_n 0)) (len := 1) (pc2 := 31) (lv2 := [(0, .ref 49), (1, .long x1), (3, .int x3)]) (st2 := [.ref 49]) (h2 := (sh_rep m.T (sh_u2 m.I 49 (Int32.toNatClampNeg (m.I 48 4)) 0) (sh_u2 m.J 51 (Int32.toNatClampNeg (m.I 48 4)) x1))) rfl rfl rfl ?_
      refine sh_gR1 (len := 3) (x := .ref 53) (pc2 := 34) rfl rfl (sh_s48 hT.st) rfl rfl ?_
      refine sh_w (i := (.aload_n 0)) (len := 1) (pc2 := 35) (lv2 := [(0, .ref 49), (1, .long x1), (3, .int x3)]) (st2 := [.ref 49, .ref 53]) (h2 := (sh_rep m.T (sh_u2 m.I 49 (Int32.toNatClampNeg (m.I 48 4)) 0) (sh_u2 m.J 51 (Int32.toNatClampNeg (m.I 48 4)) x1))) rfl rfl rfl ?_
      refine sh_gI1 (len := 3) (x := m.I 48 4) (pc2 := 38) rfl rfl (sh_s48 hT.st) rfl rfl rfl ?_
      refine sh_w (i := (.iload_n 3)) (len := 1) (pc2 := 39) (lv2 := [(0, .ref 49), (1, .long x1), (3, .int x3)]) (st2 := [.int x3, .int (m.I 48 4), .ref 53]) (h2 := (sh_rep m.T (sh_u2 m.I 49 (Int32.toNatClampNeg (m.I 48 4)) 0) (sh_u2 m.J 51 (Int32.toNatClampNeg (m.I 48 4)) x1))) rfl rfl rfl ?_
      exact kk
    obtain ⟨c, e⟩ := sh_gd e
    refine sh_Lk_lift (T := m.T) (I := sh_u2 m.I 49 (Int32.toNatClampNeg (m.I 48 4)) 0) (J := sh_u2 m.J 51 (Int32.toNatClampNeg (m.I 48 4)) x1) (s := m.s) (pc2 := 50) (lv2 := [(0, .ref 49), (1, .long x1), (3, .int x3)]) (st2 := []) (I2 := sh_u2 (sh_u2 (sh_u2 m.I 49 (Int32.toNatClampNeg (m.I 48 4)) 0) 52 (Int32.toNatClampNeg (m.I 48 4)) x3) 48 4 ((m.I 48 4) + 1)) (J2 := sh_u2 m.J 51 (Int32.toNatClampNeg (m.I 48 4)) x1) (fun hT v kk => ?_) ?_
    · refine sh_is1 (x := x3) (i := m.I 48 4) (pc2 := 40) rfl (sh_s52 hT.st) (sh_okb1 c) (sh_okb2 c) rfl ?_
      refine sh_w (i := (.aload_n 0)) (len := 1) (pc2 := 41) (lv2 := [(0, .ref 49), (1, .long x1), (3, .int x3)]) (st2 := [.ref 49]) (h2 := (sh_rep m.T (sh_u2 (sh_u2 m.I 49 (Int32.toNatClampNeg (m.I 48 4)) 0) 52 (Int32.toNatClampNeg (m.I 48 4)) x3) (sh_u2 m.J 51 (Int32.toNatClampNeg (m.I 48 4)) x1))) rfl rfl rfl ?_
      refine sh_w (i := .dup) (len := 1) (pc2 := 42) (lv2 := [(0, .ref 49), (1, .long x1), (3, .int x3)]) (st2 := [.ref 49, .ref 49]) (h2 := (sh_rep m.T (sh_u2 (sh_u2 m.I 49 (Int32.toNatClampNeg (m.I 48 4)) 0) 52 (Int32.toNatClampNeg (m.I 48 4)) x3) (sh_u2 m.J 51 (Int32.toNatClampNeg (m.I 48 4)) x1))) rfl rfl rfl ?_
      refine sh_gI1 (len := 3) (x := m.I 48 4) (pc2 := 45) rfl rfl (sh_s48 hT.st) rfl rfl rfl ?_
      refine sh_w (i := (.iconst 1)) (len := 1) (pc2 := 46) (lv2 := [(0, .ref 49), (1, .long x1), (3, .int x3)]) (st2 := [.int 1, .int (m.I 48 4), .ref 49]) (h2 := (sh_rep m.T (sh_u2 (sh_u2 m.I 49 (Int32.toNatClampNeg (m.I 48 4)) 0) 52 (Int32.toNatClampNeg (m.I 48 4)) x3) (sh_u2 m.J 51 (Int32.toNatClampNeg (m.I 48 4)) x1))) rfl rfl rfl ?_
      refine sh_w (i := .iadd) (len := 1) (pc2 := 47) (lv2 := [(0, .ref 49), (1, .long x1), (3, .int x3)]) (st2 := [.int ((m.I 48 4) + 1), .ref 49]) (h2 := (sh_rep m.T (sh_u2 (sh_u2 m.I 49 (Int32.toNatClampNeg (m.I 48 4)) 0) 52 (Int32.toNatClampNeg (m.I 48 4)) x3) (sh_u2 m.J 51 (Int32.toNatClampNeg (m.I 48 4)) x1))) rfl rfl rfl ?_
      refine sh_pI1 (x := (m.I 48 4) + 1) (pc2 := 50) rfl rfl (sh_s48 hT.st) rfl rfl rfl rfl ?_
      exact kk
    obtain rfl := Option.some.inj e
    obtain ⟨rfl, rfl⟩ := tg
    exact sh_Lk_ret (i := .return_) rfl rfl rfl (Nat.le_of_ble_eq_true rfl) (Nat.le_of_ble_eq_true rfl)
  · refine sh_Lk_lift (T := m.T) (I := m.I) (J := m.J) (s := m.s) (pc2 := 50) (lv2 := [(0, .ref 49), (1, .long x1), (3, .int x3)]) (st2 := []) (I2 := m.I) (J2 := m.J) (fun hT v kk => ?_) ?_
    · refine sh_jc (c := .ge) (off := (43)) (pc2 := 50) true rfl (sh_Bget c) rfl ?_
      exact kk
    obtain rfl := Option.some.inj e
    obtain ⟨rfl, rfl⟩ := tg
    exact sh_Lk_ret (i := .return_) rfl rfl rfl (Nat.le_of_ble_eq_true rfl) (Nat.le_of_ble_eq_true rfl)
theorem sl_163 {x1 : Int32} {x2 : Int32} {m m2 : sh_X} {o : Outcome} {z : (Unit × sh_X)} (e : sf_163 x1 x2 m = some z) (tg : (sh_tV o m2) z) : sh_Lk 163 0 [(0, .ref 49), (1, .int x1), (2, .int x2)] [] m o m2 10 244 := by
  unfold sf_163 at e
  refine sh_Lk_lift (T := m.T) (I := m.I) (J := m.J) (s := m.s) (pc2 := 7) (lv2 := [(0, .ref 49), (1, .int x1), (2, .int x2)]) (st2 := [.int 2048, .int (m.I 48 4)]) (I2 := m.I) (J2 := m.J) (fun hT v kk => ?_) ?_
  · refine sh_w (i := (.aload_n 0)) (len := 1) (pc2 := 1) (lv2 := [(0, .ref 49), (1, .int x1), (2, .int x2)]) (st2 := [.ref 49]) (h2 := (sh_rep m.T m.I m.J)) rfl rfl rfl ?_
    refine sh_gI1 (len := 3) (x := m.I 48 4) (pc2 := 4) rfl rfl (sh_s48 hT.st) rfl rfl rfl ?_
    refine sh_w (i := (.sipush 2048)) (len := 3) (pc2 := 7) (lv2 := [(0, .ref 49), (1, .int x1), (2, .int x2)]) (st2 := [.int 2048, .int (m.I 48 4)]) (h2 := (sh_rep m.T m.I m.J)) rfl rfl rfl ?_
    exact kk
  rcases sh_ite e with ⟨c, e⟩ | ⟨c, e⟩
  · refine sh_Lk_lift (T := m.T) (I := m.I) (J := m.J) (s := m.s) (pc2 := 29) (lv2 := [(0, .ref 49), (1, .int x1), (2, .int x2)]) (st2 := [.int x2, .int x1, .int (((m.I 48 4) + 1) - 1), .ref 49]) (I2 := sh_u2 m.I 48 4 ((m.I 48 4) + 1)) (J2 := m.J) (fun hT v kk => ?_) ?_
    · refine sh_jc (c := .ge) (off := (25)) (pc2 := 10) false rfl (sh_Bgef c) rfl ?_
      refine sh_w (i := (.aload_n 0)) (len := 1) (pc2 := 11) (lv2 := [(0, .ref 49), (1, .int x1), (2, .int x2)]) (st2 := [.ref 49]) (h2 := (sh_rep m.T m.I m.J)) rfl rfl rfl ?_
      refine sh_w (i := .dup) (len := 1) (pc2 := 12) (lv2 := [(0, .ref 49), (1, .int x1), (2, .int x2)]) (st2 := [.ref 49, .ref 49]) (h2 := (sh_rep m.T m.I m.J)) rfl rfl rfl ?_
      refine sh_gI1 (len := 3) (x := m.I 48 4) (pc2 := 15) rfl rfl (sh_s48 hT.st) rfl rfl rfl ?_
      refine sh_w (i := (.iconst 1)) (len := 1) (pc2 := 16) (lv2 := [(0, .ref 49), (1, .int x1), (2, .int x2)]) (st2 := [.int 1, .int (m.I 48 4), .ref 49]) (h2 := (sh_rep m.T m.I m.J)) rfl rfl rfl ?_
      refine sh_w (i := .iadd) (len := 1) (pc2 := 17) (lv2 := [(0, .ref 49), (1, .int x1), (2, .int x2)]) (st2 := [.int ((m.I 48 4) + 1), .ref 49]) (h2 := (sh_rep m.T m.I m.J)) rfl rfl rfl ?_
      refine sh_pI1 (x := (m.I 48 4) + 1) (pc2 := 20) rfl rfl (sh_s48 hT.st) rfl rfl rfl rfl ?_
      refine sh_w (i := (.aload_n 0)) (len := 1) (pc2 := 21) (lv2 := [(0, .ref 49), (1, .int x1), (2, .int x2)]) (st2 := [.ref 49]) (h2 := (sh_rep m.T (sh_u2 m.I 48 4 ((m.I 48 4) + 1)) m.J)) rfl rfl rfl ?_
      refine sh_w (i := (.aload_n 0)) (len := 1) (pc2 := 22) (lv2 := [(0, .ref 49), (1, .int x1), (2, .int x2)]) (st2 := [.ref 49, .ref 49]) (h2 := (sh_rep m.T (sh_u2 m.I 48 4 ((m.I 48 4) + 1)) m.J)) rfl rfl rfl ?_
      refine sh_gI1 (len := 3) (x := (m.I 48 4) + 1) (pc2 := 25) rfl rfl (sh_s48 hT.st) rfl rfl rfl ?_
      refine sh_w (i := (.iconst 1)) (len := 1) (pc2 := 26) (lv2 := [(0, .ref 49), (1, .int x1), (2, .int x2)]) (st2 := [.int 1, .int ((m.I 48 4) + 1), .ref 49]) (h2 := (sh_rep m.T (sh_u2 m.I 48 4 ((m.I 48 4) + 1)) m.J)) rfl rfl rfl ?_
      refine sh_w (i := .isub) (len := 1) (pc2 := 27) (lv2 := [(0, .ref 49), (1, .int x1), (2, .int x2)]) (st2 := [.int (((m.I 48 4) + 1) - 1), .ref 49]) (h2 := (sh_rep m.T (sh_u2 m.I 48 4 ((m.I 48 4) + 1)) m.J)) rfl rfl rfl ?_
      refine sh_w (i := (.iload_n 1)) (len := 1) (pc2 := 28) (lv2 := [(0, .ref 49), (1, .int x1), (2, .int x2)]) (st2 := [.int x1, .int (((m.I 48 4) + 1) - 1), .ref 49]) (h2 := (sh_rep m.T (sh_u2 m.I 48 4 ((m.I 48 4) + 1)) m.J)) rfl rfl rfl ?_
      refine sh_w (i := (.iload_n 2)) (len := 1) (pc2 := 29) (lv2 := [(0, .ref 49), (1, .int x1), (2, .int x2)]) (st2 := [.int x2, .int x1, .int (((m.I 48 4) + 1) - 1), .ref 49]) (h2 := (sh_rep m.T (sh_u2 m.I 48 4 ((m.I 48 4) + 1)) m.J)) rfl rfl rfl ?_
      exact kk
    obtain ⟨r1, m11, e1, e⟩ := sh_bn_e e
    refine sh_Lk_cV (r := none) (st2 := []) (pc2 := 32) (k2 := 116) (a := 48) (as := [.ref 49, .int (((m.I 48 4) + 1) - 1), .int x1, .int x2]) (rest := []) rfl rfl rfl (fun hT => (sh_s48 hT.st)) rfl rfl ⟨Nat.le_of_ble_eq_true rfl, Nat.le_of_ble_eq_true rfl⟩ (sl_116 e1 ⟨rfl, rfl⟩) rfl rfl (Nat.le_of_ble_eq_true rfl) (Nat.le_of_ble_eq_true rfl) ?_
    obtain rfl := Option.some.inj e
    obtain ⟨rfl, rfl⟩ := tg
    exact sh_Lk_ret (i := .return_) rfl rfl rfl (Nat.le_of_ble_eq_true rfl) (Nat.le_of_ble_eq_true rfl)
  · refine sh_Lk_lift (T := m.T) (I := m.I) (J := m.J) (s := m.s) (pc2 := 32) (lv2 := [(0, .ref 49), (1, .int x1), (2, .int x2)]) (st2 := []) (I2 := m.I) (J2 := m.J) (fun hT v kk => ?_) ?_
    · refine sh_jc (c := .ge) (off := (25)) (pc2 := 32) true rfl (sh_Bget c) rfl ?_
      exact kk
    obtain rfl := Option.some.inj e
    obtain ⟨rfl, rfl⟩ := tg
    exact sh_Lk_ret (i := .return_) rfl rfl rfl (Nat.le_of_ble_eq_true rfl) (Nat.le_of_ble_eq_true rfl)
theorem sl_164_30 {x1 : Int32} {x2 : Int32} {m m2 : sh_X} {o : Outcome} {z : (Option Unit × sh_X)} (e : sf_164_30 x1 x2 m = some z) (tg : (sh_tVt o m2) z) : sh_Lk 164 30 [(0, .ref 42), (1, .int x1), (2, .int x2)] [] m o m2 11 266 := by
  unfold sf_164_30 at e
  refine sh_Lk_lift (T := m.T) (I := m.I) (J := m.J) (s := m.s) (pc2 := 35) (lv2 := [(0, .ref 42), (1, .int x1), (2, .int x2)]) (st2 := [.int x2, .ref 54]) (I2 := m.I) (J2 := m.J) (fun hT v kk => ?_) ?_
  · refine sh_w (i := (.aload_n 0)) (len := 1) (pc2 := 31) (lv2 := [(0, .ref 42), (1, .int x1), (2, .int x2)]) (st2 := [.ref 42]) (h2 := (sh_rep m.T m.I m.J)) rfl rfl rfl ?_
    refine sh_gR1 (len := 3) (x := .ref 54) (pc2 := 34) rfl rfl (sh_s41 hT.st) rfl rfl ?_
    refine sh_w (i := (.iload_n 2)) (len := 1) (pc2 := 35) (lv2 := [(0, .ref 42), (1, .int x1), (2, .int x2)]) (st2 := [.int x2, .ref 54]) (h2 := (sh_rep m.T m.I m.J)) rfl rfl rfl ?_
    exact kk
  obtain ⟨r1, e1, e⟩ := sh_bc_e e
  refine sh_Lk_cV (r := (some (.int r1))) (st2 := [.int r1]) (pc2 := 38) (k2 := 120) (a := 53) (as := [.ref 54, .int x2]) (rest := []) rfl rfl rfl (fun hT => (sh_s53 hT.st)) rfl rfl ⟨Nat.le_of_ble_eq_true rfl, Nat.le_of_ble_eq_true rfl⟩ (sl_120 e1 ⟨rfl, rfl⟩) rfl rfl (Nat.le_of_ble_eq_true rfl) (Nat.le_of_ble_eq_true rfl) ?_
  rcases sh_ite e with ⟨c, e⟩ | ⟨c, e⟩
  · refine sh_Lk_lift (T := m.T) (I := m.I) (J := m.J) (s := m.s) (pc2 := 50) (lv2 := [(0, .ref 42), (1, .int x1), (2, .int x2)]) (st2 := [.int x2, .ref 54, .ref 49]) (I2 := m.I) (J2 := m.J) (fun hT v kk => ?_) ?_
    · refine sh_j0 (c := .ne) (off := (22)) (pc2 := 41) false rfl (sh_Bnef c) rfl ?_
      refine sh_w (i := (.aload_n 0)) (len := 1) (pc2 := 42) (lv2 := [(0, .ref 42), (1, .int x1), (2, .int x2)]) (st2 := [.ref 42]) (h2 := (sh_rep m.T m.I m.J)) rfl rfl rfl ?_
      refine sh_gR1 (len := 3) (x := .ref 49) (pc2 := 45) rfl rfl (sh_s41 hT.st) rfl rfl ?_
      refine sh_w (i := (.aload_n 0)) (len := 1) (pc2 := 46) (lv2 := [(0, .ref 42), (1, .int x1), (2, .int x2)]) (st2 := [.ref 42, .ref 49]) (h2 := (sh_rep m.T m.I m.J)) rfl rfl rfl ?_
      refine sh_gR1 (len := 3) (x := .ref 54) (pc2 := 49) rfl rfl (sh_s41 hT.st) rfl rfl ?_
      refine sh_w (i := (.iload_n 2)) (len := 1) (pc2 := 50) (lv2 := [(0, .ref 42), (1, .int x1), (2, .int x2)]) (st2 := [.int x2, .ref 54, .ref 49]) (h2 := (sh_rep m.T m.I m.J)) rfl rfl rfl ?_
      exact kk
    obtain ⟨r2, e2, e⟩ := sh_bc_e e
    refine sh_Lk_cV (r := (some (.long r2))) (st2 := [.long r2, .ref 49]) (pc2 := 53) (k2 := 152) (a := 53) (as := [.ref 54, .int x2]) (rest := [.ref 49]) rfl rfl rfl (fun hT => (sh_s53 hT.st)) rfl rfl ⟨Nat.le_of_ble_eq_true rfl, Nat.le_of_ble_eq_true rfl⟩ (sl_152 e2 ⟨rfl, rfl⟩) rfl rfl (Nat.le_of_ble_eq_true rfl) (Nat.le_of_ble_eq_true rfl) ?_
    refine sh_Lk_lift (T := m.T) (I := m.I) (J := m.J) (s := m.s) (pc2 := 54) (lv2 := [(0, .ref 42), (1, .int x1), (2, .int x2)]) (st2 := [.int x1, .long r2, .ref 49]) (I2 := m.I) (J2 := m.J) (fun hT v kk => ?_) ?_
    · refine sh_w (i := (.iload_n 1)) (len := 1) (pc2 := 54) (lv2 := [(0, .ref 42), (1, .int x1), (2, .int x2)]) (st2 := [.int x1, .long r2, .ref 49]) (h2 := (sh_rep m.T m.I m.J)) rfl rfl rfl ?_
      exact kk
    obtain ⟨r3, m13, e3, e⟩ := sh_bn_e e
    refine sh_Lk_cV (r := none) (st2 := []) (pc2 := 57) (k2 := 162) (a := 48) (as := [.ref 49, .long r2, .int x1]) (rest := []) rfl rfl rfl (fun hT => (sh_s48 hT.st)) rfl rfl ⟨Nat.le_of_ble_eq_true rfl, Nat.le_of_ble_eq_true rfl⟩ (sl_162 e3 ⟨rfl, rfl⟩) rfl rfl (Nat.le_of_ble_eq_true rfl) (Nat.le_of_ble_eq_true rfl) ?_
    refine sh_Lk_lift (T := m13.T) (I := m13.I) (J := m13.J) (s := m13.s) (pc2 := 83) (lv2 := [(0, .ref 42), (1, .int x1), (2, .int x2)]) (st2 := []) (I2 := m13.I) (J2 := m13.J) (fun hT v kk => ?_) ?_
    · refine sh_w (i := (.goto 26)) (len := 3) (pc2 := 83) (lv2 := [(0, .ref 42), (1, .int x1), (2, .int x2)]) (st2 := []) (h2 := (sh_rep m13.T m13.I m13.J)) rfl rfl rfl ?_
      exact kk
    obtain rfl := Option.some.inj e
    obtain ⟨rfl, rfl⟩ := tg
    exact sh_Lk_ret (i := .return_) rfl rfl rfl (Nat.le_of_ble_eq_true rfl) (Nat.le_of_ble_eq_true rfl)
  · refine sh_Lk_lift (T := m.T) (I := m.I) (J := m.J) (s := m.s) (pc2 := 69) (lv2 := [(0, .ref 42), (1, .int x1), (2, .int x2)]) (st2 := [.int x2, .ref 54, .ref 49]) (I2 := m.I) (J2 := m.J) (fun hT v kk => ?_) ?_
    · refine sh_j0 (c := .ne) (off := (22)) (pc2 := 60) true rfl (sh_Bnet c) rfl ?_
      refine sh_w (i := (.aload_n 0)) (len := 1) (pc2 := 61) (lv2 := [(0, .ref 42), (1, .int x1), (2, .int x2)]) (st2 := [.ref 42]) (h2 := (sh_rep m.T m.I m.J)) rfl rfl rfl ?_
      refine sh_gR1 (len := 3) (x := .ref 49) (pc2 := 64) rfl rfl (sh_s41 hT.st) rfl rfl ?_
      refine sh_w (i := (.aload_n 0)) (len := 1) (pc2 := 65) (lv2 := [(0, .ref 42), (1, .int x1), (2, .int x2)]) (st2 := [.ref 42, .ref 49]) (h2 := (sh_rep m.T m.I m.J)) rfl rfl rfl ?_
      refine sh_gR1 (len := 3) (x := .ref 54) (pc2 := 68) rfl rfl (sh_s41 hT.st) rfl rfl ?_
      refine sh_w (i := (.iload_n 2)) (len := 1) (pc2 := 69) (lv2 := [(0, .ref 42), (1, .int x1), (2, .int x2)]) (st2 := [.int x2, .ref 54, .ref 49]) (h2 := (sh_rep m.T m.I m.J)) rfl rfl rfl ?_
      exact kk
    obtain ⟨r4, e4, e⟩ := sh_bc_e e
    refine sh_Lk_cV (r := (some (.int r4))) (st2 := [.int r4, .ref 49]) (pc2 := 72) (k2 := 120) (a := 53) (as := [.ref 54, .int x2]) (rest := [.ref 49]) rfl rfl rfl (fun hT => (sh_s53 hT.st)) rfl rfl ⟨Nat.le_of_ble_eq_true rfl, Nat.le_of_ble_eq_true rfl⟩ (sl_120 e4 ⟨rfl, rfl⟩) rfl rfl (Nat.le_of_ble_eq_true rfl) (Nat.le_of_ble_eq_true rfl) ?_
    refine sh_Lk_lift (T := m.T) (I := m.I) (J := m.J) (s := m.s) (pc2 := 77) (lv2 := [(0, .ref 42), (1, .int x1), (2, .int x2)]) (st2 := [.int x2, .ref 54, .int r4, .ref 49]) (I2 := m.I) (J2 := m.J) (fun hT v kk => ?_) ?_
    · refine sh_w (i := (.aload_n 0)) (len := 1) (pc2 := 73) (lv2 := [(0, .ref 42), (1, .int x1), (2, .int x2)]) (st2 := [.ref 42, .int r4, .ref 49]) (h2 := (sh_rep m.T m.I m.J)) rfl rfl rfl ?_
      refine sh_gR1 (len := 3) (x := .ref 54) (pc2 := 76) rfl rfl (sh_s41 hT.st) rfl rfl ?_
      refine sh_w (i := (.iload_n 2)) (len := 1) (pc2 := 77) (lv2 := [(0, .ref 42), (1, .int x1), (2, .int x2)]) (st2 := [.int x2, .ref 54, .int r4, .ref 49]) (h2 := (sh_rep m.T m.I m.J)) rfl rfl rfl ?_
      exact kk
    obtain ⟨r5, e5, e⟩ := sh_bc_e e
    refine sh_Lk_cV (r := (some (.int r5))) (st2 := [.int r5, .int r4, .ref 49]) (pc2 := 80) (k2 := 127) (a := 53) (as := [.ref 54, .int x2]) (rest := [.int r4, .ref 49]) rfl rfl rfl (fun hT => (sh_s53 hT.st)) rfl rfl ⟨Nat.le_of_ble_eq_true rfl, Nat.le_of_ble_eq_true rfl⟩ (sl_127 e5 ⟨rfl, rfl⟩) rfl rfl (Nat.le_of_ble_eq_true rfl) (Nat.le_of_ble_eq_true rfl) ?_
    obtain ⟨r6, m16, e6, e⟩ := sh_bn_e e
    refine sh_Lk_cV (r := none) (st2 := []) (pc2 := 83) (k2 := 163) (a := 48) (as := [.ref 49, .int r4, .int r5]) (rest := []) rfl rfl rfl (fun hT => (sh_s48 hT.st)) rfl rfl ⟨Nat.le_of_ble_eq_true rfl, Nat.le_of_ble_eq_true rfl⟩ (sl_163 e6 ⟨rfl, rfl⟩) rfl rfl (Nat.le_of_ble_eq_true rfl) (Nat.le_of_ble_eq_true rfl) ?_
    obtain rfl := Option.some.inj e
    obtain ⟨rfl, rfl⟩ := tg
    exact sh_Lk_ret (i := .return_) rfl rfl rfl (Nat.le_of_ble_eq_true rfl) (Nat.le_of_ble_eq_true rfl)
theorem sl_164 {x1 : Int32} {m m2 : sh_X} {o : Outcome} {z : (Option Unit × sh_X)} (e : sf_164 x1 m = some z) (tg : (sh_tVt o m2) z) : sh_Lk 164 0 [(0, .ref 42), (1, .int x1)] [] m o m2 11 266 := by
  unfold sf_164 at e
  refine sh_Lk_lift (T := m.T) (I := m.I) (J := m.J) (s := m.s) (pc2 := 9) (lv2 := [(0, .ref 42), (1, .int x1)]) (st2 := [.int x1, .ref 3, .ref 54]) (I2 := m.I) (J2 := m.J) (fun hT v kk => ?_) ?_
  · refine sh_w (i := (.aload_n 0)) (len := 1) (pc2 := 1) (lv2 := [(0, .ref 42), (1, .int x1)]) (st2 := [.ref 42]) (h2 := (sh_rep m.T m.I m.J)) rfl rfl rfl ?_
    refine sh_gR1 (len := 3) (x := .ref 54) (pc2 := 4) rfl rfl (sh_s41 hT.st) rfl rfl ?_
    refine sh_w (i := (.aload_n 0)) (len := 1) (pc2 := 5) (lv2 := [(0, .ref 42), (1, .int x1)]) (st2 := [.ref 42, .ref 54]) (h2 := (sh_rep m.T m.I m.J)) rfl rfl rfl ?_
    refine sh_gR1 (len := 3) (x := .ref 3) (pc2 := 8) rfl rfl (sh_s41 hT.st) rfl rfl ?_
    refine sh_w (i := (.iload_n 1)) (len := 1) (pc2 := 9) (lv2 := [(0, .ref 42), (1, .int x1)]) (st2 := [.int x1, .ref 3, .ref 54]) (h2 := (sh_rep m.T m.I m.J)) rfl rfl rfl ?_
    exact kk
  obtain ⟨r1, e1, e⟩ := sh_bc_e e
  refine sh_Lk_cV (r := (some (.int r1))) (st2 := [.int r1, .ref 54]) (pc2 := 12) (k2 := 83) (a := 2) (as := [.ref 3, .int x1]) (rest := [.ref 54]) rfl rfl rfl (fun hT => hT.t2) rfl rfl ⟨Nat.le_of_ble_eq_true rfl, Nat.le_of_ble_eq_true rfl⟩ (sl_83 e1 ⟨rfl, rfl⟩) rfl rfl (Nat.le_of_ble_eq_true rfl) (Nat.le_of_ble_eq_true rfl) ?_
  obtain ⟨r2, e2, e⟩ := sh_bc_e e
  refine sh_Lk_cV (r := (some (.int r2))) (st2 := [.int r2]) (pc2 := 15) (k2 := 92) (a := 53) (as := [.ref 54, .int r1]) (rest := []) rfl rfl rfl (fun hT => (sh_s53 hT.st)) rfl rfl ⟨Nat.le_of_ble_eq_true rfl, Nat.le_of_ble_eq_true rfl⟩ (sl_92 e2 ⟨rfl, rfl⟩) rfl rfl (Nat.le_of_ble_eq_true rfl) (Nat.le_of_ble_eq_true rfl) ?_
  refine sh_Lk_lift (T := m.T) (I := m.I) (J := m.J) (s := m.s) (pc2 := 18) (lv2 := [(2, .int r2), (0, .ref 42), (1, .int x1)]) (st2 := [.int (-1), .int r2]) (I2 := m.I) (J2 := m.J) (fun hT v kk => ?_) ?_
  · refine sh_w (i := (.istore_n 2)) (len := 1) (pc2 := 16) (lv2 := [(2, .int r2), (0, .ref 42), (1, .int x1)]) (st2 := []) (h2 := (sh_rep m.T m.I m.J)) rfl rfl rfl ?_
    refine sh_w (i := (.iload_n 2)) (len := 1) (pc2 := 17) (lv2 := [(2, .int r2), (0, .ref 42), (1, .int x1)]) (st2 := [.int r2]) (h2 := (sh_rep m.T m.I m.J)) rfl rfl rfl ?_
    refine sh_w (i := (.iconst (-1))) (len := 1) (pc2 := 18) (lv2 := [(2, .int r2), (0, .ref 42), (1, .int x1)]) (st2 := [.int (-1), .int r2]) (h2 := (sh_rep m.T m.I m.J)) rfl rfl rfl ?_
    exact kk
  rcases sh_ite e with ⟨c, e⟩ | ⟨c, e⟩
  · refine sh_Lk_lift (T := m.T) (I := m.I) (J := m.J) (s := m.s) (pc2 := 27) (lv2 := [(2, .int r2), (0, .ref 42), (1, .int x1)]) (st2 := [.int x1, .int 3, .ref 3]) (I2 := m.I) (J2 := m.J) (fun hT v kk => ?_) ?_
    · refine sh_jc (c := .ne) (off := (12)) (pc2 := 21) false rfl (sh_Bnef c) rfl ?_
      refine sh_w (i := (.aload_n 0)) (len := 1) (pc2 := 22) (lv2 := [(2, .int r2), (0, .ref 42), (1, .int x1)]) (st2 := [.ref 42]) (h2 := (sh_rep m.T m.I m.J)) rfl rfl rfl ?_
      refine sh_gR1 (len := 3) (x := .ref 3) (pc2 := 25) rfl rfl (sh_s41 hT.st) rfl rfl ?_
      refine sh_w (i := (.iconst 3)) (len := 1) (pc2 := 26) (lv2 := [(2, .int r2), (0, .ref 42), (1, .int x1)]) (st2 := [.int 3, .ref 3]) (h2 := (sh_rep m.T m.I m.J)) rfl rfl rfl ?_
      refine sh_w (i := (.iload_n 1)) (len := 1) (pc2 := 27) (lv2 := [(2, .int r2), (0, .ref 42), (1, .int x1)]) (st2 := [.int x1, .int 3, .ref 3]) (h2 := (sh_rep m.T m.I m.J)) rfl rfl rfl ?_
      exact kk
    rcases sh_bt_e e with ⟨m13, e3, rfl⟩ | ⟨r3, m13, e3, e⟩
    · obtain ⟨rfl, rfl⟩ := tg
      exact sh_Lk_tV (k2 := 50) (a := 2) (as := [.ref 3, .int 3, .int x1]) (rest := []) rfl rfl rfl (fun hT => hT.t2) rfl rfl ⟨Nat.le_of_ble_eq_true rfl, Nat.le_of_ble_eq_true rfl⟩ (sl_50 e3 ⟨rfl, rfl⟩) rfl (Nat.le_of_ble_eq_true rfl) (Nat.le_of_ble_eq_true rfl) (Nat.le_of_ble_eq_true rfl) (Nat.le_of_ble_eq_true rfl) rfl
    refine sh_Lk_cV (r := none) (st2 := []) (pc2 := 30) (k2 := 50) (a := 2) (as := [.ref 3, .int 3, .int x1]) (rest := []) rfl rfl rfl (fun hT => hT.t2) rfl rfl ⟨Nat.le_of_ble_eq_true rfl, Nat.le_of_ble_eq_true rfl⟩ (sl_50 e3 ⟨rfl, rfl⟩) rfl rfl (Nat.le_of_ble_eq_true rfl) (Nat.le_of_ble_eq_true rfl) ?_
    exact sh_Lk_sub (sh_sub_c rfl (sh_sub_c rfl (sh_sub_c rfl (sh_sub_n)))) (sl_164_30 e tg)
  · refine sh_Lk_lift (T := m.T) (I := m.I) (J := m.J) (s := m.s) (pc2 := 30) (lv2 := [(2, .int r2), (0, .ref 42), (1, .int x1)]) (st2 := []) (I2 := m.I) (J2 := m.J) (fun hT v kk => ?_) ?_
    · refine sh_jc (c := .ne) (off := (12)) (pc2 := 30) true rfl (sh_Bnet c) rfl ?_
      exact kk
    exact sh_Lk_sub (sh_sub_c rfl (sh_sub_c rfl (sh_sub_c rfl (sh_sub_n)))) (sl_164_30 e tg)
theorem sl_166_13s {x1 : Int32} {x2 : Int32} {x3 : Int32} {x4 : Int32} {x5 : Int32} {x6 : Int32} {m m2 : sh_X} {o : Outcome} {z : ((Int32 × Int32 × sh_X) ⊕ (Int32 × sh_X))} (e : sf_166_13s x1 x2 x3 x4 x5 x6 m = some z) (tg : (sh_el (fun q => sh_Lk 166 13 [(0, .ref 45), (1, .int x1), (2, .int x2), (3, .int x3), (4, .int x4), (5, .int q.1), (6, .int q.2.1)] [] q.2.2 o m2 12 288) (sh_tI o m2)) z) : sh_Lk 166 13 [(0, .ref 45), (1, .int x1), (2, .int x2), (3, .int x3), (4, .int x4), (5, .int x5), (6, .int x6)] [] m o m2 12 288 := by
  unfold sf_166_13s at e
  refine sh_Lk_lift (T := m.T) (I := m.I) (J := m.J) (s := m.s) (pc2 := 16) (lv2 := [(0, .ref 45), (1, .int x1), (2, .int x2), (3, .int x3), (4, .int x4), (5, .int x5), (6, .int x6)]) (st2 := [.int x2, .int x6]) (I2 := m.I) (J2 := m.J) (fun hT v kk => ?_) ?_
  · refine sh_w (i := (.iload 6)) (len := 2) (pc2 := 15) (lv2 := [(0, .ref 45), (1, .int x1), (2, .int x2), (3, .int x3), (4, .int x4), (5, .int x5), (6, .int x6)]) (st2 := [.int x6]) (h2 := (sh_rep m.T m.I m.J)) rfl rfl rfl ?_
    refine sh_w (i := (.iload_n 2)) (len := 1) (pc2 := 16) (lv2 := [(0, .ref 45), (1, .int x1), (2, .int x2), (3, .int x3), (4, .int x4), (5, .int x5), (6, .int x6)]) (st2 := [.int x2, .int x6]) (h2 := (sh_rep m.T m.I m.J)) rfl rfl rfl ?_
    exact kk
  rcases sh_ite e with ⟨c, e⟩ | ⟨c, e⟩
  · refine sh_Lk_lift (T := m.T) (I := m.I) (J := m.J) (s := m.s) (pc2 := 28) (lv2 := [(0, .ref 45), (1, .int x1), (2, .int x2), (3, .int x3), (4, .int x4), (5, .int x5), (6, .int x6)]) (st2 := [.int (x1 + x6), .ref 45, .ref 10]) (I2 := m.I) (J2 := m.J) (fun hT v kk => ?_) ?_
    · refine sh_jc (c := .ge) (off := (60)) (pc2 := 19) false rfl (sh_Bgef c) rfl ?_
      refine sh_w (i := (.aload_n 0)) (len := 1) (pc2 := 20) (lv2 := [(0, .ref 45), (1, .int x1), (2, .int x2), (3, .int x3), (4, .int x4), (5, .int x5), (6, .int x6)]) (st2 := [.ref 45]) (h2 := (sh_rep m.T m.I m.J)) rfl rfl rfl ?_
      refine sh_gR1 (len := 3) (x := .ref 10) (pc2 := 23) rfl rfl (sh_s44 hT.st) rfl rfl ?_
      refine sh_w (i := (.aload_n 0)) (len := 1) (pc2 := 24) (lv2 := [(0, .ref 45), (1, .int x1), (2, .int x2), (3, .int x3), (4, .int x4), (5, .int x5), (6, .int x6)]) (st2 := [.ref 45, .ref 10]) (h2 := (sh_rep m.T m.I m.J)) rfl rfl rfl ?_
      refine sh_w (i := (.iload_n 1)) (len := 1) (pc2 := 25) (lv2 := [(0, .ref 45), (1, .int x1), (2, .int x2), (3, .int x3), (4, .int x4), (5, .int x5), (6, .int x6)]) (st2 := [.int x1, .ref 45, .ref 10]) (h2 := (sh_rep m.T m.I m.J)) rfl rfl rfl ?_
      refine sh_w (i := (.iload 6)) (len := 2) (pc2 := 27) (lv2 := [(0, .ref 45), (1, .int x1), (2, .int x2), (3, .int x3), (4, .int x4), (5, .int x5), (6, .int x6)]) (st2 := [.int x6, .int x1, .ref 45, .ref 10]) (h2 := (sh_rep m.T m.I m.J)) rfl rfl rfl ?_
      refine sh_w (i := .iadd) (len := 1) (pc2 := 28) (lv2 := [(0, .ref 45), (1, .int x1), (2, .int x2), (3, .int x3), (4, .int x4), (5, .int x5), (6, .int x6)]) (st2 := [.int (x1 + x6), .ref 45, .ref 10]) (h2 := (sh_rep m.T m.I m.J)) rfl rfl rfl ?_
      exact kk
    obtain ⟨r1, e1, e⟩ := sh_bc_e e
    refine sh_Lk_cV (r := (some (.int r1))) (st2 := [.int r1, .ref 10]) (pc2 := 31) (k2 := 103) (a := 44) (as := [.ref 45, .int (x1 + x6)]) (rest := [.ref 10]) rfl rfl rfl (fun hT => (sh_s44 hT.st)) rfl rfl ⟨Nat.le_of_ble_eq_true rfl, Nat.le_of_ble_eq_true rfl⟩ (sl_103 e1 ⟨rfl, rfl⟩) rfl rfl (Nat.le_of_ble_eq_true rfl) (Nat.le_of_ble_eq_true rfl) ?_
    refine sh_Lk_lift (T := m.T) (I := m.I) (J := m.J) (s := m.s) (pc2 := 32) (lv2 := [(0, .ref 45), (1, .int x1), (2, .int x2), (3, .int x3), (4, .int x4), (5, .int x5), (6, .int x6)]) (st2 := [.int x3, .int r1, .ref 10]) (I2 := m.I) (J2 := m.J) (fun hT v kk => ?_) ?_
    · refine sh_w (i := (.iload_n 3)) (len := 1) (pc2 := 32) (lv2 := [(0, .ref 45), (1, .int x1), (2, .int x2), (3, .int x3), (4, .int x4), (5, .int x5), (6, .int x6)]) (st2 := [.int x3, .int r1, .ref 10]) (h2 := (sh_rep m.T m.I m.J)) rfl rfl rfl ?_
      exact kk
    obtain ⟨r2, m12, e2, e⟩ := sh_bn_e e
    refine sh_Lk_cV (r := (some (.int r2))) (st2 := [.int r2]) (pc2 := 35) (k2 := 130) (a := 9) (as := [.ref 10, .int r1, .int x3]) (rest := []) rfl rfl rfl (fun hT => hT.t9) rfl rfl ⟨Nat.le_of_ble_eq_true rfl, Nat.le_of_ble_eq_true rfl⟩ (sl_130 e2 ⟨rfl, rfl⟩) rfl rfl (Nat.le_of_ble_eq_true rfl) (Nat.le_of_ble_eq_true rfl) ?_
    refine sh_Lk_lift (T := m12.T) (I := m12.I) (J := m12.J) (s := m12.s) (pc2 := 51) (lv2 := [(7, .int r2), (0, .ref 45), (1, .int x1), (2, .int x2), (3, .int x3), (4, .int x4), (5, .int x5), (6, .int x6)]) (st2 := [.int x5, .int r2, .ref 10, .int (x4 + x6), .ref 45]) (I2 := m12.I) (J2 := m12.J) (fun hT v kk => ?_) ?_
    · refine sh_w (i := (.istore 7)) (len := 2) (pc2 := 37) (lv2 := [(7, .int r2), (0, .ref 45), (1, .int x1), (2, .int x2), (3, .int x3), (4, .int x4), (5, .int x5), (6, .int x6)]) (st2 := []) (h2 := (sh_rep m12.T m12.I m12.J)) rfl rfl rfl ?_
      refine sh_w (i := (.aload_n 0)) (len := 1) (pc2 := 38) (lv2 := [(7, .int r2), (0, .ref 45), (1, .int x1), (2, .int x2), (3, .int x3), (4, .int x4), (5, .int x5), (6, .int x6)]) (st2 := [.ref 45]) (h2 := (sh_rep m12.T m12.I m12.J)) rfl rfl rfl ?_
      refine sh_w (i := (.iload 4)) (len := 2) (pc2 := 40) (lv2 := [(7, .int r2), (0, .ref 45), (1, .int x1), (2, .int x2), (3, .int x3), (4, .int x4), (5, .int x5), (6, .int x6)]) (st2 := [.int x4, .ref 45]) (h2 := (sh_rep m12.T m12.I m12.J)) rfl rfl rfl ?_
      refine sh_w (i := (.iload 6)) (len := 2) (pc2 := 42) (lv2 := [(7, .int r2), (0, .ref 45), (1, .int x1), (2, .int x2), (3, .int x3), (4, .int x4), (5, .int x5), (6, .int x6)]) (st2 := [.int x6, .int x4, .ref 45]) (h2 := (sh_rep m12.T m12.I m12.J)) rfl rfl rfl ?_
      refine sh_w (i := .iadd) (len := 1) (pc2 := 43) (lv2 := [(7, .int r2), (0, .ref 45), (1, .int x1), (2, .int x2), (3, .int x3), (4, .int x4), (5, .int x5), (6, .int x6)]) (st2 := [.int (x4 + x6), .ref 45]) (h2 := (sh_rep m12.T m12.I m12.J)) rfl rfl rfl ?_
      refine sh_w (i := (.aload_n 0)) (len := 1) (pc2 := 44) (lv2 := [(7, .int r2), (0, .ref 45), (1, .int x1), (2, .int x2), (3, .int x3), (4, .int x4), (5, .int x5), (6, .int x6)]) (st2 := [.ref 45, .int (x4 + x6), .ref 45]) (h2 := (sh_rep m12.T m12.I m12.J)) rfl rfl rfl ?_
      refine sh_gR1 (len := 3) (x := .ref 10) (pc2 := 47) rfl rfl (sh_s44 hT.st) rfl rfl ?_
      refine sh_w (i := (.iload 7)) (len := 2) (pc2 := 49) (lv2 := [(7, .int r2), (0, .ref 45), (1, .int x1), (2, .int x2), (3, .int x3), (4, .int x4), (5, .int x5), (6, .int x6)]) (st2 := [.int r2, .ref 10, .int (x4 + x6), .ref 45]) (h2 := (sh_rep m12.T m12.I m12.J)) rfl rfl rfl ?_
      refine sh_w (i := (.iload 5)) (len := 2) (pc2 := 51) (lv2 := [(7, .int r2), (0, .ref 45), (1, .int x1), (2, .int x2), (3, .int x3), (4, .int x4), (5, .int x5), (6, .int x6)]) (st2 := [.int x5, .int r2, .ref 10, .int (x4 + x6), .ref 45]) (h2 := (sh_rep m12.T m12.I m12.J)) rfl rfl rfl ?_
      exact kk
    obtain ⟨r3, m13, e3, e⟩ := sh_bn_e e
    refine sh_Lk_cV (r := (some (.int r3))) (st2 := [.int r3, .int (x4 + x6), .ref 45]) (pc2 := 54) (k2 := 130) (a := 9) (as := [.ref 10, .int r2, .int x5]) (rest := [.int (x4 + x6), .ref 45]) rfl rfl rfl (fun hT => hT.t9) rfl rfl ⟨Nat.le_of_ble_eq_true rfl, Nat.le_of_ble_eq_true rfl⟩ (sl_130 e3 ⟨rfl, rfl⟩) rfl rfl (Nat.le_of_ble_eq_true rfl) (Nat.le_of_ble_eq_true rfl) ?_
    obtain ⟨r4, m14, e4, e⟩ := sh_bn_e e
    refine sh_Lk_cV (r := none) (st2 := []) (pc2 := 57) (k2 := 100) (a := 44) (as := [.ref 45, .int (x4 + x6), .int r3]) (rest := []) rfl rfl rfl (fun hT => (sh_s44 hT.st)) rfl rfl ⟨Nat.le_of_ble_eq_true rfl, Nat.le_of_ble_eq_true rfl⟩ (sl_100 e4 ⟨rfl, rfl⟩) rfl rfl (Nat.le_of_ble_eq_true rfl) (Nat.le_of_ble_eq_true rfl) ?_
    refine sh_Lk_lift (T := m14.T) (I := m14.I) (J := m14.J) (s := m14.s) (pc2 := 65) (lv2 := [(7, .int r2), (0, .ref 45), (1, .int x1), (2, .int x2), (3, .int x3), (4, .int x4), (5, .int x5), (6, .int x6)]) (st2 := [.int x5, .int r2, .ref 10]) (I2 := m14.I) (J2 := m14.J) (fun hT v kk => ?_) ?_
    · refine sh_w (i := (.aload_n 0)) (len := 1) (pc2 := 58) (lv2 := [(7, .int r2), (0, .ref 45), (1, .int x1), (2, .int x2), (3, .int x3), (4, .int x4), (5, .int x5), (6, .int x6)]) (st2 := [.ref 45]) (h2 := (sh_rep m14.T m14.I m14.J)) rfl rfl rfl ?_
      refine sh_gR1 (len := 3) (x := .ref 10) (pc2 := 61) rfl rfl (sh_s44 hT.st) rfl rfl ?_
      refine sh_w (i := (.iload 7)) (len := 2) (pc2 := 63) (lv2 := [(7, .int r2), (0, .ref 45), (1, .int x1), (2, .int x2), (3, .int x3), (4, .int x4), (5, .int x5), (6, .int x6)]) (st2 := [.int r2, .ref 10]) (h2 := (sh_rep m14.T m14.I m14.J)) rfl rfl rfl ?_
      refine sh_w (i := (.iload 5)) (len := 2) (pc2 := 65) (lv2 := [(7, .int r2), (0, .ref 45), (1, .int x1), (2, .int x2), (3, .int x3), (4, .int x4), (5, .int x5), (6, .int x6)]) (st2 := [.int x5, .int r2, .ref 10]) (h2 := (sh_rep m14.T m14.I m14.J)) rfl rfl rfl ?_
      exact kk
    obtain ⟨r5, m15, e5, e⟩ := sh_bn_e e
    refine sh_Lk_cV (r := (some (.int r5))) (st2 := [.int r5]) (pc2 := 68) (k2 := 132) (a := 9) (as := [.ref 10, .int r2, .int x5]) (rest := []) rfl rfl rfl (fun hT => hT.t9) rfl rfl ⟨Nat.le_of_ble_eq_true rfl, Nat.le_of_ble_eq_true rfl⟩ (sl_132 e5 ⟨rfl, rfl⟩) rfl rfl (Nat.le_of_ble_eq_true rfl) (Nat.le_of_ble_eq_true rfl) ?_
    refine sh_Lk_lift (T := m15.T) (I := m15.I) (J := m15.J) (s := m15.s) (pc2 := 13) (lv2 := [(6, .int (x6 + 1)), (5, .int r5), (7, .int r2), (0, .ref 45), (1, .int x1), (2, .int x2), (3, .int x3), (4, .int x4)]) (st2 := []) (I2 := m15.I) (J2 := m15.J) (fun hT v kk => ?_) ?_
    · refine sh_w (i := (.istore 5)) (len := 2) (pc2 := 70) (lv2 := [(5, .int r5), (7, .int r2), (0, .ref 45), (1, .int x1), (2, .int x2), (3, .int x3), (4, .int x4), (6, .int x6)]) (st2 := []) (h2 := (sh_rep m15.T m15.I m15.J)) rfl rfl rfl ?_
      refine sh_w (i := (.iinc 6 1)) (len := 3) (pc2 := 73) (lv2 := [(6, .int (x6 + 1)), (5, .int r5), (7, .int r2), (0, .ref 45), (1, .int x1), (2, .int x2), (3, .int x3), (4, .int x4)]) (st2 := []) (h2 := (sh_rep m15.T m15.I m15.J)) rfl rfl rfl ?_
      refine sh_w (i := (.goto (-60))) (len := 3) (pc2 := 13) (lv2 := [(6, .int (x6 + 1)), (5, .int r5), (7, .int r2), (0, .ref 45), (1, .int x1), (2, .int x2), (3, .int x3), (4, .int x4)]) (st2 := []) (h2 := (sh_rep m15.T m15.I m15.J)) rfl rfl rfl ?_
      exact kk
    obtain rfl := Option.some.inj e
    exact sh_Lk_sub (sh_sub_c rfl (sh_sub_c rfl (sh_sub_c rfl (sh_sub_c rfl (sh_sub_c rfl (sh_sub_c rfl (sh_sub_c rfl (sh_sub_n)))))))) tg
  · refine sh_Lk_lift (T := m.T) (I := m.I) (J := m.J) (s := m.s) (pc2 := 78) (lv2 := [(0, .ref 45), (1, .int x1), (2, .int x2), (3, .int x3), (4, .int x4), (5, .int x5), (6, .int x6)]) (st2 := [.int x4]) (I2 := m.I) (J2 := m.J) (fun hT v kk => ?_) ?_
    · refine sh_jc (c := .ge) (off := (60)) (pc2 := 76) true rfl (sh_Bget c) rfl ?_
      refine sh_w (i := (.iload 4)) (len := 2) (pc2 := 78) (lv2 := [(0, .ref 45), (1, .int x1), (2, .int x2), (3, .int x3), (4, .int x4), (5, .int x5), (6, .int x6)]) (st2 := [.int x4]) (h2 := (sh_rep m.T m.I m.J)) rfl rfl rfl ?_
      exact kk
    obtain rfl := Option.some.inj e
    obtain ⟨rfl, rfl⟩ := tg
    exact sh_Lk_ret (i := .ireturn) rfl rfl rfl (Nat.le_of_ble_eq_true rfl) (Nat.le_of_ble_eq_true rfl)
theorem sl_166_13 {x1 : Int32} {x2 : Int32} {x3 : Int32} {x4 : Int32} {x5 : Int32} {x6 : Int32} {m m2 : sh_X} {o : Outcome} {z : (Int32 × sh_X)} (e : sf_166_13 x1 x2 x3 x4 x5 x6 m = some z) (tg : (sh_tI o m2) z) : sh_Lk 166 13 [(0, .ref 45), (1, .int x1), (2, .int x2), (3, .int x3), (4, .int x4), (5, .int x5), (6, .int x6)] [] m o m2 12 288 := by
  unfold sf_166_13 at e
  exact sh_while_lk (P := fun q => sh_Lk 166 13 [(0, .ref 45), (1, .int x1), (2, .int x2), (3, .int x3), (4, .int x4), (5, .int q.1), (6, .int q.2.1)] [] q.2.2 o m2 12 288) (Q := (sh_tI o m2)) (fun q z e tg => sl_166_13s (x1 := x1) (x2 := x2) (x3 := x3) (x4 := x4) (x5 := q.1) (x6 := q.2.1) (m := q.2.2) e tg) (s := (x5, x6, m)) e tg
theorem sl_166 {x1 : Int32} {x2 : Int32} {x3 : Int32} {m m2 : sh_X} {o : Outcome} {z : (Int32 × sh_X)} (e : sf_166 x1 x2 x3 m = some z) (tg : (sh_tI o m2) z) : sh_Lk 166 0 [(0, .ref 45), (1, .int x1), (2, .int x2), (3, .int x3)] [] m o m2 12 288 := by
  unfold sf_166 at e
  refine sh_Lk_lift (T := m.T) (I := m.I) (J := m.J) (s := m.s) (pc2 := 2) (lv2 := [(0, .ref 45), (1, .int x1), (2, .int x2), (3, .int x3)]) (st2 := [.int x2, .ref 45]) (I2 := m.I) (J2 := m.J) (fun hT v kk => ?_) ?_
  · refine sh_w (i := (.aload_n 0)) (len := 1) (pc2 := 1) (lv2 := [(0, .ref 45), (1, .int x1), (2, .int x2), (3, .int x3)]) (st2 := [.ref 45]) (h2 := (sh_rep m.T m.I m.J)) rfl rfl rfl ?_
    refine sh_w (i := (.iload_n 2)) (len := 1) (pc2 := 2) (lv2 := [(0, .ref 45), (1, .int x1), (2, .int x2), (3, .int x3)]) (st2 := [.int x2, .ref 45]) (h2 := (sh_rep m.T m.I m.J)) rfl rfl rfl ?_
    exact kk
  obtain ⟨r1, m11, e1, e⟩ := sh_bn_e e
  refine sh_Lk_cV (r := (some (.int r1))) (st2 := [.int r1]) (pc2 := 5) (k2 := 98) (a := 44) (as := [.ref 45, .int x2]) (rest := []) rfl rfl rfl (fun hT => (sh_s44 hT.st)) rfl rfl ⟨Nat.le_of_ble_eq_true rfl, Nat.le_of_ble_eq_true rfl⟩ (sl_98 e1 ⟨rfl, rfl⟩) rfl rfl (Nat.le_of_ble_eq_true rfl) (Nat.le_of_ble_eq_true rfl) ?_
  refine sh_Lk_lift (T := m11.T) (I := m11.I) (J := m11.J) (s := m11.s) (pc2 := 13) (lv2 := [(6, .int 0), (5, .int x3), (4, .int r1), (0, .ref 45), (1, .int x1), (2, .int x2), (3, .int x3)]) (st2 := []) (I2 := m11.I) (J2 := m11.J) (fun hT v kk => ?_) ?_
  · refine sh_w (i := (.istore 4)) (len := 2) (pc2 := 7) (lv2 := [(4, .int r1), (0, .ref 45), (1, .int x1), (2, .int x2), (3, .int x3)]) (st2 := []) (h2 := (sh_rep m11.T m11.I m11.J)) rfl rfl rfl ?_
    refine sh_w (i := (.iload_n 3)) (len := 1) (pc2 := 8) (lv2 := [(4, .int r1), (0, .ref 45), (1, .int x1), (2, .int x2), (3, .int x3)]) (st2 := [.int x3]) (h2 := (sh_rep m11.T m11.I m11.J)) rfl rfl rfl ?_
    refine sh_w (i := (.istore 5)) (len := 2) (pc2 := 10) (lv2 := [(5, .int x3), (4, .int r1), (0, .ref 45), (1, .int x1), (2, .int x2), (3, .int x3)]) (st2 := []) (h2 := (sh_rep m11.T m11.I m11.J)) rfl rfl rfl ?_
    refine sh_w (i := (.iconst 0)) (len := 1) (pc2 := 11) (lv2 := [(5, .int x3), (4, .int r1), (0, .ref 45), (1, .int x1), (2, .int x2), (3, .int x3)]) (st2 := [.int 0]) (h2 := (sh_rep m11.T m11.I m11.J)) rfl rfl rfl ?_
    refine sh_w (i := (.istore 6)) (len := 2) (pc2 := 13) (lv2 := [(6, .int 0), (5, .int x3), (4, .int r1), (0, .ref 45), (1, .int x1), (2, .int x2), (3, .int x3)]) (st2 := []) (h2 := (sh_rep m11.T m11.I m11.J)) rfl rfl rfl ?_
    exact kk
  exact sh_Lk_sub (sh_sub_c rfl (sh_sub_c rfl (sh_sub_c rfl (sh_sub_c rfl (sh_sub_c rfl (sh_sub_c rfl (sh_sub_c rfl (sh_sub_n)))))))) (sl_166_13 e tg)
theorem sl_167 {x1 : Int32} {x2 : Int32} {x3 : Int32} {m m2 : sh_X} {o : Outcome} {z : (Unit × sh_X)} (e : sf_167 x1 x2 x3 m = some z) (tg : (sh_tV o m2) z) : sh_Lk 167 0 [(0, .ref 42), (1, .int x1), (2, .int x2), (3, .int x3)] [] m o m2 11 266 := by
  unfold sf_167 at e
  refine sh_Lk_lift (T := m.T) (I := m.I) (J := m.J) (s := m.s) (pc2 := 5) (lv2 := [(0, .ref 42), (1, .int x1), (2, .int x2), (3, .int x3)]) (st2 := [.int x1, .ref 49]) (I2 := m.I) (J2 := m.J) (fun hT v kk => ?_) ?_
  · refine sh_w (i := (.aload_n 0)) (len := 1) (pc2 := 1) (lv2 := [(0, .ref 42), (1, .int x1), (2, .int x2), (3, .int x3)]) (st2 := [.ref 42]) (h2 := (sh_rep m.T m.I m.J)) rfl rfl rfl ?_
    refine sh_gR1 (len := 3) (x := .ref 49) (pc2 := 4) rfl rfl (sh_s41 hT.st) rfl rfl ?_
    refine sh_w (i := (.iload_n 1)) (len := 1) (pc2 := 5) (lv2 := [(0, .ref 42), (1, .int x1), (2, .int x2), (3, .int x3)]) (st2 := [.int x1, .ref 49]) (h2 := (sh_rep m.T m.I m.J)) rfl rfl rfl ?_
    exact kk
  obtain ⟨r1, m11, e1, e⟩ := sh_bn_e e
  refine sh_Lk_cV (r := none) (st2 := []) (pc2 := 8) (k2 := 118) (a := 48) (as := [.ref 49, .int x1]) (rest := []) rfl rfl rfl (fun hT => (sh_s48 hT.st)) rfl rfl ⟨Nat.le_of_ble_eq_true rfl, Nat.le_of_ble_eq_true rfl⟩ (sl_118 e1 ⟨rfl, rfl⟩) rfl rfl (Nat.le_of_ble_eq_true rfl) (Nat.le_of_ble_eq_true rfl) ?_
  refine sh_Lk_lift (T := m11.T) (I := m11.I) (J := m11.J) (s := m11.s) (pc2 := 14) (lv2 := [(0, .ref 42), (1, .int x1), (2, .int x2), (3, .int x3)]) (st2 := [.int x3, .int x2, .ref 49]) (I2 := m11.I) (J2 := m11.J) (fun hT v kk => ?_) ?_
  · refine sh_w (i := (.aload_n 0)) (len := 1) (pc2 := 9) (lv2 := [(0, .ref 42), (1, .int x1), (2, .int x2), (3, .int x3)]) (st2 := [.ref 42]) (h2 := (sh_rep m11.T m11.I m11.J)) rfl rfl rfl ?_
    refine sh_gR1 (len := 3) (x := .ref 49) (pc2 := 12) rfl rfl (sh_s41 hT.st) rfl rfl ?_
    refine sh_w (i := (.iload_n 2)) (len := 1) (pc2 := 13) (lv2 := [(0, .ref 42), (1, .int x1), (2, .int x2), (3, .int x3)]) (st2 := [.int x2, .ref 49]) (h2 := (sh_rep m11.T m11.I m11.J)) rfl rfl rfl ?_
    refine sh_w (i := (.iload_n 3)) (len := 1) (pc2 := 14) (lv2 := [(0, .ref 42), (1, .int x1), (2, .int x2), (3, .int x3)]) (st2 := [.int x3, .int x2, .ref 49]) (h2 := (sh_rep m11.T m11.I m11.J)) rfl rfl rfl ?_
    exact kk
  obtain ⟨r2, m12, e2, e⟩ := sh_bn_e e
  refine sh_Lk_cV (r := none) (st2 := []) (pc2 := 17) (k2 := 163) (a := 48) (as := [.ref 49, .int x2, .int x3]) (rest := []) rfl rfl rfl (fun hT => (sh_s48 hT.st)) rfl rfl ⟨Nat.le_of_ble_eq_true rfl, Nat.le_of_ble_eq_true rfl⟩ (sl_163 e2 ⟨rfl, rfl⟩) rfl rfl (Nat.le_of_ble_eq_true rfl) (Nat.le_of_ble_eq_true rfl) ?_
  obtain rfl := Option.some.inj e
  obtain ⟨rfl, rfl⟩ := tg
  exact sh_Lk_ret (i := .return_) rfl rfl rfl (Nat.le_of_ble_eq_true rfl) (Nat.le_of_ble_eq_true rfl)
theorem sl_165_69 {x1 : Int32} {x2 : Int32} {x3 : Int32} {m m2 : sh_X} {o : Outcome} {z : (Option Unit × sh_X)} (e : sf_165_69 x1 x2 x3 m = some z) (tg : (sh_tVt o m2) z) : sh_Lk 165 69 [(0, .ref 42), (1, .int x1), (2, .int x2), (3, .int x3)] [] m o m2 13 315 := by
  unfold sf_165_69 at e
  refine sh_Lk_lift (T := m.T) (I := m.I) (J := m.J) (s := m.s) (pc2 := 71) (lv2 := [(0, .ref 42), (1, .int x1), (2, .int x2), (3, .int x3)]) (st2 := [.int x3, .ref 42]) (I2 := m.I) (J2 := m.J) (fun hT v kk => ?_) ?_
  · refine sh_w (i := (.aload_n 0)) (len := 1) (pc2 := 70) (lv2 := [(0, .ref 42), (1, .int x1), (2, .int x2), (3, .int x3)]) (st2 := [.ref 42]) (h2 := (sh_rep m.T m.I m.J)) rfl rfl rfl ?_
    refine sh_w (i := (.iload_n 3)) (len := 1) (pc2 := 71) (lv2 := [(0, .ref 42), (1, .int x1), (2, .int x2), (3, .int x3)]) (st2 := [.int x3, .ref 42]) (h2 := (sh_rep m.T m.I m.J)) rfl rfl rfl ?_
    exact kk
  refine sh_Lk_cS (r := (some (.int (sf_94 x3)))) (st2 := [.int (sf_94 x3), .ref 42]) (pc2 := 74) (k2 := 94) (as := [.int x3]) (rest := [.ref 42]) rfl rfl (by decide) (Nat.le_of_ble_eq_true rfl) rfl rfl ⟨Nat.le_of_ble_eq_true rfl, Nat.le_of_ble_eq_true rfl⟩ (sl_94 (m := m) rfl ⟨rfl, rfl⟩) rfl rfl (Nat.le_of_ble_eq_true rfl) (Nat.le_of_ble_eq_true rfl) ?_
  refine sh_Lk_lift (T := m.T) (I := m.I) (J := m.J) (s := m.s) (pc2 := 75) (lv2 := [(0, .ref 42), (1, .int x1), (2, .int x2), (3, .int x3)]) (st2 := [.int x1, .int (sf_94 x3), .ref 42]) (I2 := m.I) (J2 := m.J) (fun hT v kk => ?_) ?_
  · refine sh_w (i := (.iload_n 1)) (len := 1) (pc2 := 75) (lv2 := [(0, .ref 42), (1, .int x1), (2, .int x2), (3, .int x3)]) (st2 := [.int x1, .int (sf_94 x3), .ref 42]) (h2 := (sh_rep m.T m.I m.J)) rfl rfl rfl ?_
    exact kk
  rcases sh_bt_e e with ⟨m12, e2, rfl⟩ | ⟨r2, m12, e2, e⟩
  · obtain ⟨rfl, rfl⟩ := tg
    exact sh_Lk_tV (k2 := 90) (a := 41) (as := [.ref 42, .int (sf_94 x3), .int x1]) (rest := []) rfl rfl rfl (fun hT => (sh_s41 hT.st)) rfl rfl ⟨Nat.le_of_ble_eq_true rfl, Nat.le_of_ble_eq_true rfl⟩ (sl_90 e2 ⟨rfl, rfl⟩) rfl (Nat.le_of_ble_eq_true rfl) (Nat.le_of_ble_eq_true rfl) (Nat.le_of_ble_eq_true rfl) (Nat.le_of_ble_eq_true rfl) rfl
  refine sh_Lk_cV (r := none) (st2 := []) (pc2 := 78) (k2 := 90) (a := 41) (as := [.ref 42, .int (sf_94 x3), .int x1]) (rest := []) rfl rfl rfl (fun hT => (sh_s41 hT.st)) rfl rfl ⟨Nat.le_of_ble_eq_true rfl, Nat.le_of_ble_eq_true rfl⟩ (sl_90 e2 ⟨rfl, rfl⟩) rfl rfl (Nat.le_of_ble_eq_true rfl) (Nat.le_of_ble_eq_true rfl) ?_
  refine sh_Lk_lift (T := m12.T) (I := m12.I) (J := m12.J) (s := m12.s) (pc2 := 90) (lv2 := [(0, .ref 42), (1, .int x1), (2, .int x2), (3, .int x3)]) (st2 := [.int x2, .ref 49, .ref 45, .int x3, .int 1, .ref 42]) (I2 := m12.I) (J2 := m12.J) (fun hT v kk => ?_) ?_
  · refine sh_w (i := (.aload_n 0)) (len := 1) (pc2 := 79) (lv2 := [(0, .ref 42), (1, .int x1), (2, .int x2), (3, .int x3)]) (st2 := [.ref 42]) (h2 := (sh_rep m12.T m12.I m12.J)) rfl rfl rfl ?_
    refine sh_w (i := (.iconst 1)) (len := 1) (pc2 := 80) (lv2 := [(0, .ref 42), (1, .int x1), (2, .int x2), (3, .int x3)]) (st2 := [.int 1, .ref 42]) (h2 := (sh_rep m12.T m12.I m12.J)) rfl rfl rfl ?_
    refine sh_w (i := (.iload_n 3)) (len := 1) (pc2 := 81) (lv2 := [(0, .ref 42), (1, .int x1), (2, .int x2), (3, .int x3)]) (st2 := [.int x3, .int 1, .ref 42]) (h2 := (sh_rep m12.T m12.I m12.J)) rfl rfl rfl ?_
    refine sh_w (i := (.aload_n 0)) (len := 1) (pc2 := 82) (lv2 := [(0, .ref 42), (1, .int x1), (2, .int x2), (3, .int x3)]) (st2 := [.ref 42, .int x3, .int 1, .ref 42]) (h2 := (sh_rep m12.T m12.I m12.J)) rfl rfl rfl ?_
    refine sh_gR1 (len := 3) (x := .ref 45) (pc2 := 85) rfl rfl (sh_s41 hT.st) rfl rfl ?_
    refine sh_w (i := (.aload_n 0)) (len := 1) (pc2 := 86) (lv2 := [(0, .ref 42), (1, .int x1), (2, .int x2), (3, .int x3)]) (st2 := [.ref 42, .ref 45, .int x3, .int 1, .ref 42]) (h2 := (sh_rep m12.T m12.I m12.J)) rfl rfl rfl ?_
    refine sh_gR1 (len := 3) (x := .ref 49) (pc2 := 89) rfl rfl (sh_s41 hT.st) rfl rfl ?_
    refine sh_w (i := (.iload_n 2)) (len := 1) (pc2 := 90) (lv2 := [(0, .ref 42), (1, .int x1), (2, .int x2), (3, .int x3)]) (st2 := [.int x2, .ref 49, .ref 45, .int x3, .int 1, .ref 42]) (h2 := (sh_rep m12.T m12.I m12.J)) rfl rfl rfl ?_
    exact kk
  obtain ⟨r3, e3, e⟩ := sh_bc_e e
  refine sh_Lk_cV (r := (some (.int r3))) (st2 := [.int r3, .ref 45, .int x3, .int 1, .ref 42]) (pc2 := 93) (k2 := 117) (a := 48) (as := [.ref 49, .int x2]) (rest := [.ref 45, .int x3, .int 1, .ref 42]) rfl rfl rfl (fun hT => (sh_s48 hT.st)) rfl rfl ⟨Nat.le_of_ble_eq_true rfl, Nat.le_of_ble_eq_true rfl⟩ (sl_117 e3 ⟨rfl, rfl⟩) rfl rfl (Nat.le_of_ble_eq_true rfl) (Nat.le_of_ble_eq_true rfl) ?_
  refine sh_Lk_lift (T := m12.T) (I := m12.I) (J := m12.J) (s := m12.s) (pc2 := 94) (lv2 := [(0, .ref 42), (1, .int x1), (2, .int x2), (3, .int x3)]) (st2 := [.int x3, .int r3, .ref 45, .int x3, .int 1, .ref 42]) (I2 := m12.I) (J2 := m12.J) (fun hT v kk => ?_) ?_
  · refine sh_w (i := (.iload_n 3)) (len := 1) (pc2 := 94) (lv2 := [(0, .ref 42), (1, .int x1), (2, .int x2), (3, .int x3)]) (st2 := [.int x3, .int r3, .ref 45, .int x3, .int 1, .ref 42]) (h2 := (sh_rep m12.T m12.I m12.J)) rfl rfl rfl ?_
    exact kk
  refine sh_Lk_cS (r := (some (.int (sf_94 x3)))) (st2 := [.int (sf_94 x3), .int r3, .ref 45, .int x3, .int 1, .ref 42]) (pc2 := 97) (k2 := 94) (as := [.int x3]) (rest := [.int r3, .ref 45, .int x3, .int 1, .ref 42]) rfl rfl (by decide) (Nat.le_of_ble_eq_true rfl) rfl rfl ⟨Nat.le_of_ble_eq_true rfl, Nat.le_of_ble_eq_true rfl⟩ (sl_94 (m := m12) rfl ⟨rfl, rfl⟩) rfl rfl (Nat.le_of_ble_eq_true rfl) (Nat.le_of_ble_eq_true rfl) ?_
  refine sh_Lk_lift (T := m12.T) (I := m12.I) (J := m12.J) (s := m12.s) (pc2 := 98) (lv2 := [(0, .ref 42), (1, .int x1), (2, .int x2), (3, .int x3)]) (st2 := [.int 1, .int (sf_94 x3), .int r3, .ref 45, .int x3, .int 1, .ref 42]) (I2 := m12.I) (J2 := m12.J) (fun hT v kk => ?_) ?_
  · refine sh_w (i := (.iconst 1)) (len := 1) (pc2 := 98) (lv2 := [(0, .ref 42), (1, .int x1), (2, .int x2), (3, .int x3)]) (st2 := [.int 1, .int (sf_94 x3), .int r3, .ref 45, .int x3, .int 1, .ref 42]) (h2 := (sh_rep m12.T m12.I m12.J)) rfl rfl rfl ?_
    exact kk
  obtain ⟨r5, m15, e5, e⟩ := sh_bn_e e
  refine sh_Lk_cV (r := (some (.int r5))) (st2 := [.int r5, .int x3, .int 1, .ref 42]) (pc2 := 101) (k2 := 166) (a := 44) (as := [.ref 45, .int r3, .int (sf_94 x3), .int 1]) (rest := [.int x3, .int 1, .ref 42]) rfl rfl rfl (fun hT => (sh_s44 hT.st)) rfl rfl ⟨Nat.le_of_ble_eq_true rfl, Nat.le_of_ble_eq_true rfl⟩ (sl_166 e5 ⟨rfl, rfl⟩) rfl rfl (Nat.le_of_ble_eq_true rfl) (Nat.le_of_ble_eq_true rfl) ?_
  obtain ⟨r6, m16, e6, e⟩ := sh_bn_e e
  refine sh_Lk_cV (r := none) (st2 := []) (pc2 := 104) (k2 := 167) (a := 41) (as := [.ref 42, .int 1, .int x3, .int r5]) (rest := []) rfl rfl rfl (fun hT => (sh_s41 hT.st)) rfl rfl ⟨Nat.le_of_ble_eq_true rfl, Nat.le_of_ble_eq_true rfl⟩ (sl_167 e6 ⟨rfl, rfl⟩) rfl rfl (Nat.le_of_ble_eq_true rfl) (Nat.le_of_ble_eq_true rfl) ?_
  obtain rfl := Option.some.inj e
  obtain ⟨rfl, rfl⟩ := tg
  exact sh_Lk_ret (i := .return_) rfl rfl rfl (Nat.le_of_ble_eq_true rfl) (Nat.le_of_ble_eq_true rfl)
theorem sl_165 {x1 : Int32} {m m2 : sh_X} {o : Outcome} {z : (Option Unit × sh_X)} (e : sf_165 x1 m = some z) (tg : (sh_tVt o m2) z) : sh_Lk 165 0 [(0, .ref 42), (1, .int x1)] [] m o m2 13 315 := by
  unfold sf_165 at e
  refine sh_Lk_lift (T := m.T) (I := m.I) (J := m.J) (s := m.s) (pc2 := 15) (lv2 := [(2, .int ((m.I 48 4) - 1)), (0, .ref 42), (1, .int x1)]) (st2 := [.int ((m.I 48 4) - 1), .ref 49]) (I2 := m.I) (J2 := m.J) (fun hT v kk => ?_) ?_
  · refine sh_w (i := (.aload_n 0)) (len := 1) (pc2 := 1) (lv2 := [(0, .ref 42), (1, .int x1)]) (st2 := [.ref 42]) (h2 := (sh_rep m.T m.I m.J)) rfl rfl rfl ?_
    refine sh_gR1 (len := 3) (x := .ref 49) (pc2 := 4) rfl rfl (sh_s41 hT.st) rfl rfl ?_
    refine sh_gI1 (len := 3) (x := m.I 48 4) (pc2 := 7) rfl rfl (sh_s48 hT.st) rfl rfl rfl ?_
    refine sh_w (i := (.iconst 1)) (len := 1) (pc2 := 8) (lv2 := [(0, .ref 42), (1, .int x1)]) (st2 := [.int 1, .int (m.I 48 4)]) (h2 := (sh_rep m.T m.I m.J)) rfl rfl rfl ?_
    refine sh_w (i := .isub) (len := 1) (pc2 := 9) (lv2 := [(0, .ref 42), (1, .int x1)]) (st2 := [.int ((m.I 48 4) - 1)]) (h2 := (sh_rep m.T m.I m.J)) rfl rfl rfl ?_
    refine sh_w (i := (.istore_n 2)) (len := 1) (pc2 := 10) (lv2 := [(2, .int ((m.I 48 4) - 1)), (0, .ref 42), (1, .int x1)]) (st2 := []) (h2 := (sh_rep m.T m.I m.J)) rfl rfl rfl ?_
    refine sh_w (i := (.aload_n 0)) (len := 1) (pc2 := 11) (lv2 := [(2, .int ((m.I 48 4) - 1)), (0, .ref 42), (1, .int x1)]) (st2 := [.ref 42]) (h2 := (sh_rep m.T m.I m.J)) rfl rfl rfl ?_
    refine sh_gR1 (len := 3) (x := .ref 49) (pc2 := 14) rfl rfl (sh_s41 hT.st) rfl rfl ?_
    refine sh_w (i := (.iload_n 2)) (len := 1) (pc2 := 15) (lv2 := [(2, .int ((m.I 48 4) - 1)), (0, .ref 42), (1, .int x1)]) (st2 := [.int ((m.I 48 4) - 1), .ref 49]) (h2 := (sh_rep m.T m.I m.J)) rfl rfl rfl ?_
    exact kk
  obtain ⟨r1, e1, e⟩ := sh_bc_e e
  refine sh_Lk_cV (r := (some (.int r1))) (st2 := [.int r1]) (pc2 := 18) (k2 := 108) (a := 48) (as := [.ref 49, .int ((m.I 48 4) - 1)]) (rest := []) rfl rfl rfl (fun hT => (sh_s48 hT.st)) rfl rfl ⟨Nat.le_of_ble_eq_true rfl, Nat.le_of_ble_eq_true rfl⟩ (sl_108 e1 ⟨rfl, rfl⟩) rfl rfl (Nat.le_of_ble_eq_true rfl) (Nat.le_of_ble_eq_true rfl) ?_
  refine sh_Lk_lift (T := m.T) (I := m.I) (J := m.J) (s := m.s) (pc2 := 20) (lv2 := [(3, .int r1), (2, .int ((m.I 48 4) - 1)), (0, .ref 42), (1, .int x1)]) (st2 := [.int r1]) (I2 := m.I) (J2 := m.J) (fun hT v kk => ?_) ?_
  · refine sh_w (i := (.istore_n 3)) (len := 1) (pc2 := 19) (lv2 := [(3, .int r1), (2, .int ((m.I 48 4) - 1)), (0, .ref 42), (1, .int x1)]) (st2 := []) (h2 := (sh_rep m.T m.I m.J)) rfl rfl rfl ?_
    refine sh_w (i := (.iload_n 3)) (len := 1) (pc2 := 20) (lv2 := [(3, .int r1), (2, .int ((m.I 48 4) - 1)), (0, .ref 42), (1, .int x1)]) (st2 := [.int r1]) (h2 := (sh_rep m.T m.I m.J)) rfl rfl rfl ?_
    exact kk
  rcases sh_ite e with ⟨c, e⟩ | ⟨c, e⟩
  · refine sh_Lk_lift (T := m.T) (I := m.I) (J := m.J) (s := m.s) (pc2 := 28) (lv2 := [(3, .int r1), (2, .int ((m.I 48 4) - 1)), (0, .ref 42), (1, .int x1)]) (st2 := [.int ((m.I 48 4) - 1), .ref 49]) (I2 := m.I) (J2 := m.J) (fun hT v kk => ?_) ?_
    · refine sh_j0 (c := .ne) (off := (33)) (pc2 := 23) false rfl (sh_Bnef c) rfl ?_
      refine sh_w (i := (.aload_n 0)) (len := 1) (pc2 := 24) (lv2 := [(3, .int r1), (2, .int ((m.I 48 4) - 1)), (0, .ref 42), (1, .int x1)]) (st2 := [.ref 42]) (h2 := (sh_rep m.T m.I m.J)) rfl rfl rfl ?_
      refine sh_gR1 (len := 3) (x := .ref 49) (pc2 := 27) rfl rfl (sh_s41 hT.st) rfl rfl ?_
      refine sh_w (i := (.iload_n 2)) (len := 1) (pc2 := 28) (lv2 := [(3, .int r1), (2, .int ((m.I 48 4) - 1)), (0, .ref 42), (1, .int x1)]) (st2 := [.int ((m.I 48 4) - 1), .ref 49]) (h2 := (sh_rep m.T m.I m.J)) rfl rfl rfl ?_
      exact kk
    obtain ⟨r2, e2, e⟩ := sh_bc_e e
    refine sh_Lk_cV (r := (some (.long r2))) (st2 := [.long r2]) (pc2 := 31) (k2 := 111) (a := 48) (as := [.ref 49, .int ((m.I 48 4) - 1)]) (rest := []) rfl rfl rfl (fun hT => (sh_s48 hT.st)) rfl rfl ⟨Nat.le_of_ble_eq_true rfl, Nat.le_of_ble_eq_true rfl⟩ (sl_111 e2 ⟨rfl, rfl⟩) rfl rfl (Nat.le_of_ble_eq_true rfl) (Nat.le_of_ble_eq_true rfl) ?_
    refine sh_Lk_lift (T := m.T) (I := m.I) (J := m.J) (s := m.s) (pc2 := 39) (lv2 := [(4, .long (-r2)), (3, .int r1), (2, .int ((m.I 48 4) - 1)), (0, .ref 42), (1, .int x1)]) (st2 := [.int 1, .ref 49]) (I2 := m.I) (J2 := m.J) (fun hT v kk => ?_) ?_
    · refine sh_w (i := .lneg) (len := 1) (pc2 := 32) (lv2 := [(3, .int r1), (2, .int ((m.I 48 4) - 1)), (0, .ref 42), (1, .int x1)]) (st2 := [.long (-r2)]) (h2 := (sh_rep m.T m.I m.J)) rfl rfl rfl ?_
      refine sh_w (i := (.lstore 4)) (len := 2) (pc2 := 34) (lv2 := [(4, .long (-r2)), (3, .int r1), (2, .int ((m.I 48 4) - 1)), (0, .ref 42), (1, .int x1)]) (st2 := []) (h2 := (sh_rep m.T m.I m.J)) rfl rfl rfl ?_
      refine sh_w (i := (.aload_n 0)) (len := 1) (pc2 := 35) (lv2 := [(4, .long (-r2)), (3, .int r1), (2, .int ((m.I 48 4) - 1)), (0, .ref 42), (1, .int x1)]) (st2 := [.ref 42]) (h2 := (sh_rep m.T m.I m.J)) rfl rfl rfl ?_
      refine sh_gR1 (len := 3) (x := .ref 49) (pc2 := 38) rfl rfl (sh_s41 hT.st) rfl rfl ?_
      refine sh_w (i := (.iconst 1)) (len := 1) (pc2 := 39) (lv2 := [(4, .long (-r2)), (3, .int r1), (2, .int ((m.I 48 4) - 1)), (0, .ref 42), (1, .int x1)]) (st2 := [.int 1, .ref 49]) (h2 := (sh_rep m.T m.I m.J)) rfl rfl rfl ?_
      exact kk
    obtain ⟨r3, m13, e3, e⟩ := sh_bn_e e
    refine sh_Lk_cV (r := none) (st2 := []) (pc2 := 42) (k2 := 118) (a := 48) (as := [.ref 49, .int 1]) (rest := []) rfl rfl rfl (fun hT => (sh_s48 hT.st)) rfl rfl ⟨Nat.le_of_ble_eq_true rfl, Nat.le_of_ble_eq_true rfl⟩ (sl_118 e3 ⟨rfl, rfl⟩) rfl rfl (Nat.le_of_ble_eq_true rfl) (Nat.le_of_ble_eq_true rfl) ?_
    refine sh_Lk_lift (T := m13.T) (I := m13.I) (J := m13.J) (s := m13.s) (pc2 := 49) (lv2 := [(4, .long (-r2)), (3, .int r1), (2, .int ((m.I 48 4) - 1)), (0, .ref 42), (1, .int x1)]) (st2 := [.int x1, .long (-r2), .ref 49]) (I2 := m13.I) (J2 := m13.J) (fun hT v kk => ?_) ?_
    · refine sh_w (i := (.aload_n 0)) (len := 1) (pc2 := 43) (lv2 := [(4, .long (-r2)), (3, .int r1), (2, .int ((m.I 48 4) - 1)), (0, .ref 42), (1, .int x1)]) (st2 := [.ref 42]) (h2 := (sh_rep m13.T m13.I m13.J)) rfl rfl rfl ?_
      refine sh_gR1 (len := 3) (x := .ref 49) (pc2 := 46) rfl rfl (sh_s41 hT.st) rfl rfl ?_
      refine sh_w (i := (.lload 4)) (len := 2) (pc2 := 48) (lv2 := [(4, .long (-r2)), (3, .int r1), (2, .int ((m.I 48 4) - 1)), (0, .ref 42), (1, .int x1)]) (st2 := [.long (-r2), .ref 49]) (h2 := (sh_rep m13.T m13.I m13.J)) rfl rfl rfl ?_
      refine sh_w (i := (.iload_n 1)) (len := 1) (pc2 := 49) (lv2 := [(4, .long (-r2)), (3, .int r1), (2, .int ((m.I 48 4) - 1)), (0, .ref 42), (1, .int x1)]) (st2 := [.int x1, .long (-r2), .ref 49]) (h2 := (sh_rep m13.T m13.I m13.J)) rfl rfl rfl ?_
      exact kk
    obtain ⟨r4, m14, e4, e⟩ := sh_bn_e e
    refine sh_Lk_cV (r := none) (st2 := []) (pc2 := 52) (k2 := 162) (a := 48) (as := [.ref 49, .long (-r2), .int x1]) (rest := []) rfl rfl rfl (fun hT => (sh_s48 hT.st)) rfl rfl ⟨Nat.le_of_ble_eq_true rfl, Nat.le_of_ble_eq_true rfl⟩ (sl_162 e4 ⟨rfl, rfl⟩) rfl rfl (Nat.le_of_ble_eq_true rfl) (Nat.le_of_ble_eq_true rfl) ?_
    obtain rfl := Option.some.inj e
    obtain ⟨rfl, rfl⟩ := tg
    exact sh_Lk_ret (i := .return_) rfl rfl rfl (Nat.le_of_ble_eq_true rfl) (Nat.le_of_ble_eq_true rfl)
  · refine sh_Lk_lift (T := m.T) (I := m.I) (J := m.J) (s := m.s) (pc2 := 54) (lv2 := [(3, .int r1), (2, .int ((m.I 48 4) - 1)), (0, .ref 42), (1, .int x1)]) (st2 := [.int r1]) (I2 := m.I) (J2 := m.J) (fun hT v kk => ?_) ?_
    · refine sh_j0 (c := .ne) (off := (33)) (pc2 := 53) true rfl (sh_Bnet c) rfl ?_
      refine sh_w (i := (.iload_n 3)) (len := 1) (pc2 := 54) (lv2 := [(3, .int r1), (2, .int ((m.I 48 4) - 1)), (0, .ref 42), (1, .int x1)]) (st2 := [.int r1]) (h2 := (sh_rep m.T m.I m.J)) rfl rfl rfl ?_
      exact kk
    refine sh_Lk_cS (r := (some (.int (sh_b2 (sf_113 r1))))) (st2 := [.int (sh_b2 (sf_113 r1))]) (pc2 := 57) (k2 := 113) (as := [.int r1]) (rest := []) rfl rfl (by decide) (Nat.le_of_ble_eq_true rfl) rfl rfl ⟨Nat.le_of_ble_eq_true rfl, Nat.le_of_ble_eq_true rfl⟩ (sl_113 (m := m) rfl ⟨rfl, rfl⟩) rfl rfl (Nat.le_of_ble_eq_true rfl) (Nat.le_of_ble_eq_true rfl) ?_
    rcases sh_ite e with ⟨c, e⟩ | ⟨c, e⟩
    · refine sh_Lk_lift (T := m.T) (I := m.I) (J := m.J) (s := m.s) (pc2 := 69) (lv2 := [(3, .int r1), (2, .int ((m.I 48 4) - 1)), (0, .ref 42), (1, .int x1)]) (st2 := []) (I2 := m.I) (J2 := m.J) (fun hT v kk => ?_) ?_
      · refine sh_j0 (c := .ne) (off := (12)) (pc2 := 69) true rfl (sh_Znet c) rfl ?_
        exact kk
      exact sh_Lk_sub (sh_sub_c rfl (sh_sub_c rfl (sh_sub_c rfl (sh_sub_c rfl (sh_sub_n))))) (sl_165_69 e tg)
    · refine sh_Lk_lift (T := m.T) (I := m.I) (J := m.J) (s := m.s) (pc2 := 66) (lv2 := [(3, .int r1), (2, .int ((m.I 48 4) - 1)), (0, .ref 42), (1, .int x1)]) (st2 := [.int x1, .int 4, .ref 3]) (I2 := m.I) (J2 := m.J) (fun hT v kk => ?_) ?_
      · refine sh_j0 (c := .ne) (off := (12)) (pc2 := 60) false rfl (sh_Znef c) rfl ?_
        refine sh_w (i := (.aload_n 0)) (len := 1) (pc2 := 61) (lv2 := [(3, .int r1), (2, .int ((m.I 48 4) - 1)), (0, .ref 42), (1, .int x1)]) (st2 := [.ref 42]) (h2 := (sh_rep m.T m.I m.J)) rfl rfl rfl ?_
        refine sh_gR1 (len := 3) (x := .ref 3) (pc2 := 64) rfl rfl (sh_s41 hT.st) rfl rfl ?_
        refine sh_w (i := (.iconst 4)) (len := 1) (pc2 := 65) (lv2 := [(3, .int r1), (2, .int ((m.I 48 4) - 1)), (0, .ref 42), (1, .int x1)]) (st2 := [.int 4, .ref 3]) (h2 := (sh_rep m.T m.I m.J)) rfl rfl rfl ?_
        refine sh_w (i := (.iload_n 1)) (len := 1) (pc2 := 66) (lv2 := [(3, .int r1), (2, .int ((m.I 48 4) - 1)), (0, .ref 42), (1, .int x1)]) (st2 := [.int x1, .int 4, .ref 3]) (h2 := (sh_rep m.T m.I m.J)) rfl rfl rfl ?_
        exact kk
      rcases sh_bt_e e with ⟨m16, e6, rfl⟩ | ⟨r6, m16, e6, e⟩
      · obtain ⟨rfl, rfl⟩ := tg
        exact sh_Lk_tV (k2 := 50) (a := 2) (as := [.ref 3, .int 4, .int x1]) (rest := []) rfl rfl rfl (fun hT => hT.t2) rfl rfl ⟨Nat.le_of_ble_eq_true rfl, Nat.le_of_ble_eq_true rfl⟩ (sl_50 e6 ⟨rfl, rfl⟩) rfl (Nat.le_of_ble_eq_true rfl) (Nat.le_of_ble_eq_true rfl) (Nat.le_of_ble_eq_true rfl) (Nat.le_of_ble_eq_true rfl) rfl
      refine sh_Lk_cV (r := none) (st2 := []) (pc2 := 69) (k2 := 50) (a := 2) (as := [.ref 3, .int 4, .int x1]) (rest := []) rfl rfl rfl (fun hT => hT.t2) rfl rfl ⟨Nat.le_of_ble_eq_true rfl, Nat.le_of_ble_eq_true rfl⟩ (sl_50 e6 ⟨rfl, rfl⟩) rfl rfl (Nat.le_of_ble_eq_true rfl) (Nat.le_of_ble_eq_true rfl) ?_
      exact sh_Lk_sub (sh_sub_c rfl (sh_sub_c rfl (sh_sub_c rfl (sh_sub_c rfl (sh_sub_n))))) (sl_165_69 e tg)
theorem sl_169_9s {x1 : Int32} {x2 : Int32} {x3 : Int32} {x4 : Int32} {m m2 : sh_X} {o : Outcome} {z : ((Int32 × sh_X) ⊕ (Int32 × sh_X))} (e : sf_169_9s x1 x2 x3 x4 m = some z) (tg : (sh_el (fun q => sh_Lk 169 9 [(0, .ref 45), (1, .int x1), (2, .int x2), (3, .int x3), (4, .int q.1)] [] q.2 o m2 13 309) (sh_tI o m2)) z) : sh_Lk 169 9 [(0, .ref 45), (1, .int x1), (2, .int x2), (3, .int x3), (4, .int x4)] [] m o m2 13 309 := by
  unfold sf_169_9s at e
  refine sh_Lk_lift (T := m.T) (I := m.I) (J := m.J) (s := m.s) (pc2 := 12) (lv2 := [(0, .ref 45), (1, .int x1), (2, .int x2), (3, .int x3), (4, .int x4)]) (st2 := [.int x2, .int x4]) (I2 := m.I) (J2 := m.J) (fun hT v kk => ?_) ?_
  · refine sh_w (i := (.iload 4)) (len := 2) (pc2 := 11) (lv2 := [(0, .ref 45), (1, .int x1), (2, .int x2), (3, .int x3), (4, .int x4)]) (st2 := [.int x4]) (h2 := (sh_rep m.T m.I m.J)) rfl rfl rfl ?_
    refine sh_w (i := (.iload_n 2)) (len := 1) (pc2 := 12) (lv2 := [(0, .ref 45), (1, .int x1), (2, .int x2), (3, .int x3), (4, .int x4)]) (st2 := [.int x2, .int x4]) (h2 := (sh_rep m.T m.I m.J)) rfl rfl rfl ?_
    exact kk
  rcases sh_ite e with ⟨c, e⟩ | ⟨c, e⟩
  · refine sh_Lk_lift (T := m.T) (I := m.I) (J := m.J) (s := m.s) (pc2 := 29) (lv2 := [(0, .ref 45), (1, .int x1), (2, .int x2), (3, .int x3), (4, .int x4)]) (st2 := [.int (x1 + x4), .ref 45, .ref 10, .int (x3 + x4), .ref 45]) (I2 := m.I) (J2 := m.J) (fun hT v kk => ?_) ?_
    · refine sh_jc (c := .ge) (off := (32)) (pc2 := 15) false rfl (sh_Bgef c) rfl ?_
      refine sh_w (i := (.aload_n 0)) (len := 1) (pc2 := 16) (lv2 := [(0, .ref 45), (1, .int x1), (2, .int x2), (3, .int x3), (4, .int x4)]) (st2 := [.ref 45]) (h2 := (sh_rep m.T m.I m.J)) rfl rfl rfl ?_
      refine sh_w (i := (.iload_n 3)) (len := 1) (pc2 := 17) (lv2 := [(0, .ref 45), (1, .int x1), (2, .int x2), (3, .int x3), (4, .int x4)]) (st2 := [.int x3, .ref 45]) (h2 := (sh_rep m.T m.I m.J)) rfl rfl rfl ?_
      refine sh_w (i := (.iload 4)) (len := 2) (pc2 := 19) (lv2 := [(0, .ref 45), (1, .int x1), (2, .int x2), (3, .int x3), (4, .int x4)]) (st2 := [.int x4, .int x3, .ref 45]) (h2 := (sh_rep m.T m.I m.J)) rfl rfl rfl ?_
      refine sh_w (i := .iadd) (len := 1) (pc2 := 20) (lv2 := [(0, .ref 45), (1, .int x1), (2, .int x2), (3, .int x3), (4, .int x4)]) (st2 := [.int (x3 + x4), .ref 45]) (h2 := (sh_rep m.T m.I m.J)) rfl rfl rfl ?_
      refine sh_w (i := (.aload_n 0)) (len := 1) (pc2 := 21) (lv2 := [(0, .ref 45), (1, .int x1), (2, .int x2), (3, .int x3), (4, .int x4)]) (st2 := [.ref 45, .int (x3 + x4), .ref 45]) (h2 := (sh_rep m.T m.I m.J)) rfl rfl rfl ?_
      refine sh_gR1 (len := 3) (x := .ref 10) (pc2 := 24) rfl rfl (sh_s44 hT.st) rfl rfl ?_
      refine sh_w (i := (.aload_n 0)) (len := 1) (pc2 := 25) (lv2 := [(0, .ref 45), (1, .int x1), (2, .int x2), (3, .int x3), (4, .int x4)]) (st2 := [.ref 45, .ref 10, .int (x3 + x4), .ref 45]) (h2 := (sh_rep m.T m.I m.J)) rfl rfl rfl ?_
      refine sh_w (i := (.iload_n 1)) (len := 1) (pc2 := 26) (lv2 := [(0, .ref 45), (1, .int x1), (2, .int x2), (3, .int x3), (4, .int x4)]) (st2 := [.int x1, .ref 45, .ref 10, .int (x3 + x4), .ref 45]) (h2 := (sh_rep m.T m.I m.J)) rfl rfl rfl ?_
      refine sh_w (i := (.iload 4)) (len := 2) (pc2 := 28) (lv2 := [(0, .ref 45), (1, .int x1), (2, .int x2), (3, .int x3), (4, .int x4)]) (st2 := [.int x4, .int x1, .ref 45, .ref 10, .int (x3 + x4), .ref 45]) (h2 := (sh_rep m.T m.I m.J)) rfl rfl rfl ?_
      refine sh_w (i := .iadd) (len := 1) (pc2 := 29) (lv2 := [(0, .ref 45), (1, .int x1), (2, .int x2), (3, .int x3), (4, .int x4)]) (st2 := [.int (x1 + x4), .ref 45, .ref 10, .int (x3 + x4), .ref 45]) (h2 := (sh_rep m.T m.I m.J)) rfl rfl rfl ?_
      exact kk
    obtain ⟨r1, e1, e⟩ := sh_bc_e e
    refine sh_Lk_cV (r := (some (.int r1))) (st2 := [.int r1, .ref 10, .int (x3 + x4), .ref 45]) (pc2 := 32) (k2 := 103) (a := 44) (as := [.ref 45, .int (x1 + x4)]) (rest := [.ref 10, .int (x3 + x4), .ref 45]) rfl rfl rfl (fun hT => (sh_s44 hT.st)) rfl rfl ⟨Nat.le_of_ble_eq_true rfl, Nat.le_of_ble_eq_true rfl⟩ (sl_103 e1 ⟨rfl, rfl⟩) rfl rfl (Nat.le_of_ble_eq_true rfl) (Nat.le_of_ble_eq_true rfl) ?_
    obtain ⟨r2, m12, e2, e⟩ := sh_bn_e e
    refine sh_Lk_cV (r := (some (.int r2))) (st2 := [.int r2, .int (x3 + x4), .ref 45]) (pc2 := 35) (k2 := 141) (a := 9) (as := [.ref 10, .int r1]) (rest := [.int (x3 + x4), .ref 45]) rfl rfl rfl (fun hT => hT.t9) rfl rfl ⟨Nat.le_of_ble_eq_true rfl, Nat.le_of_ble_eq_true rfl⟩ (sl_141 e2 ⟨rfl, rfl⟩) rfl rfl (Nat.le_of_ble_eq_true rfl) (Nat.le_of_ble_eq_true rfl) ?_
    obtain ⟨r3, m13, e3, e⟩ := sh_bn_e e
    refine sh_Lk_cV (r := none) (st2 := []) (pc2 := 38) (k2 := 100) (a := 44) (as := [.ref 45, .int (x3 + x4), .int r2]) (rest := []) rfl rfl rfl (fun hT => (sh_s44 hT.st)) rfl rfl ⟨Nat.le_of_ble_eq_true rfl, Nat.le_of_ble_eq_true rfl⟩ (sl_100 e3 ⟨rfl, rfl⟩) rfl rfl (Nat.le_of_ble_eq_true rfl) (Nat.le_of_ble_eq_true rfl) ?_
    refine sh_Lk_lift (T := m13.T) (I := m13.I) (J := m13.J) (s := m13.s) (pc2 := 9) (lv2 := [(4, .int (x4 + 1)), (0, .ref 45), (1, .int x1), (2, .int x2), (3, .int x3)]) (st2 := []) (I2 := m13.I) (J2 := m13.J) (fun hT v kk => ?_) ?_
    · refine sh_w (i := (.iinc 4 1)) (len := 3) (pc2 := 41) (lv2 := [(4, .int (x4 + 1)), (0, .ref 45), (1, .int x1), (2, .int x2), (3, .int x3)]) (st2 := []) (h2 := (sh_rep m13.T m13.I m13.J)) rfl rfl rfl ?_
      refine sh_w (i := (.goto (-32))) (len := 3) (pc2 := 9) (lv2 := [(4, .int (x4 + 1)), (0, .ref 45), (1, .int x1), (2, .int x2), (3, .int x3)]) (st2 := []) (h2 := (sh_rep m13.T m13.I m13.J)) rfl rfl rfl ?_
      exact kk
    obtain rfl := Option.some.inj e
    exact sh_Lk_sub (sh_sub_c rfl (sh_sub_c rfl (sh_sub_c rfl (sh_sub_c rfl (sh_sub_c rfl (sh_sub_n)))))) tg
  · refine sh_Lk_lift (T := m.T) (I := m.I) (J := m.J) (s := m.s) (pc2 := 45) (lv2 := [(0, .ref 45), (1, .int x1), (2, .int x2), (3, .int x3), (4, .int x4)]) (st2 := [.int x3]) (I2 := m.I) (J2 := m.J) (fun hT v kk => ?_) ?_
    · refine sh_jc (c := .ge) (off := (32)) (pc2 := 44) true rfl (sh_Bget c) rfl ?_
      refine sh_w (i := (.iload_n 3)) (len := 1) (pc2 := 45) (lv2 := [(0, .ref 45), (1, .int x1), (2, .int x2), (3, .int x3), (4, .int x4)]) (st2 := [.int x3]) (h2 := (sh_rep m.T m.I m.J)) rfl rfl rfl ?_
      exact kk
    obtain rfl := Option.some.inj e
    obtain ⟨rfl, rfl⟩ := tg
    exact sh_Lk_ret (i := .ireturn) rfl rfl rfl (Nat.le_of_ble_eq_true rfl) (Nat.le_of_ble_eq_true rfl)
theorem sl_169_9 {x1 : Int32} {x2 : Int32} {x3 : Int32} {x4 : Int32} {m m2 : sh_X} {o : Outcome} {z : (Int32 × sh_X)} (e : sf_169_9 x1 x2 x3 x4 m = some z) (tg : (sh_tI o m2) z) : sh_Lk 169 9 [(0, .ref 45), (1, .int x1), (2, .int x2), (3, .int x3), (4, .int x4)] [] m o m2 13 309 := by
  unfold sf_169_9 at e
  exact sh_while_lk (P := fun q => sh_Lk 169 9 [(0, .ref 45), (1, .int x1), (2, .int x2), (3, .int x3), (4, .int q.1)] [] q.2 o m2 13 309) (Q := (sh_tI o m2)) (fun q z e tg => sl_169_9s (x1 := x1) (x2 := x2) (x3 := x3) (x4 := q.1) (m := q.2) e tg) (s := (x4, m)) e tg
theorem sl_169 {x1 : Int32} {x2 : Int32} {m m2 : sh_X} {o : Outcome} {z : (Int32 × sh_X)} (e : sf_169 x1 x2 m = some z) (tg : (sh_tI o m2) z) : sh_Lk 169 0 [(0, .ref 45), (1, .int x1), (2, .int x2)] [] m o m2 13 309 := by
  unfold sf_169 at e
  refine sh_Lk_lift (T := m.T) (I := m.I) (J := m.J) (s := m.s) (pc2 := 2) (lv2 := [(0, .ref 45), (1, .int x1), (2, .int x2)]) (st2 := [.int x2, .ref 45]) (I2 := m.I) (J2 := m.J) (fun hT v kk => ?_) ?_
  · refine sh_w (i := (.aload_n 0)) (len := 1) (pc2 := 1) (lv2 := [(0, .ref 45), (1, .int x1), (2, .int x2)]) (st2 := [.ref 45]) (h2 := (sh_rep m.T m.I m.J)) rfl rfl rfl ?_
    refine sh_w (i := (.iload_n 2)) (len := 1) (pc2 := 2) (lv2 := [(0, .ref 45), (1, .int x1), (2, .int x2)]) (st2 := [.int x2, .ref 45]) (h2 := (sh_rep m.T m.I m.J)) rfl rfl rfl ?_
    exact kk
  obtain ⟨r1, m11, e1, e⟩ := sh_bn_e e
  refine sh_Lk_cV (r := (some (.int r1))) (st2 := [.int r1]) (pc2 := 5) (k2 := 98) (a := 44) (as := [.ref 45, .int x2]) (rest := []) rfl rfl rfl (fun hT => (sh_s44 hT.st)) rfl rfl ⟨Nat.le_of_ble_eq_true rfl, Nat.le_of_ble_eq_true rfl⟩ (sl_98 e1 ⟨rfl, rfl⟩) rfl rfl (Nat.le_of_ble_eq_true rfl) (Nat.le_of_ble_eq_true rfl) ?_
  refine sh_Lk_lift (T := m11.T) (I := m11.I) (J := m11.J) (s := m11.s) (pc2 := 9) (lv2 := [(4, .int 0), (3, .int r1), (0, .ref 45), (1, .int x1), (2, .int x2)]) (st2 := []) (I2 := m11.I) (J2 := m11.J) (fun hT v kk => ?_) ?_
  · refine sh_w (i := (.istore_n 3)) (len := 1) (pc2 := 6) (lv2 := [(3, .int r1), (0, .ref 45), (1, .int x1), (2, .int x2)]) (st2 := []) (h2 := (sh_rep m11.T m11.I m11.J)) rfl rfl rfl ?_
    refine sh_w (i := (.iconst 0)) (len := 1) (pc2 := 7) (lv2 := [(3, .int r1), (0, .ref 45), (1, .int x1), (2, .int x2)]) (st2 := [.int 0]) (h2 := (sh_rep m11.T m11.I m11.J)) rfl rfl rfl ?_
    refine sh_w (i := (.istore 4)) (len := 2) (pc2 := 9) (lv2 := [(4, .int 0), (3, .int r1), (0, .ref 45), (1, .int x1), (2, .int x2)]) (st2 := []) (h2 := (sh_rep m11.T m11.I m11.J)) rfl rfl rfl ?_
    exact kk
  exact sh_Lk_sub (sh_sub_c rfl (sh_sub_c rfl (sh_sub_c rfl (sh_sub_c rfl (sh_sub_c rfl (sh_sub_n)))))) (sl_169_9 e tg)
theorem sl_168_43 {x1 : Int32} {x2 : Int32} {x3 : Int32} {m m2 : sh_X} {o : Outcome} {z : (Option Unit × sh_X)} (e : sf_168_43 x1 x2 x3 m = some z) (tg : (sh_tVt o m2) z) : sh_Lk 168 43 [(0, .ref 42), (1, .int x1), (2, .int x2), (3, .int x3)] [] m o m2 14 333 := by
  unfold sf_168_43 at e
  refine sh_Lk_lift (T := m.T) (I := m.I) (J := m.J) (s := m.s) (pc2 := 45) (lv2 := [(0, .ref 42), (1, .int x1), (2, .int x2), (3, .int x3)]) (st2 := [.int x3, .ref 42]) (I2 := m.I) (J2 := m.J) (fun hT v kk => ?_) ?_
  · refine sh_w (i := (.aload_n 0)) (len := 1) (pc2 := 44) (lv2 := [(0, .ref 42), (1, .int x1), (2, .int x2), (3, .int x3)]) (st2 := [.ref 42]) (h2 := (sh_rep m.T m.I m.J)) rfl rfl rfl ?_
    refine sh_w (i := (.iload_n 3)) (len := 1) (pc2 := 45) (lv2 := [(0, .ref 42), (1, .int x1), (2, .int x2), (3, .int x3)]) (st2 := [.int x3, .ref 42]) (h2 := (sh_rep m.T m.I m.J)) rfl rfl rfl ?_
    exact kk
  refine sh_Lk_cS (r := (some (.int (sf_94 x3)))) (st2 := [.int (sf_94 x3), .ref 42]) (pc2 := 48) (k2 := 94) (as := [.int x3]) (rest := [.ref 42]) rfl rfl (by decide) (Nat.le_of_ble_eq_true rfl) rfl rfl ⟨Nat.le_of_ble_eq_true rfl, Nat.le_of_ble_eq_true rfl⟩ (sl_94 (m := m) rfl ⟨rfl, rfl⟩) rfl rfl (Nat.le_of_ble_eq_true rfl) (Nat.le_of_ble_eq_true rfl) ?_
  refine sh_Lk_lift (T := m.T) (I := m.I) (J := m.J) (s := m.s) (pc2 := 49) (lv2 := [(0, .ref 42), (1, .int x1), (2, .int x2), (3, .int x3)]) (st2 := [.int x1, .int (sf_94 x3), .ref 42]) (I2 := m.I) (J2 := m.J) (fun hT v kk => ?_) ?_
  · refine sh_w (i := (.iload_n 1)) (len := 1) (pc2 := 49) (lv2 := [(0, .ref 42), (1, .int x1), (2, .int x2), (3, .int x3)]) (st2 := [.int x1, .int (sf_94 x3), .ref 42]) (h2 := (sh_rep m.T m.I m.J)) rfl rfl rfl ?_
    exact kk
  rcases sh_bt_e e with ⟨m12, e2, rfl⟩ | ⟨r2, m12, e2, e⟩
  · obtain ⟨rfl, rfl⟩ := tg
    exact sh_Lk_tV (k2 := 90) (a := 41) (as := [.ref 42, .int (sf_94 x3), .int x1]) (rest := []) rfl rfl rfl (fun hT => (sh_s41 hT.st)) rfl rfl ⟨Nat.le_of_ble_eq_true rfl, Nat.le_of_ble_eq_true rfl⟩ (sl_90 e2 ⟨rfl, rfl⟩) rfl (Nat.le_of_ble_eq_true rfl) (Nat.le_of_ble_eq_true rfl) (Nat.le_of_ble_eq_true rfl) (Nat.le_of_ble_eq_true rfl) rfl
  refine sh_Lk_cV (r := none) (st2 := []) (pc2 := 52) (k2 := 90) (a := 41) (as := [.ref 42, .int (sf_94 x3), .int x1]) (rest := []) rfl rfl rfl (fun hT => (sh_s41 hT.st)) rfl rfl ⟨Nat.le_of_ble_eq_true rfl, Nat.le_of_ble_eq_true rfl⟩ (sl_90 e2 ⟨rfl, rfl⟩) rfl rfl (Nat.le_of_ble_eq_true rfl) (Nat.le_of_ble_eq_true rfl) ?_
  refine sh_Lk_lift (T := m12.T) (I := m12.I) (J := m12.J) (s := m12.s) (pc2 := 64) (lv2 := [(0, .ref 42), (1, .int x1), (2, .int x2), (3, .int x3)]) (st2 := [.int x2, .ref 49, .ref 45, .int x3, .int 1, .ref 42]) (I2 := m12.I) (J2 := m12.J) (fun hT v kk => ?_) ?_
  · refine sh_w (i := (.aload_n 0)) (len := 1) (pc2 := 53) (lv2 := [(0, .ref 42), (1, .int x1), (2, .int x2), (3, .int x3)]) (st2 := [.ref 42]) (h2 := (sh_rep m12.T m12.I m12.J)) rfl rfl rfl ?_
    refine sh_w (i := (.iconst 1)) (len := 1) (pc2 := 54) (lv2 := [(0, .ref 42), (1, .int x1), (2, .int x2), (3, .int x3)]) (st2 := [.int 1, .ref 42]) (h2 := (sh_rep m12.T m12.I m12.J)) rfl rfl rfl ?_
    refine sh_w (i := (.iload_n 3)) (len := 1) (pc2 := 55) (lv2 := [(0, .ref 42), (1, .int x1), (2, .int x2), (3, .int x3)]) (st2 := [.int x3, .int 1, .ref 42]) (h2 := (sh_rep m12.T m12.I m12.J)) rfl rfl rfl ?_
    refine sh_w (i := (.aload_n 0)) (len := 1) (pc2 := 56) (lv2 := [(0, .ref 42), (1, .int x1), (2, .int x2), (3, .int x3)]) (st2 := [.ref 42, .int x3, .int 1, .ref 42]) (h2 := (sh_rep m12.T m12.I m12.J)) rfl rfl rfl ?_
    refine sh_gR1 (len := 3) (x := .ref 45) (pc2 := 59) rfl rfl (sh_s41 hT.st) rfl rfl ?_
    refine sh_w (i := (.aload_n 0)) (len := 1) (pc2 := 60) (lv2 := [(0, .ref 42), (1, .int x1), (2, .int x2), (3, .int x3)]) (st2 := [.ref 42, .ref 45, .int x3, .int 1, .ref 42]) (h2 := (sh_rep m12.T m12.I m12.J)) rfl rfl rfl ?_
    refine sh_gR1 (len := 3) (x := .ref 49) (pc2 := 63) rfl rfl (sh_s41 hT.st) rfl rfl ?_
    refine sh_w (i := (.iload_n 2)) (len := 1) (pc2 := 64) (lv2 := [(0, .ref 42), (1, .int x1), (2, .int x2), (3, .int x3)]) (st2 := [.int x2, .ref 49, .ref 45, .int x3, .int 1, .ref 42]) (h2 := (sh_rep m12.T m12.I m12.J)) rfl rfl rfl ?_
    exact kk
  obtain ⟨r3, e3, e⟩ := sh_bc_e e
  refine sh_Lk_cV (r := (some (.int r3))) (st2 := [.int r3, .ref 45, .int x3, .int 1, .ref 42]) (pc2 := 67) (k2 := 117) (a := 48) (as := [.ref 49, .int x2]) (rest := [.ref 45, .int x3, .int 1, .ref 42]) rfl rfl rfl (fun hT => (sh_s48 hT.st)) rfl rfl ⟨Nat.le_of_ble_eq_true rfl, Nat.le_of_ble_eq_true rfl⟩ (sl_117 e3 ⟨rfl, rfl⟩) rfl rfl (Nat.le_of_ble_eq_true rfl) (Nat.le_of_ble_eq_true rfl) ?_
  refine sh_Lk_lift (T := m12.T) (I := m12.I) (J := m12.J) (s := m12.s) (pc2 := 68) (lv2 := [(0, .ref 42), (1, .int x1), (2, .int x2), (3, .int x3)]) (st2 := [.int x3, .int r3, .ref 45, .int x3, .int 1, .ref 42]) (I2 := m12.I) (J2 := m12.J) (fun hT v kk => ?_) ?_
  · refine sh_w (i := (.iload_n 3)) (len := 1) (pc2 := 68) (lv2 := [(0, .ref 42), (1, .int x1), (2, .int x2), (3, .int x3)]) (st2 := [.int x3, .int r3, .ref 45, .int x3, .int 1, .ref 42]) (h2 := (sh_rep m12.T m12.I m12.J)) rfl rfl rfl ?_
    exact kk
  refine sh_Lk_cS (r := (some (.int (sf_94 x3)))) (st2 := [.int (sf_94 x3), .int r3, .ref 45, .int x3, .int 1, .ref 42]) (pc2 := 71) (k2 := 94) (as := [.int x3]) (rest := [.int r3, .ref 45, .int x3, .int 1, .ref 42]) rfl rfl (by decide) (Nat.le_of_ble_eq_true rfl) rfl rfl ⟨Nat.le_of_ble_eq_true rfl, Nat.le_of_ble_eq_true rfl⟩ (sl_94 (m := m12) rfl ⟨rfl, rfl⟩) rfl rfl (Nat.le_of_ble_eq_true rfl) (Nat.le_of_ble_eq_true rfl) ?_
  obtain ⟨r5, m15, e5, e⟩ := sh_bn_e e
  refine sh_Lk_cV (r := (some (.int r5))) (st2 := [.int r5, .int x3, .int 1, .ref 42]) (pc2 := 74) (k2 := 169) (a := 44) (as := [.ref 45, .int r3, .int (sf_94 x3)]) (rest := [.int x3, .int 1, .ref 42]) rfl rfl rfl (fun hT => (sh_s44 hT.st)) rfl rfl ⟨Nat.le_of_ble_eq_true rfl, Nat.le_of_ble_eq_true rfl⟩ (sl_169 e5 ⟨rfl, rfl⟩) rfl rfl (Nat.le_of_ble_eq_true rfl) (Nat.le_of_ble_eq_true rfl) ?_
  obtain ⟨r6, m16, e6, e⟩ := sh_bn_e e
  refine sh_Lk_cV (r := none) (st2 := []) (pc2 := 77) (k2 := 167) (a := 41) (as := [.ref 42, .int 1, .int x3, .int r5]) (rest := []) rfl rfl rfl (fun hT => (sh_s41 hT.st)) rfl rfl ⟨Nat.le_of_ble_eq_true rfl, Nat.le_of_ble_eq_true rfl⟩ (sl_167 e6 ⟨rfl, rfl⟩) rfl rfl (Nat.le_of_ble_eq_true rfl) (Nat.le_of_ble_eq_true rfl) ?_
  obtain rfl := Option.some.inj e
  obtain ⟨rfl, rfl⟩ := tg
  exact sh_Lk_ret (i := .return_) rfl rfl rfl (Nat.le_of_ble_eq_true rfl) (Nat.le_of_ble_eq_true rfl)
theorem sl_168 {x1 : Int32} {m m2 : sh_X} {o : Outcome} {z : (Option Unit × sh_X)} (e : sf_168 x1 m = some z) (tg : (sh_tVt o m2) z) : sh_Lk 168 0 [(0, .ref 42), (1, .int x1)] [] m o m2 14 333 := by
  unfold sf_168 at e
  refine sh_Lk_lift (T := m.T) (I := m.I) (J := m.J) (s := m.s) (pc2 := 15) (lv2 := [(2, .int ((m.I 48 4) - 1)), (0, .ref 42), (1, .int x1)]) (st2 := [.int 160, .int ((m.I 48 4) - 1), .ref 42]) (I2 := m.I) (J2 := m.J) (fun hT v kk => ?_) ?_
  · refine sh_w (i := (.aload_n 0)) (len := 1) (pc2 := 1) (lv2 := [(0, .ref 42), (1, .int x1)]) (st2 := [.ref 42]) (h2 := (sh_rep m.T m.I m.J)) rfl rfl rfl ?_
    refine sh_gR1 (len := 3) (x := .ref 49) (pc2 := 4) rfl rfl (sh_s41 hT.st) rfl rfl ?_
    refine sh_gI1 (len := 3) (x := m.I 48 4) (pc2 := 7) rfl rfl (sh_s48 hT.st) rfl rfl rfl ?_
    refine sh_w (i := (.iconst 1)) (len := 1) (pc2 := 8) (lv2 := [(0, .ref 42), (1, .int x1)]) (st2 := [.int 1, .int (m.I 48 4)]) (h2 := (sh_rep m.T m.I m.J)) rfl rfl rfl ?_
    refine sh_w (i := .isub) (len := 1) (pc2 := 9) (lv2 := [(0, .ref 42), (1, .int x1)]) (st2 := [.int ((m.I 48 4) - 1)]) (h2 := (sh_rep m.T m.I m.J)) rfl rfl rfl ?_
    refine sh_w (i := (.istore_n 2)) (len := 1) (pc2 := 10) (lv2 := [(2, .int ((m.I 48 4) - 1)), (0, .ref 42), (1, .int x1)]) (st2 := []) (h2 := (sh_rep m.T m.I m.J)) rfl rfl rfl ?_
    refine sh_w (i := (.aload_n 0)) (len := 1) (pc2 := 11) (lv2 := [(2, .int ((m.I 48 4) - 1)), (0, .ref 42), (1, .int x1)]) (st2 := [.ref 42]) (h2 := (sh_rep m.T m.I m.J)) rfl rfl rfl ?_
    refine sh_w (i := (.iload_n 2)) (len := 1) (pc2 := 12) (lv2 := [(2, .int ((m.I 48 4) - 1)), (0, .ref 42), (1, .int x1)]) (st2 := [.int ((m.I 48 4) - 1), .ref 42]) (h2 := (sh_rep m.T m.I m.J)) rfl rfl rfl ?_
    refine sh_w (i := (.sipush 160)) (len := 3) (pc2 := 15) (lv2 := [(2, .int ((m.I 48 4) - 1)), (0, .ref 42), (1, .int x1)]) (st2 := [.int 160, .int ((m.I 48 4) - 1), .ref 42]) (h2 := (sh_rep m.T m.I m.J)) rfl rfl rfl ?_
    exact kk
  rcases sh_bt_e e with ⟨m11, e1, rfl⟩ | ⟨r1, m11, e1, e⟩
  · obtain ⟨rfl, rfl⟩ := tg
    exact sh_Lk_tV (k2 := 107) (a := 41) (as := [.ref 42, .int ((m.I 48 4) - 1), .int 160]) (rest := []) rfl rfl rfl (fun hT => (sh_s41 hT.st)) rfl rfl ⟨Nat.le_of_ble_eq_true rfl, Nat.le_of_ble_eq_true rfl⟩ (sl_107 e1 ⟨rfl, rfl⟩) rfl (Nat.le_of_ble_eq_true rfl) (Nat.le_of_ble_eq_true rfl) (Nat.le_of_ble_eq_true rfl) (Nat.le_of_ble_eq_true rfl) rfl
  refine sh_Lk_cV (r := none) (st2 := []) (pc2 := 18) (k2 := 107) (a := 41) (as := [.ref 42, .int ((m.I 48 4) - 1), .int 160]) (rest := []) rfl rfl rfl (fun hT => (sh_s41 hT.st)) rfl rfl ⟨Nat.le_of_ble_eq_true rfl, Nat.le_of_ble_eq_true rfl⟩ (sl_107 e1 ⟨rfl, rfl⟩) rfl rfl (Nat.le_of_ble_eq_true rfl) (Nat.le_of_ble_eq_true rfl) ?_
  refine sh_Lk_lift (T := m11.T) (I := m11.I) (J := m11.J) (s := m11.s) (pc2 := 23) (lv2 := [(2, .int ((m.I 48 4) - 1)), (0, .ref 42), (1, .int x1)]) (st2 := [.int ((m.I 48 4) - 1), .ref 49]) (I2 := m11.I) (J2 := m11.J) (fun hT v kk => ?_) ?_
  · refine sh_w (i := (.aload_n 0)) (len := 1) (pc2 := 19) (lv2 := [(2, .int ((m.I 48 4) - 1)), (0, .ref 42), (1, .int x1)]) (st2 := [.ref 42]) (h2 := (sh_rep m11.T m11.I m11.J)) rfl rfl rfl ?_
    refine sh_gR1 (len := 3) (x := .ref 49) (pc2 := 22) rfl rfl (sh_s41 hT.st) rfl rfl ?_
    refine sh_w (i := (.iload_n 2)) (len := 1) (pc2 := 23) (lv2 := [(2, .int ((m.I 48 4) - 1)), (0, .ref 42), (1, .int x1)]) (st2 := [.int ((m.I 48 4) - 1), .ref 49]) (h2 := (sh_rep m11.T m11.I m11.J)) rfl rfl rfl ?_
    exact kk
  obtain ⟨r2, e2, e⟩ := sh_bc_e e
  refine sh_Lk_cV (r := (some (.int r2))) (st2 := [.int r2]) (pc2 := 26) (k2 := 108) (a := 48) (as := [.ref 49, .int ((m.I 48 4) - 1)]) (rest := []) rfl rfl rfl (fun hT => (sh_s48 hT.st)) rfl rfl ⟨Nat.le_of_ble_eq_true rfl, Nat.le_of_ble_eq_true rfl⟩ (sl_108 e2 ⟨rfl, rfl⟩) rfl rfl (Nat.le_of_ble_eq_true rfl) (Nat.le_of_ble_eq_true rfl) ?_
  refine sh_Lk_lift (T := m11.T) (I := m11.I) (J := m11.J) (s := m11.s) (pc2 := 28) (lv2 := [(3, .int r2), (2, .int ((m.I 48 4) - 1)), (0, .ref 42), (1, .int x1)]) (st2 := [.int r2]) (I2 := m11.I) (J2 := m11.J) (fun hT v kk => ?_) ?_
  · refine sh_w (i := (.istore_n 3)) (len := 1) (pc2 := 27) (lv2 := [(3, .int r2), (2, .int ((m.I 48 4) - 1)), (0, .ref 42), (1, .int x1)]) (st2 := []) (h2 := (sh_rep m11.T m11.I m11.J)) rfl rfl rfl ?_
    refine sh_w (i := (.iload_n 3)) (len := 1) (pc2 := 28) (lv2 := [(3, .int r2), (2, .int ((m.I 48 4) - 1)), (0, .ref 42), (1, .int x1)]) (st2 := [.int r2]) (h2 := (sh_rep m11.T m11.I m11.J)) rfl rfl rfl ?_
    exact kk
  refine sh_Lk_cS (r := (some (.int (sh_b2 (sf_123 r2))))) (st2 := [.int (sh_b2 (sf_123 r2))]) (pc2 := 31) (k2 := 123) (as := [.int r2]) (rest := []) rfl rfl (by decide) (Nat.le_of_ble_eq_true rfl) rfl rfl ⟨Nat.le_of_ble_eq_true rfl, Nat.le_of_ble_eq_true rfl⟩ (sl_123 (m := m11) rfl ⟨rfl, rfl⟩) rfl rfl (Nat.le_of_ble_eq_true rfl) (Nat.le_of_ble_eq_true rfl) ?_
  rcases sh_ite e with ⟨c, e⟩ | ⟨c, e⟩
  · refine sh_Lk_lift (T := m11.T) (I := m11.I) (J := m11.J) (s := m11.s) (pc2 := 40) (lv2 := [(3, .int r2), (2, .int ((m.I 48 4) - 1)), (0, .ref 42), (1, .int x1)]) (st2 := [.int x1, .int 4, .ref 3]) (I2 := m11.I) (J2 := m11.J) (fun hT v kk => ?_) ?_
    · refine sh_j0 (c := .eq) (off := (12)) (pc2 := 34) false rfl (sh_Zeqf c) rfl ?_
      refine sh_w (i := (.aload_n 0)) (len := 1) (pc2 := 35) (lv2 := [(3, .int r2), (2, .int ((m.I 48 4) - 1)), (0, .ref 42), (1, .int x1)]) (st2 := [.ref 42]) (h2 := (sh_rep m11.T m11.I m11.J)) rfl rfl rfl ?_
      refine sh_gR1 (len := 3) (x := .ref 3) (pc2 := 38) rfl rfl (sh_s41 hT.st) rfl rfl ?_
      refine sh_w (i := (.iconst 4)) (len := 1) (pc2 := 39) (lv2 := [(3, .int r2), (2, .int ((m.I 48 4) - 1)), (0, .ref 42), (1, .int x1)]) (st2 := [.int 4, .ref 3]) (h2 := (sh_rep m11.T m11.I m11.J)) rfl rfl rfl ?_
      refine sh_w (i := (.iload_n 1)) (len := 1) (pc2 := 40) (lv2 := [(3, .int r2), (2, .int ((m.I 48 4) - 1)), (0, .ref 42), (1, .int x1)]) (st2 := [.int x1, .int 4, .ref 3]) (h2 := (sh_rep m11.T m11.I m11.J)) rfl rfl rfl ?_
      exact kk
    rcases sh_bt_e e with ⟨m14, e4, rfl⟩ | ⟨r4, m14, e4, e⟩
    · obtain ⟨rfl, rfl⟩ := tg
      exact sh_Lk_tV (k2 := 50) (a := 2) (as := [.ref 3, .int 4, .int x1]) (rest := []) rfl rfl rfl (fun hT => hT.t2) rfl rfl ⟨Nat.le_of_ble_eq_true rfl, Nat.le_of_ble_eq_true rfl⟩ (sl_50 e4 ⟨rfl, rfl⟩) rfl (Nat.le_of_ble_eq_true rfl) (Nat.le_of_ble_eq_true rfl) (Nat.le_of_ble_eq_true rfl) (Nat.le_of_ble_eq_true rfl) rfl
    refine sh_Lk_cV (r := none) (st2 := []) (pc2 := 43) (k2 := 50) (a := 2) (as := [.ref 3, .int 4, .int x1]) (rest := []) rfl rfl rfl (fun hT => hT.t2) rfl rfl ⟨Nat.le_of_ble_eq_true rfl, Nat.le_of_ble_eq_true rfl⟩ (sl_50 e4 ⟨rfl, rfl⟩) rfl rfl (Nat.le_of_ble_eq_true rfl) (Nat.le_of_ble_eq_true rfl) ?_
    exact sh_Lk_sub (sh_sub_c rfl (sh_sub_c rfl (sh_sub_c rfl (sh_sub_c rfl (sh_sub_n))))) (sl_168_43 e tg)
  · refine sh_Lk_lift (T := m11.T) (I := m11.I) (J := m11.J) (s := m11.s) (pc2 := 43) (lv2 := [(3, .int r2), (2, .int ((m.I 48 4) - 1)), (0, .ref 42), (1, .int x1)]) (st2 := []) (I2 := m11.I) (J2 := m11.J) (fun hT v kk => ?_) ?_
    · refine sh_j0 (c := .eq) (off := (12)) (pc2 := 43) true rfl (sh_Zeqt c) rfl ?_
      exact kk
    exact sh_Lk_sub (sh_sub_c rfl (sh_sub_c rfl (sh_sub_c rfl (sh_sub_c rfl (sh_sub_n))))) (sl_168_43 e tg)
theorem sl_170 {x1 : Int32} {m m2 : sh_X} {o : Outcome} {z : (Option Unit × sh_X)} (e : sf_170 x1 m = some z) (tg : (sh_tVt o m2) z) : sh_Lk 170 0 [(0, .ref 42), (1, .int x1)] [] m o m2 14 333 := by
  unfold sf_170 at e
  refine sh_Lk_lift (T := m.T) (I := m.I) (J := m.J) (s := m.s) (pc2 := 13) (lv2 := [(0, .ref 42), (1, .int x1)]) (st2 := [.int 160, .int ((m.I 48 4) - 1), .ref 42]) (I2 := m.I) (J2 := m.J) (fun hT v kk => ?_) ?_
  · refine sh_w (i := (.aload_n 0)) (len := 1) (pc2 := 1) (lv2 := [(0, .ref 42), (1, .int x1)]) (st2 := [.ref 42]) (h2 := (sh_rep m.T m.I m.J)) rfl rfl rfl ?_
    refine sh_w (i := (.aload_n 0)) (len := 1) (pc2 := 2) (lv2 := [(0, .ref 42), (1, .int x1)]) (st2 := [.ref 42, .ref 42]) (h2 := (sh_rep m.T m.I m.J)) rfl rfl rfl ?_
    refine sh_gR1 (len := 3) (x := .ref 49) (pc2 := 5) rfl rfl (sh_s41 hT.st) rfl rfl ?_
    refine sh_gI1 (len := 3) (x := m.I 48 4) (pc2 := 8) rfl rfl (sh_s48 hT.st) rfl rfl rfl ?_
    refine sh_w (i := (.iconst 1)) (len := 1) (pc2 := 9) (lv2 := [(0, .ref 42), (1, .int x1)]) (st2 := [.int 1, .int (m.I 48 4), .ref 42]) (h2 := (sh_rep m.T m.I m.J)) rfl rfl rfl ?_
    refine sh_w (i := .isub) (len := 1) (pc2 := 10) (lv2 := [(0, .ref 42), (1, .int x1)]) (st2 := [.int ((m.I 48 4) - 1), .ref 42]) (h2 := (sh_rep m.T m.I m.J)) rfl rfl rfl ?_
    refine sh_w (i := (.sipush 160)) (len := 3) (pc2 := 13) (lv2 := [(0, .ref 42), (1, .int x1)]) (st2 := [.int 160, .int ((m.I 48 4) - 1), .ref 42]) (h2 := (sh_rep m.T m.I m.J)) rfl rfl rfl ?_
    exact kk
  rcases sh_bt_e e with ⟨m11, e1, rfl⟩ | ⟨r1, m11, e1, e⟩
  · obtain ⟨rfl, rfl⟩ := tg
    exact sh_Lk_tV (k2 := 107) (a := 41) (as := [.ref 42, .int ((m.I 48 4) - 1), .int 160]) (rest := []) rfl rfl rfl (fun hT => (sh_s41 hT.st)) rfl rfl ⟨Nat.le_of_ble_eq_true rfl, Nat.le_of_ble_eq_true rfl⟩ (sl_107 e1 ⟨rfl, rfl⟩) rfl (Nat.le_of_ble_eq_true rfl) (Nat.le_of_ble_eq_true rfl) (Nat.le_of_ble_eq_true rfl) (Nat.le_of_ble_eq_true rfl) rfl
  refine sh_Lk_cV (r := none) (st2 := []) (pc2 := 16) (k2 := 107) (a := 41) (as := [.ref 42, .int ((m.I 48 4) - 1), .int 160]) (rest := []) rfl rfl rfl (fun hT => (sh_s41 hT.st)) rfl rfl ⟨Nat.le_of_ble_eq_true rfl, Nat.le_of_ble_eq_true rfl⟩ (sl_107 e1 ⟨rfl, rfl⟩) rfl rfl (Nat.le_of_ble_eq_true rfl) (Nat.le_of_ble_eq_true rfl) ?_
  refine sh_Lk_lift (T := m11.T) (I := m11.I) (J := m11.J) (s := m11.s) (pc2 := 21) (lv2 := [(0, .ref 42), (1, .int x1)]) (st2 := [.int x1, .int 257, .ref 42]) (I2 := m11.I) (J2 := m11.J) (fun hT v kk => ?_) ?_
  · refine sh_w (i := (.aload_n 0)) (len := 1) (pc2 := 17) (lv2 := [(0, .ref 42), (1, .int x1)]) (st2 := [.ref 42]) (h2 := (sh_rep m11.T m11.I m11.J)) rfl rfl rfl ?_
    refine sh_w (i := (.sipush 257)) (len := 3) (pc2 := 20) (lv2 := [(0, .ref 42), (1, .int x1)]) (st2 := [.int 257, .ref 42]) (h2 := (sh_rep m11.T m11.I m11.J)) rfl rfl rfl ?_
    refine sh_w (i := (.iload_n 1)) (len := 1) (pc2 := 21) (lv2 := [(0, .ref 42), (1, .int x1)]) (st2 := [.int x1, .int 257, .ref 42]) (h2 := (sh_rep m11.T m11.I m11.J)) rfl rfl rfl ?_
    exact kk
  rcases sh_bt_e e with ⟨m12, e2, rfl⟩ | ⟨r2, m12, e2, e⟩
  · obtain ⟨rfl, rfl⟩ := tg
    exact sh_Lk_tV (k2 := 125) (a := 41) (as := [.ref 42, .int 257, .int x1]) (rest := []) rfl rfl rfl (fun hT => (sh_s41 hT.st)) rfl rfl ⟨Nat.le_of_ble_eq_true rfl, Nat.le_of_ble_eq_true rfl⟩ (sl_125 e2 ⟨rfl, rfl⟩) rfl (Nat.le_of_ble_eq_true rfl) (Nat.le_of_ble_eq_true rfl) (Nat.le_of_ble_eq_true rfl) (Nat.le_of_ble_eq_true rfl) rfl
  refine sh_Lk_cV (r := none) (st2 := []) (pc2 := 24) (k2 := 125) (a := 41) (as := [.ref 42, .int 257, .int x1]) (rest := []) rfl rfl rfl (fun hT => (sh_s41 hT.st)) rfl rfl ⟨Nat.le_of_ble_eq_true rfl, Nat.le_of_ble_eq_true rfl⟩ (sl_125 e2 ⟨rfl, rfl⟩) rfl rfl (Nat.le_of_ble_eq_true rfl) (Nat.le_of_ble_eq_true rfl) ?_
  refine sh_Lk_lift (T := m12.T) (I := m12.I) (J := m12.J) (s := m12.s) (pc2 := 27) (lv2 := [(0, .ref 42), (1, .int x1)]) (st2 := [.int x1, .int 1, .ref 42]) (I2 := m12.I) (J2 := m12.J) (fun hT v kk => ?_) ?_
  · refine sh_w (i := (.aload_n 0)) (len := 1) (pc2 := 25) (lv2 := [(0, .ref 42), (1, .int x1)]) (st2 := [.ref 42]) (h2 := (sh_rep m12.T m12.I m12.J)) rfl rfl rfl ?_
    refine sh_w (i := (.iconst 1)) (len := 1) (pc2 := 26) (lv2 := [(0, .ref 42), (1, .int x1)]) (st2 := [.int 1, .ref 42]) (h2 := (sh_rep m12.T m12.I m12.J)) rfl rfl rfl ?_
    refine sh_w (i := (.iload_n 1)) (len := 1) (pc2 := 27) (lv2 := [(0, .ref 42), (1, .int x1)]) (st2 := [.int x1, .int 1, .ref 42]) (h2 := (sh_rep m12.T m12.I m12.J)) rfl rfl rfl ?_
    exact kk
  rcases sh_bt_e e with ⟨m13, e3, rfl⟩ | ⟨r3, m13, e3, e⟩
  · obtain ⟨rfl, rfl⟩ := tg
    exact sh_Lk_tV (k2 := 90) (a := 41) (as := [.ref 42, .int 1, .int x1]) (rest := []) rfl rfl rfl (fun hT => (sh_s41 hT.st)) rfl rfl ⟨Nat.le_of_ble_eq_true rfl, Nat.le_of_ble_eq_true rfl⟩ (sl_90 e3 ⟨rfl, rfl⟩) rfl (Nat.le_of_ble_eq_true rfl) (Nat.le_of_ble_eq_true rfl) (Nat.le_of_ble_eq_true rfl) (Nat.le_of_ble_eq_true rfl) rfl
  refine sh_Lk_cV (r := none) (st2 := []) (pc2 := 30) (k2 := 90) (a := 41) (as := [.ref 42, .int 1, .int x1]) (rest := []) rfl rfl rfl (fun hT => (sh_s41 hT.st)) rfl rfl ⟨Nat.le_of_ble_eq_true rfl, Nat.le_of_ble_eq_true rfl⟩ (sl_90 e3 ⟨rfl, rfl⟩) rfl rfl (Nat.le_of_ble_eq_true rfl) (Nat.le_of_ble_eq_true rfl) ?_
  refine sh_Lk_lift (T := m13.T) (I := m13.I) (J := m13.J) (s := m13.s) (pc2 := 52) (lv2 := [(0, .ref 42), (1, .int x1)]) (st2 := [.int ((m13.I 48 4) - 1), .ref 49, .ref 45, .int 257, .int 1, .ref 42]) (I2 := m13.I) (J2 := m13.J) (fun hT v kk => ?_) ?_
  · refine sh_w (i := (.aload_n 0)) (len := 1) (pc2 := 31) (lv2 := [(0, .ref 42), (1, .int x1)]) (st2 := [.ref 42]) (h2 := (sh_rep m13.T m13.I m13.J)) rfl rfl rfl ?_
    refine sh_w (i := (.iconst 1)) (len := 1) (pc2 := 32) (lv2 := [(0, .ref 42), (1, .int x1)]) (st2 := [.int 1, .ref 42]) (h2 := (sh_rep m13.T m13.I m13.J)) rfl rfl rfl ?_
    refine sh_w (i := (.sipush 257)) (len := 3) (pc2 := 35) (lv2 := [(0, .ref 42), (1, .int x1)]) (st2 := [.int 257, .int 1, .ref 42]) (h2 := (sh_rep m13.T m13.I m13.J)) rfl rfl rfl ?_
    refine sh_w (i := (.aload_n 0)) (len := 1) (pc2 := 36) (lv2 := [(0, .ref 42), (1, .int x1)]) (st2 := [.ref 42, .int 257, .int 1, .ref 42]) (h2 := (sh_rep m13.T m13.I m13.J)) rfl rfl rfl ?_
    refine sh_gR1 (len := 3) (x := .ref 45) (pc2 := 39) rfl rfl (sh_s41 hT.st) rfl rfl ?_
    refine sh_w (i := (.aload_n 0)) (len := 1) (pc2 := 40) (lv2 := [(0, .ref 42), (1, .int x1)]) (st2 := [.ref 42, .ref 45, .int 257, .int 1, .ref 42]) (h2 := (sh_rep m13.T m13.I m13.J)) rfl rfl rfl ?_
    refine sh_gR1 (len := 3) (x := .ref 49) (pc2 := 43) rfl rfl (sh_s41 hT.st) rfl rfl ?_
    refine sh_w (i := (.aload_n 0)) (len := 1) (pc2 := 44) (lv2 := [(0, .ref 42), (1, .int x1)]) (st2 := [.ref 42, .ref 49, .ref 45, .int 257, .int 1, .ref 42]) (h2 := (sh_rep m13.T m13.I m13.J)) rfl rfl rfl ?_
    refine sh_gR1 (len := 3) (x := .ref 49) (pc2 := 47) rfl rfl (sh_s41 hT.st) rfl rfl ?_
    refine sh_gI1 (len := 3) (x := m13.I 48 4) (pc2 := 50) rfl rfl (sh_s48 hT.st) rfl rfl rfl ?_
    refine sh_w (i := (.iconst 1)) (len := 1) (pc2 := 51) (lv2 := [(0, .ref 42), (1, .int x1)]) (st2 := [.int 1, .int (m13.I 48 4), .ref 49, .ref 45, .int 257, .int 1, .ref 42]) (h2 := (sh_rep m13.T m13.I m13.J)) rfl rfl rfl ?_
    refine sh_w (i := .isub) (len := 1) (pc2 := 52) (lv2 := [(0, .ref 42), (1, .int x1)]) (st2 := [.int ((m13.I 48 4) - 1), .ref 49, .ref 45, .int 257, .int 1, .ref 42]) (h2 := (sh_rep m13.T m13.I m13.J)) rfl rfl rfl ?_
    exact kk
  obtain ⟨r4, e4, e⟩ := sh_bc_e e
  refine sh_Lk_cV (r := (some (.int r4))) (st2 := [.int r4, .ref 45, .int 257, .int 1, .ref 42]) (pc2 := 55) (k2 := 117) (a := 48) (as := [.ref 49, .int ((m13.I 48 4) - 1)]) (rest := [.ref 45, .int 257, .int 1, .ref 42]) rfl rfl rfl (fun hT => (sh_s48 hT.st)) rfl rfl ⟨Nat.le_of_ble_eq_true rfl, Nat.le_of_ble_eq_true rfl⟩ (sl_117 e4 ⟨rfl, rfl⟩) rfl rfl (Nat.le_of_ble_eq_true rfl) (Nat.le_of_ble_eq_true rfl) ?_
  refine sh_Lk_lift (T := m13.T) (I := m13.I) (J := m13.J) (s := m13.s) (pc2 := 56) (lv2 := [(0, .ref 42), (1, .int x1)]) (st2 := [.int 1, .int r4, .ref 45, .int 257, .int 1, .ref 42]) (I2 := m13.I) (J2 := m13.J) (fun hT v kk => ?_) ?_
  · refine sh_w (i := (.iconst 1)) (len := 1) (pc2 := 56) (lv2 := [(0, .ref 42), (1, .int x1)]) (st2 := [.int 1, .int r4, .ref 45, .int 257, .int 1, .ref 42]) (h2 := (sh_rep m13.T m13.I m13.J)) rfl rfl rfl ?_
    exact kk
  obtain ⟨r5, m15, e5, e⟩ := sh_bn_e e
  refine sh_Lk_cV (r := (some (.int r5))) (st2 := [.int r5, .int 257, .int 1, .ref 42]) (pc2 := 59) (k2 := 169) (a := 44) (as := [.ref 45, .int r4, .int 1]) (rest := [.int 257, .int 1, .ref 42]) rfl rfl rfl (fun hT => (sh_s44 hT.st)) rfl rfl ⟨Nat.le_of_ble_eq_true rfl, Nat.le_of_ble_eq_true rfl⟩ (sl_169 e5 ⟨rfl, rfl⟩) rfl rfl (Nat.le_of_ble_eq_true rfl) (Nat.le_of_ble_eq_true rfl) ?_
  obtain ⟨r6, m16, e6, e⟩ := sh_bn_e e
  refine sh_Lk_cV (r := none) (st2 := []) (pc2 := 62) (k2 := 167) (a := 41) (as := [.ref 42, .int 1, .int 257, .int r5]) (rest := []) rfl rfl rfl (fun hT => (sh_s41 hT.st)) rfl rfl ⟨Nat.le_of_ble_eq_true rfl, Nat.le_of_ble_eq_true rfl⟩ (sl_167 e6 ⟨rfl, rfl⟩) rfl rfl (Nat.le_of_ble_eq_true rfl) (Nat.le_of_ble_eq_true rfl) ?_
  obtain rfl := Option.some.inj e
  obtain ⟨rfl, rfl⟩ := tg
  exact sh_Lk_ret (i := .return_) rfl rfl rfl (Nat.le_of_ble_eq_true rfl) (Nat.le_of_ble_eq_true rfl)
theorem sl_174 {x0 : Int64} {x2 : Int64} {m m2 : sh_X} {o : Outcome} {z : Int64} (e : sf_174 x0 x2 = z) (tg : (sh_tJc m o m2) z) : sh_Lk 174 0 [(0, .long x0), (2, .long x2)] [] m o m2 8 200 := by
  unfold sf_174 at e
  refine sh_Lk_lift (T := m.T) (I := m.I) (J := m.J) (s := m.s) (pc2 := 3) (lv2 := [(0, .long x0), (2, .long x2)]) (st2 := [.int (lg_cmp x0 x2)]) (I2 := m.I) (J2 := m.J) (fun hT v kk => ?_) ?_
  · refine sh_w (i := (.lload_n 0)) (len := 1) (pc2 := 1) (lv2 := [(0, .long x0), (2, .long x2)]) (st2 := [.long x0]) (h2 := (sh_rep m.T m.I m.J)) rfl rfl rfl ?_
    refine sh_w (i := (.lload_n 2)) (len := 1) (pc2 := 2) (lv2 := [(0, .long x0), (2, .long x2)]) (st2 := [.long x2, .long x0]) (h2 := (sh_rep m.T m.I m.J)) rfl rfl rfl ?_
    refine sh_w (i := .lcmp) (len := 1) (pc2 := 3) (lv2 := [(0, .long x0), (2, .long x2)]) (st2 := [.int (lg_cmp x0 x2)]) (h2 := (sh_rep m.T m.I m.J)) rfl rfl rfl ?_
    exact kk
  rcases sh_ite e with ⟨c, e⟩ | ⟨c, e⟩
  · refine sh_Lk_lift (T := m.T) (I := m.I) (J := m.J) (s := m.s) (pc2 := 11) (lv2 := [(0, .long x0), (2, .long x2)]) (st2 := [.long x2]) (I2 := m.I) (J2 := m.J) (fun hT v kk => ?_) ?_
    · refine sh_j0 (c := .gt) (off := (7)) (pc2 := 10) true rfl (sh_Cgtt c) rfl ?_
      refine sh_w (i := (.lload_n 2)) (len := 1) (pc2 := 11) (lv2 := [(0, .long x0), (2, .long x2)]) (st2 := [.long x2]) (h2 := (sh_rep m.T m.I m.J)) rfl rfl rfl ?_
      exact kk
    obtain rfl := e
    obtain ⟨rfl, rfl⟩ := tg
    exact sh_Lk_ret (i := .lreturn) rfl rfl rfl (Nat.le_of_ble_eq_true rfl) (Nat.le_of_ble_eq_true rfl)
  · refine sh_Lk_lift (T := m.T) (I := m.I) (J := m.J) (s := m.s) (pc2 := 11) (lv2 := [(0, .long x0), (2, .long x2)]) (st2 := [.long x0]) (I2 := m.I) (J2 := m.J) (fun hT v kk => ?_) ?_
    · refine sh_j0 (c := .gt) (off := (7)) (pc2 := 6) false rfl (sh_Cgtf c) rfl ?_
      refine sh_w (i := (.lload_n 0)) (len := 1) (pc2 := 7) (lv2 := [(0, .long x0), (2, .long x2)]) (st2 := [.long x0]) (h2 := (sh_rep m.T m.I m.J)) rfl rfl rfl ?_
      refine sh_w (i := (.goto 4)) (len := 3) (pc2 := 11) (lv2 := [(0, .long x0), (2, .long x2)]) (st2 := [.long x0]) (h2 := (sh_rep m.T m.I m.J)) rfl rfl rfl ?_
      exact kk
    obtain rfl := e
    obtain ⟨rfl, rfl⟩ := tg
    exact sh_Lk_ret (i := .lreturn) rfl rfl rfl (Nat.le_of_ble_eq_true rfl) (Nat.le_of_ble_eq_true rfl)
theorem sl_173_75 {x1 : Int32} {x2 : Int32} {x5 : Bool} {x6 : Int32} {x7 : Int32} {x8 : Int32} {x9 : Int32} {y1 : Int32} {y2 : Int32} {m m2 : sh_X} {o : Outcome} {z : ((Int32 × sh_X) ⊕ (Int32 × sh_X))} (e : sf_173_75 x1 x2 x5 x6 x7 x8 x9 y1 y2 m = some z) (tg : (sh_el (fun q => sh_Lk 173 19 [(0, .ref 45), (1, .int x1), (2, .int x2), (5, .int (sh_b2 x5)), (6, .int x6), (7, .int x7), (8, .int x8), (9, .int q.1)] [] q.2 o m2 9 223) (sh_tI o m2)) z) : sh_Lk 173 75 [(0, .ref 45), (1, .int x1), (2, .int x2), (5, .int (sh_b2 x5)), (6, .int x6), (7, .int x7), (8, .int x8), (9, .int x9)] [.int y2, .int y1, .ref 45] m o m2 9 223 := by
  unfold sf_173_75 at e
  obtain ⟨r1, m11, e1, e⟩ := sh_bn_e e
  refine sh_Lk_cV (r := none) (st2 := []) (pc2 := 78) (k2 := 100) (a := 44) (as := [.ref 45, .int y1, .int y2]) (rest := []) rfl rfl rfl (fun hT => (sh_s44 hT.st)) rfl rfl ⟨Nat.le_of_ble_eq_true rfl, Nat.le_of_ble_eq_true rfl⟩ (sl_100 e1 ⟨rfl, rfl⟩) rfl rfl (Nat.le_of_ble_eq_true rfl) (Nat.le_of_ble_eq_true rfl) ?_
  refine sh_Lk_lift (T := m11.T) (I := m11.I) (J := m11.J) (s := m11.s) (pc2 := 19) (lv2 := [(9, .int (x9 + 1)), (0, .ref 45), (1, .int x1), (2, .int x2), (5, .int (sh_b2 x5)), (6, .int x6), (7, .int x7), (8, .int x8)]) (st2 := []) (I2 := m11.I) (J2 := m11.J) (fun hT v kk => ?_) ?_
  · refine sh_w (i := (.iinc 9 1)) (len := 3) (pc2 := 81) (lv2 := [(9, .int (x9 + 1)), (0, .ref 45), (1, .int x1), (2, .int x2), (5, .int (sh_b2 x5)), (6, .int x6), (7, .int x7), (8, .int x8)]) (st2 := []) (h2 := (sh_rep m11.T m11.I m11.J)) rfl rfl rfl ?_
    refine sh_w (i := (.goto (-62))) (len := 3) (pc2 := 19) (lv2 := [(9, .int (x9 + 1)), (0, .ref 45), (1, .int x1), (2, .int x2), (5, .int (sh_b2 x5)), (6, .int x6), (7, .int x7), (8, .int x8)]) (st2 := []) (h2 := (sh_rep m11.T m11.I m11.J)) rfl rfl rfl ?_
    exact kk
  obtain rfl := Option.some.inj e
  exact sh_Lk_sub (sh_sub_c rfl (sh_sub_c rfl (sh_sub_c rfl (sh_sub_c rfl (sh_sub_c rfl (sh_sub_c rfl (sh_sub_c rfl (sh_sub_c rfl (sh_sub_n))))))))) tg
theorem sl_173_73 {x1 : Int32} {x2 : Int32} {x5 : Bool} {x6 : Int32} {x7 : Int32} {x8 : Int32} {x9 : Int32} {y1 : Int32} {m m2 : sh_X} {o : Outcome} {z : ((Int32 × sh_X) ⊕ (Int32 × sh_X))} (e : sf_173_73 x1 x2 x5 x6 x7 x8 x9 y1 m = some z) (tg : (sh_el (fun q => sh_Lk 173 19 [(0, .ref 45), (1, .int x1), (2, .int x2), (5, .int (sh_b2 x5)), (6, .int x6), (7, .int x7), (8, .int x8), (9, .int q.1)] [] q.2 o m2 9 223) (sh_tI o m2)) z) : sh_Lk 173 73 [(0, .ref 45), (1, .int x1), (2, .int x2), (5, .int (sh_b2 x5)), (6, .int x6), (7, .int x7), (8, .int x8), (9, .int x9)] [.int y1, .ref 45] m o m2 9 223 := by
  unfold sf_173_73 at e
  refine sh_Lk_lift (T := m.T) (I := m.I) (J := m.J) (s := m.s) (pc2 := 75) (lv2 := [(0, .ref 45), (1, .int x1), (2, .int x2), (5, .int (sh_b2 x5)), (6, .int x6), (7, .int x7), (8, .int x8), (9, .int x9)]) (st2 := [.int x6, .int y1, .ref 45]) (I2 := m.I) (J2 := m.J) (fun hT v kk => ?_) ?_
  · refine sh_w (i := (.iload 6)) (len := 2) (pc2 := 75) (lv2 := [(0, .ref 45), (1, .int x1), (2, .int x2), (5, .int (sh_b2 x5)), (6, .int x6), (7, .int x7), (8, .int x8), (9, .int x9)]) (st2 := [.int x6, .int y1, .ref 45]) (h2 := (sh_rep m.T m.I m.J)) rfl rfl rfl ?_
    exact kk
  exact sh_Lk_sub (sh_sub_c rfl (sh_sub_c rfl (sh_sub_c rfl (sh_sub_c rfl (sh_sub_c rfl (sh_sub_c rfl (sh_sub_c rfl (sh_sub_c rfl (sh_sub_n))))))))) (sl_173_75 e tg)
theorem sl_173_43 {x1 : Int32} {x2 : Int32} {x5 : Bool} {x6 : Int32} {x7 : Int32} {x8 : Int32} {x9 : Int32} {y0 : Int32} {m m2 : sh_X} {o : Outcome} {z : ((Int32 × sh_X) ⊕ (Int32 × sh_X))} (e : sf_173_43 x1 x2 x5 x6 x7 x8 x9 y0 m = some z) (tg : (sh_el (fun q => sh_Lk 173 19 [(0, .ref 45), (1, .int x1), (2, .int x2), (5, .int (sh_b2 x5)), (6, .int x6), (7, .int x7), (8, .int x8), (9, .int q.1)] [] q.2 o m2 9 223) (sh_tI o m2)) z) : sh_Lk 173 43 [(0, .ref 45), (1, .int x1), (2, .int x2), (5, .int (sh_b2 x5)), (6, .int x6), (7, .int x7), (8, .int x8), (9, .int x9)] [.int y0] m o m2 9 223 := by
  unfold sf_173_43 at e
  refine sh_Lk_lift (T := m.T) (I := m.I) (J := m.J) (s := m.s) (pc2 := 53) (lv2 := [(10, .int y0), (0, .ref 45), (1, .int x1), (2, .int x2), (5, .int (sh_b2 x5)), (6, .int x6), (7, .int x7), (8, .int x8), (9, .int x9)]) (st2 := [.int y0, .int (x7 + x9), .ref 45]) (I2 := m.I) (J2 := m.J) (fun hT v kk => ?_) ?_
  · refine sh_w (i := (.istore 10)) (len := 2) (pc2 := 45) (lv2 := [(10, .int y0), (0, .ref 45), (1, .int x1), (2, .int x2), (5, .int (sh_b2 x5)), (6, .int x6), (7, .int x7), (8, .int x8), (9, .int x9)]) (st2 := []) (h2 := (sh_rep m.T m.I m.J)) rfl rfl rfl ?_
    refine sh_w (i := (.aload_n 0)) (len := 1) (pc2 := 46) (lv2 := [(10, .int y0), (0, .ref 45), (1, .int x1), (2, .int x2), (5, .int (sh_b2 x5)), (6, .int x6), (7, .int x7), (8, .int x8), (9, .int x9)]) (st2 := [.ref 45]) (h2 := (sh_rep m.T m.I m.J)) rfl rfl rfl ?_
    refine sh_w (i := (.iload 7)) (len := 2) (pc2 := 48) (lv2 := [(10, .int y0), (0, .ref 45), (1, .int x1), (2, .int x2), (5, .int (sh_b2 x5)), (6, .int x6), (7, .int x7), (8, .int x8), (9, .int x9)]) (st2 := [.int x7, .ref 45]) (h2 := (sh_rep m.T m.I m.J)) rfl rfl rfl ?_
    refine sh_w (i := (.iload 9)) (len := 2) (pc2 := 50) (lv2 := [(10, .int y0), (0, .ref 45), (1, .int x1), (2, .int x2), (5, .int (sh_b2 x5)), (6, .int x6), (7, .int x7), (8, .int x8), (9, .int x9)]) (st2 := [.int x9, .int x7, .ref 45]) (h2 := (sh_rep m.T m.I m.J)) rfl rfl rfl ?_
    refine sh_w (i := .iadd) (len := 1) (pc2 := 51) (lv2 := [(10, .int y0), (0, .ref 45), (1, .int x1), (2, .int x2), (5, .int (sh_b2 x5)), (6, .int x6), (7, .int x7), (8, .int x8), (9, .int x9)]) (st2 := [.int (x7 + x9), .ref 45]) (h2 := (sh_rep m.T m.I m.J)) rfl rfl rfl ?_
    refine sh_w (i := (.iload 10)) (len := 2) (pc2 := 53) (lv2 := [(10, .int y0), (0, .ref 45), (1, .int x1), (2, .int x2), (5, .int (sh_b2 x5)), (6, .int x6), (7, .int x7), (8, .int x8), (9, .int x9)]) (st2 := [.int y0, .int (x7 + x9), .ref 45]) (h2 := (sh_rep m.T m.I m.J)) rfl rfl rfl ?_
    exact kk
  rcases sh_ite e with ⟨c, e⟩ | ⟨c, e⟩
  · refine sh_Lk_lift (T := m.T) (I := m.I) (J := m.J) (s := m.s) (pc2 := 73) (lv2 := [(10, .int y0), (0, .ref 45), (1, .int x1), (2, .int x2), (5, .int (sh_b2 x5)), (6, .int x6), (7, .int x7), (8, .int x8), (9, .int x9)]) (st2 := [.int (x7 + x9), .ref 45]) (I2 := m.I) (J2 := m.J) (fun hT v kk => ?_) ?_
    · refine sh_j0 (c := .lt) (off := (20)) (pc2 := 73) true rfl (sh_Bltt c) rfl ?_
      exact kk
    exact sh_Lk_sub (sh_sub_c rfl (sh_sub_c rfl (sh_sub_c rfl (sh_sub_c rfl (sh_sub_c rfl (sh_sub_c rfl (sh_sub_c rfl (sh_sub_c rfl (sh_sub_n))))))))) (sl_173_73 e tg)
  · refine sh_Lk_lift (T := m.T) (I := m.I) (J := m.J) (s := m.s) (pc2 := 59) (lv2 := [(10, .int y0), (0, .ref 45), (1, .int x1), (2, .int x2), (5, .int (sh_b2 x5)), (6, .int x6), (7, .int x7), (8, .int x8), (9, .int x9)]) (st2 := [.int x2, .int y0, .int (x7 + x9), .ref 45]) (I2 := m.I) (J2 := m.J) (fun hT v kk => ?_) ?_
    · refine sh_j0 (c := .lt) (off := (20)) (pc2 := 56) false rfl (sh_Bltf c) rfl ?_
      refine sh_w (i := (.iload 10)) (len := 2) (pc2 := 58) (lv2 := [(10, .int y0), (0, .ref 45), (1, .int x1), (2, .int x2), (5, .int (sh_b2 x5)), (6, .int x6), (7, .int x7), (8, .int x8), (9, .int x9)]) (st2 := [.int y0, .int (x7 + x9), .ref 45]) (h2 := (sh_rep m.T m.I m.J)) rfl rfl rfl ?_
      refine sh_w (i := (.iload_n 2)) (len := 1) (pc2 := 59) (lv2 := [(10, .int y0), (0, .ref 45), (1, .int x1), (2, .int x2), (5, .int (sh_b2 x5)), (6, .int x6), (7, .int x7), (8, .int x8), (9, .int x9)]) (st2 := [.int x2, .int y0, .int (x7 + x9), .ref 45]) (h2 := (sh_rep m.T m.I m.J)) rfl rfl rfl ?_
      exact kk
    rcases sh_ite e with ⟨c, e⟩ | ⟨c, e⟩
    · refine sh_Lk_lift (T := m.T) (I := m.I) (J := m.J) (s := m.s) (pc2 := 67) (lv2 := [(10, .int y0), (0, .ref 45), (1, .int x1), (2, .int x2), (5, .int (sh_b2 x5)), (6, .int x6), (7, .int x7), (8, .int x8), (9, .int x9)]) (st2 := [.int (x1 + y0), .ref 45, .int (x7 + x9), .ref 45]) (I2 := m.I) (J2 := m.J) (fun hT v kk => ?_) ?_
      · refine sh_jc (c := .ge) (off := (14)) (pc2 := 62) false rfl (sh_Bgef c) rfl ?_
        refine sh_w (i := (.aload_n 0)) (len := 1) (pc2 := 63) (lv2 := [(10, .int y0), (0, .ref 45), (1, .int x1), (2, .int x2), (5, .int (sh_b2 x5)), (6, .int x6), (7, .int x7), (8, .int x8), (9, .int x9)]) (st2 := [.ref 45, .int (x7 + x9), .ref 45]) (h2 := (sh_rep m.T m.I m.J)) rfl rfl rfl ?_
        refine sh_w (i := (.iload_n 1)) (len := 1) (pc2 := 64) (lv2 := [(10, .int y0), (0, .ref 45), (1, .int x1), (2, .int x2), (5, .int (sh_b2 x5)), (6, .int x6), (7, .int x7), (8, .int x8), (9, .int x9)]) (st2 := [.int x1, .ref 45, .int (x7 + x9), .ref 45]) (h2 := (sh_rep m.T m.I m.J)) rfl rfl rfl ?_
        refine sh_w (i := (.iload 10)) (len := 2) (pc2 := 66) (lv2 := [(10, .int y0), (0, .ref 45), (1, .int x1), (2, .int x2), (5, .int (sh_b2 x5)), (6, .int x6), (7, .int x7), (8, .int x8), (9, .int x9)]) (st2 := [.int y0, .int x1, .ref 45, .int (x7 + x9), .ref 45]) (h2 := (sh_rep m.T m.I m.J)) rfl rfl rfl ?_
        refine sh_w (i := .iadd) (len := 1) (pc2 := 67) (lv2 := [(10, .int y0), (0, .ref 45), (1, .int x1), (2, .int x2), (5, .int (sh_b2 x5)), (6, .int x6), (7, .int x7), (8, .int x8), (9, .int x9)]) (st2 := [.int (x1 + y0), .ref 45, .int (x7 + x9), .ref 45]) (h2 := (sh_rep m.T m.I m.J)) rfl rfl rfl ?_
        exact kk
      obtain ⟨r1, e1, e⟩ := sh_bc_e e
      refine sh_Lk_cV (r := (some (.int r1))) (st2 := [.int r1, .int (x7 + x9), .ref 45]) (pc2 := 70) (k2 := 103) (a := 44) (as := [.ref 45, .int (x1 + y0)]) (rest := [.int (x7 + x9), .ref 45]) rfl rfl rfl (fun hT => (sh_s44 hT.st)) rfl rfl ⟨Nat.le_of_ble_eq_true rfl, Nat.le_of_ble_eq_true rfl⟩ (sl_103 e1 ⟨rfl, rfl⟩) rfl rfl (Nat.le_of_ble_eq_true rfl) (Nat.le_of_ble_eq_true rfl) ?_
      refine sh_Lk_lift (T := m.T) (I := m.I) (J := m.J) (s := m.s) (pc2 := 75) (lv2 := [(10, .int y0), (0, .ref 45), (1, .int x1), (2, .int x2), (5, .int (sh_b2 x5)), (6, .int x6), (7, .int x7), (8, .int x8), (9, .int x9)]) (st2 := [.int r1, .int (x7 + x9), .ref 45]) (I2 := m.I) (J2 := m.J) (fun hT v kk => ?_) ?_
      · refine sh_w (i := (.goto 5)) (len := 3) (pc2 := 75) (lv2 := [(10, .int y0), (0, .ref 45), (1, .int x1), (2, .int x2), (5, .int (sh_b2 x5)), (6, .int x6), (7, .int x7), (8, .int x8), (9, .int x9)]) (st2 := [.int r1, .int (x7 + x9), .ref 45]) (h2 := (sh_rep m.T m.I m.J)) rfl rfl rfl ?_
        exact kk
      exact sh_Lk_sub (sh_sub_c rfl (sh_sub_c rfl (sh_sub_c rfl (sh_sub_c rfl (sh_sub_c rfl (sh_sub_c rfl (sh_sub_c rfl (sh_sub_c rfl (sh_sub_n))))))))) (sl_173_75 e tg)
    · refine sh_Lk_lift (T := m.T) (I := m.I) (J := m.J) (s := m.s) (pc2 := 73) (lv2 := [(10, .int y0), (0, .ref 45), (1, .int x1), (2, .int x2), (5, .int (sh_b2 x5)), (6, .int x6), (7, .int x7), (8, .int x8), (9, .int x9)]) (st2 := [.int (x7 + x9), .ref 45]) (I2 := m.I) (J2 := m.J) (fun hT v kk => ?_) ?_
      · refine sh_jc (c := .ge) (off := (14)) (pc2 := 73) true rfl (sh_Bget c) rfl ?_
        exact kk
      exact sh_Lk_sub (sh_sub_c rfl (sh_sub_c rfl (sh_sub_c rfl (sh_sub_c rfl (sh_sub_c rfl (sh_sub_c rfl (sh_sub_c rfl (sh_sub_c rfl (sh_sub_n))))))))) (sl_173_73 e tg)
theorem sl_173_19s {x1 : Int32} {x2 : Int32} {x5 : Bool} {x6 : Int32} {x7 : Int32} {x8 : Int32} {x9 : Int32} {m m2 : sh_X} {o : Outcome} {z : ((Int32 × sh_X) ⊕ (Int32 × sh_X))} (e : sf_173_19s x1 x2 x5 x6 x7 x8 x9 m = some z) (tg : (sh_el (fun q => sh_Lk 173 19 [(0, .ref 45), (1, .int x1), (2, .int x2), (5, .int (sh_b2 x5)), (6, .int x6), (7, .int x7), (8, .int x8), (9, .int q.1)] [] q.2 o m2 9 223) (sh_tI o m2)) z) : sh_Lk 173 19 [(0, .ref 45), (1, .int x1), (2, .int x2), (5, .int (sh_b2 x5)), (6, .int x6), (7, .int x7), (8, .int x8), (9, .int x9)] [] m o m2 9 223 := by
  unfold sf_173_19s at e
  refine sh_Lk_lift (T := m.T) (I := m.I) (J := m.J) (s := m.s) (pc2 := 22) (lv2 := [(0, .ref 45), (1, .int x1), (2, .int x2), (5, .int (sh_b2 x5)), (6, .int x6), (7, .int x7), (8, .int x8), (9, .int x9)]) (st2 := [.int x2, .int x9]) (I2 := m.I) (J2 := m.J) (fun hT v kk => ?_) ?_
  · refine sh_w (i := (.iload 9)) (len := 2) (pc2 := 21) (lv2 := [(0, .ref 45), (1, .int x1), (2, .int x2), (5, .int (sh_b2 x5)), (6, .int x6), (7, .int x7), (8, .int x8), (9, .int x9)]) (st2 := [.int x9]) (h2 := (sh_rep m.T m.I m.J)) rfl rfl rfl ?_
    refine sh_w (i := (.iload_n 2)) (len := 1) (pc2 := 22) (lv2 := [(0, .ref 45), (1, .int x1), (2, .int x2), (5, .int (sh_b2 x5)), (6, .int x6), (7, .int x7), (8, .int x8), (9, .int x9)]) (st2 := [.int x2, .int x9]) (h2 := (sh_rep m.T m.I m.J)) rfl rfl rfl ?_
    exact kk
  rcases sh_ite e with ⟨c, e⟩ | ⟨c, e⟩
  · refine sh_Lk_lift (T := m.T) (I := m.I) (J := m.J) (s := m.s) (pc2 := 27) (lv2 := [(0, .ref 45), (1, .int x1), (2, .int x2), (5, .int (sh_b2 x5)), (6, .int x6), (7, .int x7), (8, .int x8), (9, .int x9)]) (st2 := [.int (sh_b2 x5)]) (I2 := m.I) (J2 := m.J) (fun hT v kk => ?_) ?_
    · refine sh_jc (c := .ge) (off := (62)) (pc2 := 25) false rfl (sh_Bgef c) rfl ?_
      refine sh_w (i := (.iload 5)) (len := 2) (pc2 := 27) (lv2 := [(0, .ref 45), (1, .int x1), (2, .int x2), (5, .int (sh_b2 x5)), (6, .int x6), (7, .int x7), (8, .int x8), (9, .int x9)]) (st2 := [.int (sh_b2 x5)]) (h2 := (sh_rep m.T m.I m.J)) rfl rfl rfl ?_
      exact kk
    rcases sh_ite e with ⟨c, e⟩ | ⟨c, e⟩
    · refine sh_Lk_lift (T := m.T) (I := m.I) (J := m.J) (s := m.s) (pc2 := 43) (lv2 := [(0, .ref 45), (1, .int x1), (2, .int x2), (5, .int (sh_b2 x5)), (6, .int x6), (7, .int x7), (8, .int x8), (9, .int x9)]) (st2 := [.int (x9 - x8)]) (I2 := m.I) (J2 := m.J) (fun hT v kk => ?_) ?_
      · refine sh_j0 (c := .eq) (off := (11)) (pc2 := 30) false rfl (sh_Zeqf c) rfl ?_
        refine sh_w (i := (.iload 9)) (len := 2) (pc2 := 32) (lv2 := [(0, .ref 45), (1, .int x1), (2, .int x2), (5, .int (sh_b2 x5)), (6, .int x6), (7, .int x7), (8, .int x8), (9, .int x9)]) (st2 := [.int x9]) (h2 := (sh_rep m.T m.I m.J)) rfl rfl rfl ?_
        refine sh_w (i := (.iload 8)) (len := 2) (pc2 := 34) (lv2 := [(0, .ref 45), (1, .int x1), (2, .int x2), (5, .int (sh_b2 x5)), (6, .int x6), (7, .int x7), (8, .int x8), (9, .int x9)]) (st2 := [.int x8, .int x9]) (h2 := (sh_rep m.T m.I m.J)) rfl rfl rfl ?_
        refine sh_w (i := .isub) (len := 1) (pc2 := 35) (lv2 := [(0, .ref 45), (1, .int x1), (2, .int x2), (5, .int (sh_b2 x5)), (6, .int x6), (7, .int x7), (8, .int x8), (9, .int x9)]) (st2 := [.int (x9 - x8)]) (h2 := (sh_rep m.T m.I m.J)) rfl rfl rfl ?_
        refine sh_w (i := (.goto 8)) (len := 3) (pc2 := 43) (lv2 := [(0, .ref 45), (1, .int x1), (2, .int x2), (5, .int (sh_b2 x5)), (6, .int x6), (7, .int x7), (8, .int x8), (9, .int x9)]) (st2 := [.int (x9 - x8)]) (h2 := (sh_rep m.T m.I m.J)) rfl rfl rfl ?_
        exact kk
      exact sh_Lk_sub (sh_sub_c rfl (sh_sub_c rfl (sh_sub_c rfl (sh_sub_c rfl (sh_sub_c rfl (sh_sub_c rfl (sh_sub_c rfl (sh_sub_c rfl (sh_sub_n))))))))) (sl_173_43 e tg)
    · refine sh_Lk_lift (T := m.T) (I := m.I) (J := m.J) (s := m.s) (pc2 := 43) (lv2 := [(0, .ref 45), (1, .int x1), (2, .int x2), (5, .int (sh_b2 x5)), (6, .int x6), (7, .int x7), (8, .int x8), (9, .int x9)]) (st2 := [.int (x9 + x8)]) (I2 := m.I) (J2 := m.J) (fun hT v kk => ?_) ?_
      · refine sh_j0 (c := .eq) (off := (11)) (pc2 := 38) true rfl (sh_Zeqt c) rfl ?_
        refine sh_w (i := (.iload 9)) (len := 2) (pc2 := 40) (lv2 := [(0, .ref 45), (1, .int x1), (2, .int x2), (5, .int (sh_b2 x5)), (6, .int x6), (7, .int x7), (8, .int x8), (9, .int x9)]) (st2 := [.int x9]) (h2 := (sh_rep m.T m.I m.J)) rfl rfl rfl ?_
        refine sh_w (i := (.iload 8)) (len := 2) (pc2 := 42) (lv2 := [(0, .ref 45), (1, .int x1), (2, .int x2), (5, .int (sh_b2 x5)), (6, .int x6), (7, .int x7), (8, .int x8), (9, .int x9)]) (st2 := [.int x8, .int x9]) (h2 := (sh_rep m.T m.I m.J)) rfl rfl rfl ?_
        refine sh_w (i := .iadd) (len := 1) (pc2 := 43) (lv2 := [(0, .ref 45), (1, .int x1), (2, .int x2), (5, .int (sh_b2 x5)), (6, .int x6), (7, .int x7), (8, .int x8), (9, .int x9)]) (st2 := [.int (x9 + x8)]) (h2 := (sh_rep m.T m.I m.J)) rfl rfl rfl ?_
        exact kk
      exact sh_Lk_sub (sh_sub_c rfl (sh_sub_c rfl (sh_sub_c rfl (sh_sub_c rfl (sh_sub_c rfl (sh_sub_c rfl (sh_sub_c rfl (sh_sub_c rfl (sh_sub_n))))))))) (sl_173_43 e tg)
  · refine sh_Lk_lift (T := m.T) (I := m.I) (J := m.J) (s := m.s) (pc2 := 86) (lv2 := [(0, .ref 45), (1, .int x1), (2, .int x2), (5, .int (sh_b2 x5)), (6, .int x6), (7, .int x7), (8, .int x8), (9, .int x9)]) (st2 := [.int x7]) (I2 := m.I) (J2 := m.J) (fun hT v kk => ?_) ?_
    · refine sh_jc (c := .ge) (off := (62)) (pc2 := 84) true rfl (sh_Bget c) rfl ?_
      refine sh_w (i := (.iload 7)) (len := 2) (pc2 := 86) (lv2 := [(0, .ref 45), (1, .int x1), (2, .int x2), (5, .int (sh_b2 x5)), (6, .int x6), (7, .int x7), (8, .int x8), (9, .int x9)]) (st2 := [.int x7]) (h2 := (sh_rep m.T m.I m.J)) rfl rfl rfl ?_
      exact kk
    obtain rfl := Option.some.inj e
    obtain ⟨rfl, rfl⟩ := tg
    exact sh_Lk_ret (i := .ireturn) rfl rfl rfl (Nat.le_of_ble_eq_true rfl) (Nat.le_of_ble_eq_true rfl)
theorem sl_173_19 {x1 : Int32} {x2 : Int32} {x5 : Bool} {x6 : Int32} {x7 : Int32} {x8 : Int32} {x9 : Int32} {m m2 : sh_X} {o : Outcome} {z : (Int32 × sh_X)} (e : sf_173_19 x1 x2 x5 x6 x7 x8 x9 m = some z) (tg : (sh_tI o m2) z) : sh_Lk 173 19 [(0, .ref 45), (1, .int x1), (2, .int x2), (5, .int (sh_b2 x5)), (6, .int x6), (7, .int x7), (8, .int x8), (9, .int x9)] [] m o m2 9 223 := by
  unfold sf_173_19 at e
  exact sh_while_lk (P := fun q => sh_Lk 173 19 [(0, .ref 45), (1, .int x1), (2, .int x2), (5, .int (sh_b2 x5)), (6, .int x6), (7, .int x7), (8, .int x8), (9, .int q.1)] [] q.2 o m2 9 223) (Q := (sh_tI o m2)) (fun q z e tg => sl_173_19s (x1 := x1) (x2 := x2) (x5 := x5) (x6 := x6) (x7 := x7) (x8 := x8) (x9 := q.1) (m := q.2) e tg) (s := (x9, m)) e tg
theorem sl_173 {x1 : Int32} {x2 : Int32} {x3 : Int64} {x5 : Bool} {x6 : Int32} {m m2 : sh_X} {o : Outcome} {z : (Int32 × sh_X)} (e : sf_173 x1 x2 x3 x5 x6 m = some z) (tg : (sh_tI o m2) z) : sh_Lk 173 0 [(0, .ref 45), (1, .int x1), (2, .int x2), (3, .long x3), (5, .int (sh_b2 x5)), (6, .int x6)] [] m o m2 9 223 := by
  unfold sf_173 at e
  refine sh_Lk_lift (T := m.T) (I := m.I) (J := m.J) (s := m.s) (pc2 := 2) (lv2 := [(0, .ref 45), (1, .int x1), (2, .int x2), (3, .long x3), (5, .int (sh_b2 x5)), (6, .int x6)]) (st2 := [.int x2, .ref 45]) (I2 := m.I) (J2 := m.J) (fun hT v kk => ?_) ?_
  · refine sh_w (i := (.aload_n 0)) (len := 1) (pc2 := 1) (lv2 := [(0, .ref 45), (1, .int x1), (2, .int x2), (3, .long x3), (5, .int (sh_b2 x5)), (6, .int x6)]) (st2 := [.ref 45]) (h2 := (sh_rep m.T m.I m.J)) rfl rfl rfl ?_
    refine sh_w (i := (.iload_n 2)) (len := 1) (pc2 := 2) (lv2 := [(0, .ref 45), (1, .int x1), (2, .int x2), (3, .long x3), (5, .int (sh_b2 x5)), (6, .int x6)]) (st2 := [.int x2, .ref 45]) (h2 := (sh_rep m.T m.I m.J)) rfl rfl rfl ?_
    exact kk
  obtain ⟨r1, m11, e1, e⟩ := sh_bn_e e
  refine sh_Lk_cV (r := (some (.int r1))) (st2 := [.int r1]) (pc2 := 5) (k2 := 98) (a := 44) (as := [.ref 45, .int x2]) (rest := []) rfl rfl rfl (fun hT => (sh_s44 hT.st)) rfl rfl ⟨Nat.le_of_ble_eq_true rfl, Nat.le_of_ble_eq_true rfl⟩ (sl_98 e1 ⟨rfl, rfl⟩) rfl rfl (Nat.le_of_ble_eq_true rfl) (Nat.le_of_ble_eq_true rfl) ?_
  refine sh_Lk_lift (T := m11.T) (I := m11.I) (J := m11.J) (s := m11.s) (pc2 := 10) (lv2 := [(7, .int r1), (0, .ref 45), (1, .int x1), (2, .int x2), (3, .long x3), (5, .int (sh_b2 x5)), (6, .int x6)]) (st2 := [.long (Int32.toInt64 x2), .long x3]) (I2 := m11.I) (J2 := m11.J) (fun hT v kk => ?_) ?_
  · refine sh_w (i := (.istore 7)) (len := 2) (pc2 := 7) (lv2 := [(7, .int r1), (0, .ref 45), (1, .int x1), (2, .int x2), (3, .long x3), (5, .int (sh_b2 x5)), (6, .int x6)]) (st2 := []) (h2 := (sh_rep m11.T m11.I m11.J)) rfl rfl rfl ?_
    refine sh_w (i := (.lload_n 3)) (len := 1) (pc2 := 8) (lv2 := [(7, .int r1), (0, .ref 45), (1, .int x1), (2, .int x2), (3, .long x3), (5, .int (sh_b2 x5)), (6, .int x6)]) (st2 := [.long x3]) (h2 := (sh_rep m11.T m11.I m11.J)) rfl rfl rfl ?_
    refine sh_w (i := (.iload_n 2)) (len := 1) (pc2 := 9) (lv2 := [(7, .int r1), (0, .ref 45), (1, .int x1), (2, .int x2), (3, .long x3), (5, .int (sh_b2 x5)), (6, .int x6)]) (st2 := [.int x2, .long x3]) (h2 := (sh_rep m11.T m11.I m11.J)) rfl rfl rfl ?_
    refine sh_w (i := .i2l) (len := 1) (pc2 := 10) (lv2 := [(7, .int r1), (0, .ref 45), (1, .int x1), (2, .int x2), (3, .long x3), (5, .int (sh_b2 x5)), (6, .int x6)]) (st2 := [.long (Int32.toInt64 x2), .long x3]) (h2 := (sh_rep m11.T m11.I m11.J)) rfl rfl rfl ?_
    exact kk
  refine sh_Lk_cS (r := (some (.long (sf_174 x3 (Int32.toInt64 x2))))) (st2 := [.long (sf_174 x3 (Int32.toInt64 x2))]) (pc2 := 13) (k2 := 174) (as := [.long x3, .long (Int32.toInt64 x2)]) (rest := []) rfl rfl (by decide) (Nat.le_of_ble_eq_true rfl) rfl rfl ⟨Nat.le_of_ble_eq_true rfl, Nat.le_of_ble_eq_true rfl⟩ (sl_174 (m := m11) rfl ⟨rfl, rfl⟩) rfl rfl (Nat.le_of_ble_eq_true rfl) (Nat.le_of_ble_eq_true rfl) ?_
  refine sh_Lk_lift (T := m11.T) (I := m11.I) (J := m11.J) (s := m11.s) (pc2 := 19) (lv2 := [(9, .int 0), (8, .int (Int64.toInt32 (sf_174 x3 (Int32.toInt64 x2)))), (7, .int r1), (0, .ref 45), (1, .int x1), (2, .int x2), (3, .long x3), (5, .int (sh_b2 x5)), (6, .int x6)]) (st2 := []) (I2 := m11.I) (J2 := m11.J) (fun hT v kk => ?_) ?_
  · refine sh_w (i := .l2i) (len := 1) (pc2 := 14) (lv2 := [(7, .int r1), (0, .ref 45), (1, .int x1), (2, .int x2), (3, .long x3), (5, .int (sh_b2 x5)), (6, .int x6)]) (st2 := [.int (Int64.toInt32 (sf_174 x3 (Int32.toInt64 x2)))]) (h2 := (sh_rep m11.T m11.I m11.J)) rfl rfl rfl ?_
    refine sh_w (i := (.istore 8)) (len := 2) (pc2 := 16) (lv2 := [(8, .int (Int64.toInt32 (sf_174 x3 (Int32.toInt64 x2)))), (7, .int r1), (0, .ref 45), (1, .int x1), (2, .int x2), (3, .long x3), (5, .int (sh_b2 x5)), (6, .int x6)]) (st2 := []) (h2 := (sh_rep m11.T m11.I m11.J)) rfl rfl rfl ?_
    refine sh_w (i := (.iconst 0)) (len := 1) (pc2 := 17) (lv2 := [(8, .int (Int64.toInt32 (sf_174 x3 (Int32.toInt64 x2)))), (7, .int r1), (0, .ref 45), (1, .int x1), (2, .int x2), (3, .long x3), (5, .int (sh_b2 x5)), (6, .int x6)]) (st2 := [.int 0]) (h2 := (sh_rep m11.T m11.I m11.J)) rfl rfl rfl ?_
    refine sh_w (i := (.istore 9)) (len := 2) (pc2 := 19) (lv2 := [(9, .int 0), (8, .int (Int64.toInt32 (sf_174 x3 (Int32.toInt64 x2)))), (7, .int r1), (0, .ref 45), (1, .int x1), (2, .int x2), (3, .long x3), (5, .int (sh_b2 x5)), (6, .int x6)]) (st2 := []) (h2 := (sh_rep m11.T m11.I m11.J)) rfl rfl rfl ?_
    exact kk
  exact sh_Lk_sub (sh_sub_c rfl (sh_sub_c rfl (sh_sub_c rfl (sh_sub_c rfl (sh_sub_c rfl (sh_sub_c rfl (sh_sub_c rfl (sh_sub_c rfl (sh_sub_n))))))))) (sl_173_19 e tg)
theorem sl_175_118 {x2 : Int32} {x3 : Int32} {x4 : Int32} {x5 : Bool} {x6 : Int32} {x7 : Int32} {x8 : Int32} {x9 : Int32} {x10 : Int32} {x11 : Int32} {y0 : Int32} {m m2 : sh_X} {o : Outcome} {z : ((Int32 × sh_X) ⊕ ((Int32 × sh_X) ⊕ (Int32 × sh_X)))} (e : sf_175_118 x2 x3 x4 x5 x6 x7 x8 x9 x10 x11 y0 m = some z) (tg : (sh_el (fun q => sh_Lk 175 49 [(0, .ref 45), (2, .int x2), (3, .int x3), (4, .int x4), (5, .int (sh_b2 x5)), (6, .int x6), (7, .int x7), (8, .int x8), (9, .int x9), (10, .int q.1)] [] q.2 o m2 13 311) (sh_el (fun q => sh_Lk 175 18 [(0, .ref 45), (2, .int x2), (3, .int x3), (4, .int x4), (5, .int (sh_b2 x5)), (6, .int x6), (7, .int x7), (8, .int q.1)] [] q.2 o m2 13 311) (sh_tI o m2))) z) : sh_Lk 175 118 [(0, .ref 45), (2, .int x2), (3, .int x3), (4, .int x4), (5, .int (sh_b2 x5)), (6, .int x6), (7, .int x7), (8, .int x8), (9, .int x9), (10, .int x10), (11, .int x11)] [.int y0] m o m2 13 311 := by
  unfold sf_175_118 at e
  refine sh_Lk_lift (T := m.T) (I := m.I) (J := m.J) (s := m.s) (pc2 := 135) (lv2 := [(13, .int y0), (0, .ref 45), (2, .int x2), (3, .int x3), (4, .int x4), (5, .int (sh_b2 x5)), (6, .int x6), (7, .int x7), (8, .int x8), (9, .int x9), (10, .int x10), (11, .int x11)]) (st2 := [.int (x3 + x8), .ref 45, .ref 10, .int (x7 + x11), .ref 45]) (I2 := m.I) (J2 := m.J) (fun hT v kk => ?_) ?_
  · refine sh_w (i := (.istore 13)) (len := 2) (pc2 := 120) (lv2 := [(13, .int y0), (0, .ref 45), (2, .int x2), (3, .int x3), (4, .int x4), (5, .int (sh_b2 x5)), (6, .int x6), (7, .int x7), (8, .int x8), (9, .int x9), (10, .int x10), (11, .int x11)]) (st2 := []) (h2 := (sh_rep m.T m.I m.J)) rfl rfl rfl ?_
    refine sh_w (i := (.aload_n 0)) (len := 1) (pc2 := 121) (lv2 := [(13, .int y0), (0, .ref 45), (2, .int x2), (3, .int x3), (4, .int x4), (5, .int (sh_b2 x5)), (6, .int x6), (7, .int x7), (8, .int x8), (9, .int x9), (10, .int x10), (11, .int x11)]) (st2 := [.ref 45]) (h2 := (sh_rep m.T m.I m.J)) rfl rfl rfl ?_
    refine sh_w (i := (.iload 7)) (len := 2) (pc2 := 123) (lv2 := [(13, .int y0), (0, .ref 45), (2, .int x2), (3, .int x3), (4, .int x4), (5, .int (sh_b2 x5)), (6, .int x6), (7, .int x7), (8, .int x8), (9, .int x9), (10, .int x10), (11, .int x11)]) (st2 := [.int x7, .ref 45]) (h2 := (sh_rep m.T m.I m.J)) rfl rfl rfl ?_
    refine sh_w (i := (.iload 11)) (len := 2) (pc2 := 125) (lv2 := [(13, .int y0), (0, .ref 45), (2, .int x2), (3, .int x3), (4, .int x4), (5, .int (sh_b2 x5)), (6, .int x6), (7, .int x7), (8, .int x8), (9, .int x9), (10, .int x10), (11, .int x11)]) (st2 := [.int x11, .int x7, .ref 45]) (h2 := (sh_rep m.T m.I m.J)) rfl rfl rfl ?_
    refine sh_w (i := .iadd) (len := 1) (pc2 := 126) (lv2 := [(13, .int y0), (0, .ref 45), (2, .int x2), (3, .int x3), (4, .int x4), (5, .int (sh_b2 x5)), (6, .int x6), (7, .int x7), (8, .int x8), (9, .int x9), (10, .int x10), (11, .int x11)]) (st2 := [.int (x7 + x11), .ref 45]) (h2 := (sh_rep m.T m.I m.J)) rfl rfl rfl ?_
    refine sh_w (i := (.aload_n 0)) (len := 1) (pc2 := 127) (lv2 := [(13, .int y0), (0, .ref 45), (2, .int x2), (3, .int x3), (4, .int x4), (5, .int (sh_b2 x5)), (6, .int x6), (7, .int x7), (8, .int x8), (9, .int x9), (10, .int x10), (11, .int x11)]) (st2 := [.ref 45, .int (x7 + x11), .ref 45]) (h2 := (sh_rep m.T m.I m.J)) rfl rfl rfl ?_
    refine sh_gR1 (len := 3) (x := .ref 10) (pc2 := 130) rfl rfl (sh_s44 hT.st) rfl rfl ?_
    refine sh_w (i := (.aload_n 0)) (len := 1) (pc2 := 131) (lv2 := [(13, .int y0), (0, .ref 45), (2, .int x2), (3, .int x3), (4, .int x4), (5, .int (sh_b2 x5)), (6, .int x6), (7, .int x7), (8, .int x8), (9, .int x9), (10, .int x10), (11, .int x11)]) (st2 := [.ref 45, .ref 10, .int (x7 + x11), .ref 45]) (h2 := (sh_rep m.T m.I m.J)) rfl rfl rfl ?_
    refine sh_w (i := (.iload_n 3)) (len := 1) (pc2 := 132) (lv2 := [(13, .int y0), (0, .ref 45), (2, .int x2), (3, .int x3), (4, .int x4), (5, .int (sh_b2 x5)), (6, .int x6), (7, .int x7), (8, .int x8), (9, .int x9), (10, .int x10), (11, .int x11)]) (st2 := [.int x3, .ref 45, .ref 10, .int (x7 + x11), .ref 45]) (h2 := (sh_rep m.T m.I m.J)) rfl rfl rfl ?_
    refine sh_w (i := (.iload 8)) (len := 2) (pc2 := 134) (lv2 := [(13, .int y0), (0, .ref 45), (2, .int x2), (3, .int x3), (4, .int x4), (5, .int (sh_b2 x5)), (6, .int x6), (7, .int x7), (8, .int x8), (9, .int x9), (10, .int x10), (11, .int x11)]) (st2 := [.int x8, .int x3, .ref 45, .ref 10, .int (x7 + x11), .ref 45]) (h2 := (sh_rep m.T m.I m.J)) rfl rfl rfl ?_
    refine sh_w (i := .iadd) (len := 1) (pc2 := 135) (lv2 := [(13, .int y0), (0, .ref 45), (2, .int x2), (3, .int x3), (4, .int x4), (5, .int (sh_b2 x5)), (6, .int x6), (7, .int x7), (8, .int x8), (9, .int x9), (10, .int x10), (11, .int x11)]) (st2 := [.int (x3 + x8), .ref 45, .ref 10, .int (x7 + x11), .ref 45]) (h2 := (sh_rep m.T m.I m.J)) rfl rfl rfl ?_
    exact kk
  obtain ⟨r1, e1, e⟩ := sh_bc_e e
  refine sh_Lk_cV (r := (some (.int r1))) (st2 := [.int r1, .ref 10, .int (x7 + x11), .ref 45]) (pc2 := 138) (k2 := 103) (a := 44) (as := [.ref 45, .int (x3 + x8)]) (rest := [.ref 10, .int (x7 + x11), .ref 45]) rfl rfl rfl (fun hT => (sh_s44 hT.st)) rfl rfl ⟨Nat.le_of_ble_eq_true rfl, Nat.le_of_ble_eq_true rfl⟩ (sl_103 e1 ⟨rfl, rfl⟩) rfl rfl (Nat.le_of_ble_eq_true rfl) (Nat.le_of_ble_eq_true rfl) ?_
  refine sh_Lk_lift (T := m.T) (I := m.I) (J := m.J) (s := m.s) (pc2 := 146) (lv2 := [(13, .int y0), (0, .ref 45), (2, .int x2), (3, .int x3), (4, .int x4), (5, .int (sh_b2 x5)), (6, .int x6), (7, .int x7), (8, .int x8), (9, .int x9), (10, .int x10), (11, .int x11)]) (st2 := [.int (x7 + x11), .ref 45, .int y0, .int r1, .ref 10, .int (x7 + x11), .ref 45]) (I2 := m.I) (J2 := m.J) (fun hT v kk => ?_) ?_
  · refine sh_w (i := (.iload 13)) (len := 2) (pc2 := 140) (lv2 := [(13, .int y0), (0, .ref 45), (2, .int x2), (3, .int x3), (4, .int x4), (5, .int (sh_b2 x5)), (6, .int x6), (7, .int x7), (8, .int x8), (9, .int x9), (10, .int x10), (11, .int x11)]) (st2 := [.int y0, .int r1, .ref 10, .int (x7 + x11), .ref 45]) (h2 := (sh_rep m.T m.I m.J)) rfl rfl rfl ?_
    refine sh_w (i := (.aload_n 0)) (len := 1) (pc2 := 141) (lv2 := [(13, .int y0), (0, .ref 45), (2, .int x2), (3, .int x3), (4, .int x4), (5, .int (sh_b2 x5)), (6, .int x6), (7, .int x7), (8, .int x8), (9, .int x9), (10, .int x10), (11, .int x11)]) (st2 := [.ref 45, .int y0, .int r1, .ref 10, .int (x7 + x11), .ref 45]) (h2 := (sh_rep m.T m.I m.J)) rfl rfl rfl ?_
    refine sh_w (i := (.iload 7)) (len := 2) (pc2 := 143) (lv2 := [(13, .int y0), (0, .ref 45), (2, .int x2), (3, .int x3), (4, .int x4), (5, .int (sh_b2 x5)), (6, .int x6), (7, .int x7), (8, .int x8), (9, .int x9), (10, .int x10), (11, .int x11)]) (st2 := [.int x7, .ref 45, .int y0, .int r1, .ref 10, .int (x7 + x11), .ref 45]) (h2 := (sh_rep m.T m.I m.J)) rfl rfl rfl ?_
    refine sh_w (i := (.iload 11)) (len := 2) (pc2 := 145) (lv2 := [(13, .int y0), (0, .ref 45), (2, .int x2), (3, .int x3), (4, .int x4), (5, .int (sh_b2 x5)), (6, .int x6), (7, .int x7), (8, .int x8), (9, .int x9), (10, .int x10), (11, .int x11)]) (st2 := [.int x11, .int x7, .ref 45, .int y0, .int r1, .ref 10, .int (x7 + x11), .ref 45]) (h2 := (sh_rep m.T m.I m.J)) rfl rfl rfl ?_
    refine sh_w (i := .iadd) (len := 1) (pc2 := 146) (lv2 := [(13, .int y0), (0, .ref 45), (2, .int x2), (3, .int x3), (4, .int x4), (5, .int (sh_b2 x5)), (6, .int x6), (7, .int x7), (8, .int x8), (9, .int x9), (10, .int x10), (11, .int x11)]) (st2 := [.int (x7 + x11), .ref 45, .int y0, .int r1, .ref 10, .int (x7 + x11), .ref 45]) (h2 := (sh_rep m.T m.I m.J)) rfl rfl rfl ?_
    exact kk
  obtain ⟨r2, e2, e⟩ := sh_bc_e e
  refine sh_Lk_cV (r := (some (.int r2))) (st2 := [.int r2, .int y0, .int r1, .ref 10, .int (x7 + x11), .ref 45]) (pc2 := 149) (k2 := 103) (a := 44) (as := [.ref 45, .int (x7 + x11)]) (rest := [.int y0, .int r1, .ref 10, .int (x7 + x11), .ref 45]) rfl rfl rfl (fun hT => (sh_s44 hT.st)) rfl rfl ⟨Nat.le_of_ble_eq_true rfl, Nat.le_of_ble_eq_true rfl⟩ (sl_103 e2 ⟨rfl, rfl⟩) rfl rfl (Nat.le_of_ble_eq_true rfl) (Nat.le_of_ble_eq_true rfl) ?_
  obtain ⟨r3, m13, e3, e⟩ := sh_bn_e e
  refine sh_Lk_cV (r := (some (.int r3))) (st2 := [.int r3, .int (x7 + x11), .ref 45]) (pc2 := 152) (k2 := 129) (a := 9) (as := [.ref 10, .int r1, .int y0, .int r2]) (rest := [.int (x7 + x11), .ref 45]) rfl rfl rfl (fun hT => hT.t9) rfl rfl ⟨Nat.le_of_ble_eq_true rfl, Nat.le_of_ble_eq_true rfl⟩ (sl_129 e3 ⟨rfl, rfl⟩) rfl rfl (Nat.le_of_ble_eq_true rfl) (Nat.le_of_ble_eq_true rfl) ?_
  obtain ⟨r4, m14, e4, e⟩ := sh_bn_e e
  refine sh_Lk_cV (r := none) (st2 := []) (pc2 := 155) (k2 := 100) (a := 44) (as := [.ref 45, .int (x7 + x11), .int r3]) (rest := []) rfl rfl rfl (fun hT => (sh_s44 hT.st)) rfl rfl ⟨Nat.le_of_ble_eq_true rfl, Nat.le_of_ble_eq_true rfl⟩ (sl_100 e4 ⟨rfl, rfl⟩) rfl rfl (Nat.le_of_ble_eq_true rfl) (Nat.le_of_ble_eq_true rfl) ?_
  refine sh_Lk_lift (T := m14.T) (I := m14.I) (J := m14.J) (s := m14.s) (pc2 := 49) (lv2 := [(10, .int (x10 + 1)), (13, .int y0), (0, .ref 45), (2, .int x2), (3, .int x3), (4, .int x4), (5, .int (sh_b2 x5)), (6, .int x6), (7, .int x7), (8, .int x8), (9, .int x9), (11, .int x11)]) (st2 := []) (I2 := m14.I) (J2 := m14.J) (fun hT v kk => ?_) ?_
  · refine sh_w (i := (.iinc 10 1)) (len := 3) (pc2 := 158) (lv2 := [(10, .int (x10 + 1)), (13, .int y0), (0, .ref 45), (2, .int x2), (3, .int x3), (4, .int x4), (5, .int (sh_b2 x5)), (6, .int x6), (7, .int x7), (8, .int x8), (9, .int x9), (11, .int x11)]) (st2 := []) (h2 := (sh_rep m14.T m14.I m14.J)) rfl rfl rfl ?_
    refine sh_w (i := (.goto (-109))) (len := 3) (pc2 := 49) (lv2 := [(10, .int (x10 + 1)), (13, .int y0), (0, .ref 45), (2, .int x2), (3, .int x3), (4, .int x4), (5, .int (sh_b2 x5)), (6, .int x6), (7, .int x7), (8, .int x8), (9, .int x9), (11, .int x11)]) (st2 := []) (h2 := (sh_rep m14.T m14.I m14.J)) rfl rfl rfl ?_
    exact kk
  obtain rfl := Option.some.inj e
  exact sh_Lk_sub (sh_sub_c rfl (sh_sub_c rfl (sh_sub_c rfl (sh_sub_c rfl (sh_sub_c rfl (sh_sub_c rfl (sh_sub_c rfl (sh_sub_c rfl (sh_sub_c rfl (sh_sub_c rfl (sh_sub_n))))))))))) tg
theorem sl_175_116 {x2 : Int32} {x3 : Int32} {x4 : Int32} {x5 : Bool} {x6 : Int32} {x7 : Int32} {x8 : Int32} {x9 : Int32} {x10 : Int32} {x11 : Int32} {m m2 : sh_X} {o : Outcome} {z : ((Int32 × sh_X) ⊕ ((Int32 × sh_X) ⊕ (Int32 × sh_X)))} (e : sf_175_116 x2 x3 x4 x5 x6 x7 x8 x9 x10 x11 m = some z) (tg : (sh_el (fun q => sh_Lk 175 49 [(0, .ref 45), (2, .int x2), (3, .int x3), (4, .int x4), (5, .int (sh_b2 x5)), (6, .int x6), (7, .int x7), (8, .int x8), (9, .int x9), (10, .int q.1)] [] q.2 o m2 13 311) (sh_el (fun q => sh_Lk 175 18 [(0, .ref 45), (2, .int x2), (3, .int x3), (4, .int x4), (5, .int (sh_b2 x5)), (6, .int x6), (7, .int x7), (8, .int q.1)] [] q.2 o m2 13 311) (sh_tI o m2))) z) : sh_Lk 175 116 [(0, .ref 45), (2, .int x2), (3, .int x3), (4, .int x4), (5, .int (sh_b2 x5)), (6, .int x6), (7, .int x7), (8, .int x8), (9, .int x9), (10, .int x10), (11, .int x11)] [] m o m2 13 311 := by
  unfold sf_175_116 at e
  refine sh_Lk_lift (T := m.T) (I := m.I) (J := m.J) (s := m.s) (pc2 := 118) (lv2 := [(0, .ref 45), (2, .int x2), (3, .int x3), (4, .int x4), (5, .int (sh_b2 x5)), (6, .int x6), (7, .int x7), (8, .int x8), (9, .int x9), (10, .int x10), (11, .int x11)]) (st2 := [.int x6]) (I2 := m.I) (J2 := m.J) (fun hT v kk => ?_) ?_
  · refine sh_w (i := (.iload 6)) (len := 2) (pc2 := 118) (lv2 := [(0, .ref 45), (2, .int x2), (3, .int x3), (4, .int x4), (5, .int (sh_b2 x5)), (6, .int x6), (7, .int x7), (8, .int x8), (9, .int x9), (10, .int x10), (11, .int x11)]) (st2 := [.int x6]) (h2 := (sh_rep m.T m.I m.J)) rfl rfl rfl ?_
    exact kk
  exact sh_Lk_sub (sh_sub_c rfl (sh_sub_c rfl (sh_sub_c rfl (sh_sub_c rfl (sh_sub_c rfl (sh_sub_c rfl (sh_sub_c rfl (sh_sub_c rfl (sh_sub_c rfl (sh_sub_c rfl (sh_sub_c rfl (sh_sub_n)))))))))))) (sl_175_118 e tg)
theorem sl_175_91 {x2 : Int32} {x3 : Int32} {x4 : Int32} {x5 : Bool} {x6 : Int32} {x7 : Int32} {x8 : Int32} {x9 : Int32} {x10 : Int32} {x11 : Int32} {y0 : Int32} {m m2 : sh_X} {o : Outcome} {z : ((Int32 × sh_X) ⊕ ((Int32 × sh_X) ⊕ (Int32 × sh_X)))} (e : sf_175_91 x2 x3 x4 x5 x6 x7 x8 x9 x10 x11 y0 m = some z) (tg : (sh_el (fun q => sh_Lk 175 49 [(0, .ref 45), (2, .int x2), (3, .int x3), (4, .int x4), (5, .int (sh_b2 x5)), (6, .int x6), (7, .int x7), (8, .int x8), (9, .int x9), (10, .int q.1)] [] q.2 o m2 13 311) (sh_el (fun q => sh_Lk 175 18 [(0, .ref 45), (2, .int x2), (3, .int x3), (4, .int x4), (5, .int (sh_b2 x5)), (6, .int x6), (7, .int x7), (8, .int q.1)] [] q.2 o m2 13 311) (sh_tI o m2))) z) : sh_Lk 175 91 [(0, .ref 45), (2, .int x2), (3, .int x3), (4, .int x4), (5, .int (sh_b2 x5)), (6, .int x6), (7, .int x7), (8, .int x8), (9, .int x9), (10, .int x10), (11, .int x11)] [.int y0] m o m2 13 311 := by
  unfold sf_175_91 at e
  refine sh_Lk_lift (T := m.T) (I := m.I) (J := m.J) (s := m.s) (pc2 := 95) (lv2 := [(12, .int y0), (0, .ref 45), (2, .int x2), (3, .int x3), (4, .int x4), (5, .int (sh_b2 x5)), (6, .int x6), (7, .int x7), (8, .int x8), (9, .int x9), (10, .int x10), (11, .int x11)]) (st2 := [.int y0]) (I2 := m.I) (J2 := m.J) (fun hT v kk => ?_) ?_
  · refine sh_w (i := (.istore 12)) (len := 2) (pc2 := 93) (lv2 := [(12, .int y0), (0, .ref 45), (2, .int x2), (3, .int x3), (4, .int x4), (5, .int (sh_b2 x5)), (6, .int x6), (7, .int x7), (8, .int x8), (9, .int x9), (10, .int x10), (11, .int x11)]) (st2 := []) (h2 := (sh_rep m.T m.I m.J)) rfl rfl rfl ?_
    refine sh_w (i := (.iload 12)) (len := 2) (pc2 := 95) (lv2 := [(12, .int y0), (0, .ref 45), (2, .int x2), (3, .int x3), (4, .int x4), (5, .int (sh_b2 x5)), (6, .int x6), (7, .int x7), (8, .int x8), (9, .int x9), (10, .int x10), (11, .int x11)]) (st2 := [.int y0]) (h2 := (sh_rep m.T m.I m.J)) rfl rfl rfl ?_
    exact kk
  rcases sh_ite e with ⟨c, e⟩ | ⟨c, e⟩
  · refine sh_Lk_lift (T := m.T) (I := m.I) (J := m.J) (s := m.s) (pc2 := 116) (lv2 := [(12, .int y0), (0, .ref 45), (2, .int x2), (3, .int x3), (4, .int x4), (5, .int (sh_b2 x5)), (6, .int x6), (7, .int x7), (8, .int x8), (9, .int x9), (10, .int x10), (11, .int x11)]) (st2 := []) (I2 := m.I) (J2 := m.J) (fun hT v kk => ?_) ?_
    · refine sh_j0 (c := .lt) (off := (21)) (pc2 := 116) true rfl (sh_Bltt c) rfl ?_
      exact kk
    exact sh_Lk_sub (sh_sub_c rfl (sh_sub_c rfl (sh_sub_c rfl (sh_sub_c rfl (sh_sub_c rfl (sh_sub_c rfl (sh_sub_c rfl (sh_sub_c rfl (sh_sub_c rfl (sh_sub_c rfl (sh_sub_c rfl (sh_sub_n)))))))))))) (sl_175_116 e tg)
  · refine sh_Lk_lift (T := m.T) (I := m.I) (J := m.J) (s := m.s) (pc2 := 101) (lv2 := [(12, .int y0), (0, .ref 45), (2, .int x2), (3, .int x3), (4, .int x4), (5, .int (sh_b2 x5)), (6, .int x6), (7, .int x7), (8, .int x8), (9, .int x9), (10, .int x10), (11, .int x11)]) (st2 := [.int x2, .int y0]) (I2 := m.I) (J2 := m.J) (fun hT v kk => ?_) ?_
    · refine sh_j0 (c := .lt) (off := (21)) (pc2 := 98) false rfl (sh_Bltf c) rfl ?_
      refine sh_w (i := (.iload 12)) (len := 2) (pc2 := 100) (lv2 := [(12, .int y0), (0, .ref 45), (2, .int x2), (3, .int x3), (4, .int x4), (5, .int (sh_b2 x5)), (6, .int x6), (7, .int x7), (8, .int x8), (9, .int x9), (10, .int x10), (11, .int x11)]) (st2 := [.int y0]) (h2 := (sh_rep m.T m.I m.J)) rfl rfl rfl ?_
      refine sh_w (i := (.iload_n 2)) (len := 1) (pc2 := 101) (lv2 := [(12, .int y0), (0, .ref 45), (2, .int x2), (3, .int x3), (4, .int x4), (5, .int (sh_b2 x5)), (6, .int x6), (7, .int x7), (8, .int x8), (9, .int x9), (10, .int x10), (11, .int x11)]) (st2 := [.int x2, .int y0]) (h2 := (sh_rep m.T m.I m.J)) rfl rfl rfl ?_
      exact kk
    rcases sh_ite e with ⟨c, e⟩ | ⟨c, e⟩
    · refine sh_Lk_lift (T := m.T) (I := m.I) (J := m.J) (s := m.s) (pc2 := 110) (lv2 := [(12, .int y0), (0, .ref 45), (2, .int x2), (3, .int x3), (4, .int x4), (5, .int (sh_b2 x5)), (6, .int x6), (7, .int x7), (8, .int x8), (9, .int x9), (10, .int x10), (11, .int x11)]) (st2 := [.int (x7 + y0), .ref 45]) (I2 := m.I) (J2 := m.J) (fun hT v kk => ?_) ?_
      · refine sh_jc (c := .ge) (off := (15)) (pc2 := 104) false rfl (sh_Bgef c) rfl ?_
        refine sh_w (i := (.aload_n 0)) (len := 1) (pc2 := 105) (lv2 := [(12, .int y0), (0, .ref 45), (2, .int x2), (3, .int x3), (4, .int x4), (5, .int (sh_b2 x5)), (6, .int x6), (7, .int x7), (8, .int x8), (9, .int x9), (10, .int x10), (11, .int x11)]) (st2 := [.ref 45]) (h2 := (sh_rep m.T m.I m.J)) rfl rfl rfl ?_
        refine sh_w (i := (.iload 7)) (len := 2) (pc2 := 107) (lv2 := [(12, .int y0), (0, .ref 45), (2, .int x2), (3, .int x3), (4, .int x4), (5, .int (sh_b2 x5)), (6, .int x6), (7, .int x7), (8, .int x8), (9, .int x9), (10, .int x10), (11, .int x11)]) (st2 := [.int x7, .ref 45]) (h2 := (sh_rep m.T m.I m.J)) rfl rfl rfl ?_
        refine sh_w (i := (.iload 12)) (len := 2) (pc2 := 109) (lv2 := [(12, .int y0), (0, .ref 45), (2, .int x2), (3, .int x3), (4, .int x4), (5, .int (sh_b2 x5)), (6, .int x6), (7, .int x7), (8, .int x8), (9, .int x9), (10, .int x10), (11, .int x11)]) (st2 := [.int y0, .int x7, .ref 45]) (h2 := (sh_rep m.T m.I m.J)) rfl rfl rfl ?_
        refine sh_w (i := .iadd) (len := 1) (pc2 := 110) (lv2 := [(12, .int y0), (0, .ref 45), (2, .int x2), (3, .int x3), (4, .int x4), (5, .int (sh_b2 x5)), (6, .int x6), (7, .int x7), (8, .int x8), (9, .int x9), (10, .int x10), (11, .int x11)]) (st2 := [.int (x7 + y0), .ref 45]) (h2 := (sh_rep m.T m.I m.J)) rfl rfl rfl ?_
        exact kk
      obtain ⟨r1, e1, e⟩ := sh_bc_e e
      refine sh_Lk_cV (r := (some (.int r1))) (st2 := [.int r1]) (pc2 := 113) (k2 := 103) (a := 44) (as := [.ref 45, .int (x7 + y0)]) (rest := []) rfl rfl rfl (fun hT => (sh_s44 hT.st)) rfl rfl ⟨Nat.le_of_ble_eq_true rfl, Nat.le_of_ble_eq_true rfl⟩ (sl_103 e1 ⟨rfl, rfl⟩) rfl rfl (Nat.le_of_ble_eq_true rfl) (Nat.le_of_ble_eq_true rfl) ?_
      refine sh_Lk_lift (T := m.T) (I := m.I) (J := m.J) (s := m.s) (pc2 := 118) (lv2 := [(12, .int y0), (0, .ref 45), (2, .int x2), (3, .int x3), (4, .int x4), (5, .int (sh_b2 x5)), (6, .int x6), (7, .int x7), (8, .int x8), (9, .int x9), (10, .int x10), (11, .int x11)]) (st2 := [.int r1]) (I2 := m.I) (J2 := m.J) (fun hT v kk => ?_) ?_
      · refine sh_w (i := (.goto 5)) (len := 3) (pc2 := 118) (lv2 := [(12, .int y0), (0, .ref 45), (2, .int x2), (3, .int x3), (4, .int x4), (5, .int (sh_b2 x5)), (6, .int x6), (7, .int x7), (8, .int x8), (9, .int x9), (10, .int x10), (11, .int x11)]) (st2 := [.int r1]) (h2 := (sh_rep m.T m.I m.J)) rfl rfl rfl ?_
        exact kk
      exact sh_Lk_sub (sh_sub_c rfl (sh_sub_c rfl (sh_sub_c rfl (sh_sub_c rfl (sh_sub_c rfl (sh_sub_c rfl (sh_sub_c rfl (sh_sub_c rfl (sh_sub_c rfl (sh_sub_c rfl (sh_sub_c rfl (sh_sub_n)))))))))))) (sl_175_118 e tg)
    · refine sh_Lk_lift (T := m.T) (I := m.I) (J := m.J) (s := m.s) (pc2 := 116) (lv2 := [(12, .int y0), (0, .ref 45), (2, .int x2), (3, .int x3), (4, .int x4), (5, .int (sh_b2 x5)), (6, .int x6), (7, .int x7), (8, .int x8), (9, .int x9), (10, .int x10), (11, .int x11)]) (st2 := []) (I2 := m.I) (J2 := m.J) (fun hT v kk => ?_) ?_
      · refine sh_jc (c := .ge) (off := (15)) (pc2 := 116) true rfl (sh_Bget c) rfl ?_
        exact kk
      exact sh_Lk_sub (sh_sub_c rfl (sh_sub_c rfl (sh_sub_c rfl (sh_sub_c rfl (sh_sub_c rfl (sh_sub_c rfl (sh_sub_c rfl (sh_sub_c rfl (sh_sub_c rfl (sh_sub_c rfl (sh_sub_c rfl (sh_sub_n)))))))))))) (sl_175_116 e tg)
theorem sl_175_71 {x2 : Int32} {x3 : Int32} {x4 : Int32} {x5 : Bool} {x6 : Int32} {x7 : Int32} {x8 : Int32} {x9 : Int32} {x10 : Int32} {y0 : Int32} {m m2 : sh_X} {o : Outcome} {z : ((Int32 × sh_X) ⊕ ((Int32 × sh_X) ⊕ (Int32 × sh_X)))} (e : sf_175_71 x2 x3 x4 x5 x6 x7 x8 x9 x10 y0 m = some z) (tg : (sh_el (fun q => sh_Lk 175 49 [(0, .ref 45), (2, .int x2), (3, .int x3), (4, .int x4), (5, .int (sh_b2 x5)), (6, .int x6), (7, .int x7), (8, .int x8), (9, .int x9), (10, .int q.1)] [] q.2 o m2 13 311) (sh_el (fun q => sh_Lk 175 18 [(0, .ref 45), (2, .int x2), (3, .int x3), (4, .int x4), (5, .int (sh_b2 x5)), (6, .int x6), (7, .int x7), (8, .int q.1)] [] q.2 o m2 13 311) (sh_tI o m2))) z) : sh_Lk 175 71 [(0, .ref 45), (2, .int x2), (3, .int x3), (4, .int x4), (5, .int (sh_b2 x5)), (6, .int x6), (7, .int x7), (8, .int x8), (9, .int x9), (10, .int x10)] [.int y0] m o m2 13 311 := by
  unfold sf_175_71 at e
  refine sh_Lk_lift (T := m.T) (I := m.I) (J := m.J) (s := m.s) (pc2 := 75) (lv2 := [(11, .int y0), (0, .ref 45), (2, .int x2), (3, .int x3), (4, .int x4), (5, .int (sh_b2 x5)), (6, .int x6), (7, .int x7), (8, .int x8), (9, .int x9), (10, .int x10)]) (st2 := [.int (sh_b2 x5)]) (I2 := m.I) (J2 := m.J) (fun hT v kk => ?_) ?_
  · refine sh_w (i := (.istore 11)) (len := 2) (pc2 := 73) (lv2 := [(11, .int y0), (0, .ref 45), (2, .int x2), (3, .int x3), (4, .int x4), (5, .int (sh_b2 x5)), (6, .int x6), (7, .int x7), (8, .int x8), (9, .int x9), (10, .int x10)]) (st2 := []) (h2 := (sh_rep m.T m.I m.J)) rfl rfl rfl ?_
    refine sh_w (i := (.iload 5)) (len := 2) (pc2 := 75) (lv2 := [(11, .int y0), (0, .ref 45), (2, .int x2), (3, .int x3), (4, .int x4), (5, .int (sh_b2 x5)), (6, .int x6), (7, .int x7), (8, .int x8), (9, .int x9), (10, .int x10)]) (st2 := [.int (sh_b2 x5)]) (h2 := (sh_rep m.T m.I m.J)) rfl rfl rfl ?_
    exact kk
  rcases sh_ite e with ⟨c, e⟩ | ⟨c, e⟩
  · refine sh_Lk_lift (T := m.T) (I := m.I) (J := m.J) (s := m.s) (pc2 := 91) (lv2 := [(11, .int y0), (0, .ref 45), (2, .int x2), (3, .int x3), (4, .int x4), (5, .int (sh_b2 x5)), (6, .int x6), (7, .int x7), (8, .int x8), (9, .int x9), (10, .int x10)]) (st2 := [.int (y0 - x9)]) (I2 := m.I) (J2 := m.J) (fun hT v kk => ?_) ?_
    · refine sh_j0 (c := .eq) (off := (11)) (pc2 := 78) false rfl (sh_Zeqf c) rfl ?_
      refine sh_w (i := (.iload 11)) (len := 2) (pc2 := 80) (lv2 := [(11, .int y0), (0, .ref 45), (2, .int x2), (3, .int x3), (4, .int x4), (5, .int (sh_b2 x5)), (6, .int x6), (7, .int x7), (8, .int x8), (9, .int x9), (10, .int x10)]) (st2 := [.int y0]) (h2 := (sh_rep m.T m.I m.J)) rfl rfl rfl ?_
      refine sh_w (i := (.iload 9)) (len := 2) (pc2 := 82) (lv2 := [(11, .int y0), (0, .ref 45), (2, .int x2), (3, .int x3), (4, .int x4), (5, .int (sh_b2 x5)), (6, .int x6), (7, .int x7), (8, .int x8), (9, .int x9), (10, .int x10)]) (st2 := [.int x9, .int y0]) (h2 := (sh_rep m.T m.I m.J)) rfl rfl rfl ?_
      refine sh_w (i := .isub) (len := 1) (pc2 := 83) (lv2 := [(11, .int y0), (0, .ref 45), (2, .int x2), (3, .int x3), (4, .int x4), (5, .int (sh_b2 x5)), (6, .int x6), (7, .int x7), (8, .int x8), (9, .int x9), (10, .int x10)]) (st2 := [.int (y0 - x9)]) (h2 := (sh_rep m.T m.I m.J)) rfl rfl rfl ?_
      refine sh_w (i := (.goto 8)) (len := 3) (pc2 := 91) (lv2 := [(11, .int y0), (0, .ref 45), (2, .int x2), (3, .int x3), (4, .int x4), (5, .int (sh_b2 x5)), (6, .int x6), (7, .int x7), (8, .int x8), (9, .int x9), (10, .int x10)]) (st2 := [.int (y0 - x9)]) (h2 := (sh_rep m.T m.I m.J)) rfl rfl rfl ?_
      exact kk
    exact sh_Lk_sub (sh_sub_c rfl (sh_sub_c rfl (sh_sub_c rfl (sh_sub_c rfl (sh_sub_c rfl (sh_sub_c rfl (sh_sub_c rfl (sh_sub_c rfl (sh_sub_c rfl (sh_sub_c rfl (sh_sub_c rfl (sh_sub_n)))))))))))) (sl_175_91 e tg)
  · refine sh_Lk_lift (T := m.T) (I := m.I) (J := m.J) (s := m.s) (pc2 := 91) (lv2 := [(11, .int y0), (0, .ref 45), (2, .int x2), (3, .int x3), (4, .int x4), (5, .int (sh_b2 x5)), (6, .int x6), (7, .int x7), (8, .int x8), (9, .int x9), (10, .int x10)]) (st2 := [.int (y0 + x9)]) (I2 := m.I) (J2 := m.J) (fun hT v kk => ?_) ?_
    · refine sh_j0 (c := .eq) (off := (11)) (pc2 := 86) true rfl (sh_Zeqt c) rfl ?_
      refine sh_w (i := (.iload 11)) (len := 2) (pc2 := 88) (lv2 := [(11, .int y0), (0, .ref 45), (2, .int x2), (3, .int x3), (4, .int x4), (5, .int (sh_b2 x5)), (6, .int x6), (7, .int x7), (8, .int x8), (9, .int x9), (10, .int x10)]) (st2 := [.int y0]) (h2 := (sh_rep m.T m.I m.J)) rfl rfl rfl ?_
      refine sh_w (i := (.iload 9)) (len := 2) (pc2 := 90) (lv2 := [(11, .int y0), (0, .ref 45), (2, .int x2), (3, .int x3), (4, .int x4), (5, .int (sh_b2 x5)), (6, .int x6), (7, .int x7), (8, .int x8), (9, .int x9), (10, .int x10)]) (st2 := [.int x9, .int y0]) (h2 := (sh_rep m.T m.I m.J)) rfl rfl rfl ?_
      refine sh_w (i := .iadd) (len := 1) (pc2 := 91) (lv2 := [(11, .int y0), (0, .ref 45), (2, .int x2), (3, .int x3), (4, .int x4), (5, .int (sh_b2 x5)), (6, .int x6), (7, .int x7), (8, .int x8), (9, .int x9), (10, .int x10)]) (st2 := [.int (y0 + x9)]) (h2 := (sh_rep m.T m.I m.J)) rfl rfl rfl ?_
      exact kk
    exact sh_Lk_sub (sh_sub_c rfl (sh_sub_c rfl (sh_sub_c rfl (sh_sub_c rfl (sh_sub_c rfl (sh_sub_c rfl (sh_sub_c rfl (sh_sub_c rfl (sh_sub_c rfl (sh_sub_c rfl (sh_sub_c rfl (sh_sub_n)))))))))))) (sl_175_91 e tg)
theorem sl_175_49s {x2 : Int32} {x3 : Int32} {x4 : Int32} {x5 : Bool} {x6 : Int32} {x7 : Int32} {x8 : Int32} {x9 : Int32} {x10 : Int32} {m m2 : sh_X} {o : Outcome} {z : ((Int32 × sh_X) ⊕ ((Int32 × sh_X) ⊕ (Int32 × sh_X)))} (e : sf_175_49s x2 x3 x4 x5 x6 x7 x8 x9 x10 m = some z) (tg : (sh_el (fun q => sh_Lk 175 49 [(0, .ref 45), (2, .int x2), (3, .int x3), (4, .int x4), (5, .int (sh_b2 x5)), (6, .int x6), (7, .int x7), (8, .int x8), (9, .int x9), (10, .int q.1)] [] q.2 o m2 13 311) (sh_el (fun q => sh_Lk 175 18 [(0, .ref 45), (2, .int x2), (3, .int x3), (4, .int x4), (5, .int (sh_b2 x5)), (6, .int x6), (7, .int x7), (8, .int q.1)] [] q.2 o m2 13 311) (sh_tI o m2))) z) : sh_Lk 175 49 [(0, .ref 45), (2, .int x2), (3, .int x3), (4, .int x4), (5, .int (sh_b2 x5)), (6, .int x6), (7, .int x7), (8, .int x8), (9, .int x9), (10, .int x10)] [] m o m2 13 311 := by
  unfold sf_175_49s at e
  refine sh_Lk_lift (T := m.T) (I := m.I) (J := m.J) (s := m.s) (pc2 := 52) (lv2 := [(0, .ref 45), (2, .int x2), (3, .int x3), (4, .int x4), (5, .int (sh_b2 x5)), (6, .int x6), (7, .int x7), (8, .int x8), (9, .int x9), (10, .int x10)]) (st2 := [.int x2, .int x10]) (I2 := m.I) (J2 := m.J) (fun hT v kk => ?_) ?_
  · refine sh_w (i := (.iload 10)) (len := 2) (pc2 := 51) (lv2 := [(0, .ref 45), (2, .int x2), (3, .int x3), (4, .int x4), (5, .int (sh_b2 x5)), (6, .int x6), (7, .int x7), (8, .int x8), (9, .int x9), (10, .int x10)]) (st2 := [.int x10]) (h2 := (sh_rep m.T m.I m.J)) rfl rfl rfl ?_
    refine sh_w (i := (.iload_n 2)) (len := 1) (pc2 := 52) (lv2 := [(0, .ref 45), (2, .int x2), (3, .int x3), (4, .int x4), (5, .int (sh_b2 x5)), (6, .int x6), (7, .int x7), (8, .int x8), (9, .int x9), (10, .int x10)]) (st2 := [.int x2, .int x10]) (h2 := (sh_rep m.T m.I m.J)) rfl rfl rfl ?_
    exact kk
  rcases sh_ite e with ⟨c, e⟩ | ⟨c, e⟩
  · refine sh_Lk_lift (T := m.T) (I := m.I) (J := m.J) (s := m.s) (pc2 := 57) (lv2 := [(0, .ref 45), (2, .int x2), (3, .int x3), (4, .int x4), (5, .int (sh_b2 x5)), (6, .int x6), (7, .int x7), (8, .int x8), (9, .int x9), (10, .int x10)]) (st2 := [.int (sh_b2 x5)]) (I2 := m.I) (J2 := m.J) (fun hT v kk => ?_) ?_
    · refine sh_jc (c := .ge) (off := (109)) (pc2 := 55) false rfl (sh_Bgef c) rfl ?_
      refine sh_w (i := (.iload 5)) (len := 2) (pc2 := 57) (lv2 := [(0, .ref 45), (2, .int x2), (3, .int x3), (4, .int x4), (5, .int (sh_b2 x5)), (6, .int x6), (7, .int x7), (8, .int x8), (9, .int x9), (10, .int x10)]) (st2 := [.int (sh_b2 x5)]) (h2 := (sh_rep m.T m.I m.J)) rfl rfl rfl ?_
      exact kk
    rcases sh_ite e with ⟨c, e⟩ | ⟨c, e⟩
    · refine sh_Lk_lift (T := m.T) (I := m.I) (J := m.J) (s := m.s) (pc2 := 71) (lv2 := [(0, .ref 45), (2, .int x2), (3, .int x3), (4, .int x4), (5, .int (sh_b2 x5)), (6, .int x6), (7, .int x7), (8, .int x8), (9, .int x9), (10, .int x10)]) (st2 := [.int ((x2 - 1) - x10)]) (I2 := m.I) (J2 := m.J) (fun hT v kk => ?_) ?_
      · refine sh_j0 (c := .eq) (off := (12)) (pc2 := 60) false rfl (sh_Zeqf c) rfl ?_
        refine sh_w (i := (.iload_n 2)) (len := 1) (pc2 := 61) (lv2 := [(0, .ref 45), (2, .int x2), (3, .int x3), (4, .int x4), (5, .int (sh_b2 x5)), (6, .int x6), (7, .int x7), (8, .int x8), (9, .int x9), (10, .int x10)]) (st2 := [.int x2]) (h2 := (sh_rep m.T m.I m.J)) rfl rfl rfl ?_
        refine sh_w (i := (.iconst 1)) (len := 1) (pc2 := 62) (lv2 := [(0, .ref 45), (2, .int x2), (3, .int x3), (4, .int x4), (5, .int (sh_b2 x5)), (6, .int x6), (7, .int x7), (8, .int x8), (9, .int x9), (10, .int x10)]) (st2 := [.int 1, .int x2]) (h2 := (sh_rep m.T m.I m.J)) rfl rfl rfl ?_
        refine sh_w (i := .isub) (len := 1) (pc2 := 63) (lv2 := [(0, .ref 45), (2, .int x2), (3, .int x3), (4, .int x4), (5, .int (sh_b2 x5)), (6, .int x6), (7, .int x7), (8, .int x8), (9, .int x9), (10, .int x10)]) (st2 := [.int (x2 - 1)]) (h2 := (sh_rep m.T m.I m.J)) rfl rfl rfl ?_
        refine sh_w (i := (.iload 10)) (len := 2) (pc2 := 65) (lv2 := [(0, .ref 45), (2, .int x2), (3, .int x3), (4, .int x4), (5, .int (sh_b2 x5)), (6, .int x6), (7, .int x7), (8, .int x8), (9, .int x9), (10, .int x10)]) (st2 := [.int x10, .int (x2 - 1)]) (h2 := (sh_rep m.T m.I m.J)) rfl rfl rfl ?_
        refine sh_w (i := .isub) (len := 1) (pc2 := 66) (lv2 := [(0, .ref 45), (2, .int x2), (3, .int x3), (4, .int x4), (5, .int (sh_b2 x5)), (6, .int x6), (7, .int x7), (8, .int x8), (9, .int x9), (10, .int x10)]) (st2 := [.int ((x2 - 1) - x10)]) (h2 := (sh_rep m.T m.I m.J)) rfl rfl rfl ?_
        refine sh_w (i := (.goto 5)) (len := 3) (pc2 := 71) (lv2 := [(0, .ref 45), (2, .int x2), (3, .int x3), (4, .int x4), (5, .int (sh_b2 x5)), (6, .int x6), (7, .int x7), (8, .int x8), (9, .int x9), (10, .int x10)]) (st2 := [.int ((x2 - 1) - x10)]) (h2 := (sh_rep m.T m.I m.J)) rfl rfl rfl ?_
        exact kk
      exact sh_Lk_sub (sh_sub_c rfl (sh_sub_c rfl (sh_sub_c rfl (sh_sub_c rfl (sh_sub_c rfl (sh_sub_c rfl (sh_sub_c rfl (sh_sub_c rfl (sh_sub_c rfl (sh_sub_c rfl (sh_sub_n))))))))))) (sl_175_71 e tg)
    · refine sh_Lk_lift (T := m.T) (I := m.I) (J := m.J) (s := m.s) (pc2 := 71) (lv2 := [(0, .ref 45), (2, .int x2), (3, .int x3), (4, .int x4), (5, .int (sh_b2 x5)), (6, .int x6), (7, .int x7), (8, .int x8), (9, .int x9), (10, .int x10)]) (st2 := [.int x10]) (I2 := m.I) (J2 := m.J) (fun hT v kk => ?_) ?_
      · refine sh_j0 (c := .eq) (off := (12)) (pc2 := 69) true rfl (sh_Zeqt c) rfl ?_
        refine sh_w (i := (.iload 10)) (len := 2) (pc2 := 71) (lv2 := [(0, .ref 45), (2, .int x2), (3, .int x3), (4, .int x4), (5, .int (sh_b2 x5)), (6, .int x6), (7, .int x7), (8, .int x8), (9, .int x9), (10, .int x10)]) (st2 := [.int x10]) (h2 := (sh_rep m.T m.I m.J)) rfl rfl rfl ?_
        exact kk
      exact sh_Lk_sub (sh_sub_c rfl (sh_sub_c rfl (sh_sub_c rfl (sh_sub_c rfl (sh_sub_c rfl (sh_sub_c rfl (sh_sub_c rfl (sh_sub_c rfl (sh_sub_c rfl (sh_sub_c rfl (sh_sub_n))))))))))) (sl_175_71 e tg)
  · refine sh_Lk_lift (T := m.T) (I := m.I) (J := m.J) (s := m.s) (pc2 := 18) (lv2 := [(8, .int (x8 + 1)), (0, .ref 45), (2, .int x2), (3, .int x3), (4, .int x4), (5, .int (sh_b2 x5)), (6, .int x6), (7, .int x7), (9, .int x9), (10, .int x10)]) (st2 := []) (I2 := m.I) (J2 := m.J) (fun hT v kk => ?_) ?_
    · refine sh_jc (c := .ge) (off := (109)) (pc2 := 161) true rfl (sh_Bget c) rfl ?_
      refine sh_w (i := (.iinc 8 1)) (len := 3) (pc2 := 164) (lv2 := [(8, .int (x8 + 1)), (0, .ref 45), (2, .int x2), (3, .int x3), (4, .int x4), (5, .int (sh_b2 x5)), (6, .int x6), (7, .int x7), (9, .int x9), (10, .int x10)]) (st2 := []) (h2 := (sh_rep m.T m.I m.J)) rfl rfl rfl ?_
      refine sh_w (i := (.goto (-146))) (len := 3) (pc2 := 18) (lv2 := [(8, .int (x8 + 1)), (0, .ref 45), (2, .int x2), (3, .int x3), (4, .int x4), (5, .int (sh_b2 x5)), (6, .int x6), (7, .int x7), (9, .int x9), (10, .int x10)]) (st2 := []) (h2 := (sh_rep m.T m.I m.J)) rfl rfl rfl ?_
      exact kk
    obtain rfl := Option.some.inj e
    exact sh_Lk_sub (sh_sub_c rfl (sh_sub_c rfl (sh_sub_c rfl (sh_sub_c rfl (sh_sub_c rfl (sh_sub_c rfl (sh_sub_c rfl (sh_sub_c rfl (sh_sub_n))))))))) tg
theorem sl_175_49 {x2 : Int32} {x3 : Int32} {x4 : Int32} {x5 : Bool} {x6 : Int32} {x7 : Int32} {x8 : Int32} {x9 : Int32} {x10 : Int32} {m m2 : sh_X} {o : Outcome} {z : ((Int32 × sh_X) ⊕ (Int32 × sh_X))} (e : sf_175_49 x2 x3 x4 x5 x6 x7 x8 x9 x10 m = some z) (tg : (sh_el (fun q => sh_Lk 175 18 [(0, .ref 45), (2, .int x2), (3, .int x3), (4, .int x4), (5, .int (sh_b2 x5)), (6, .int x6), (7, .int x7), (8, .int q.1)] [] q.2 o m2 13 311) (sh_tI o m2)) z) : sh_Lk 175 49 [(0, .ref 45), (2, .int x2), (3, .int x3), (4, .int x4), (5, .int (sh_b2 x5)), (6, .int x6), (7, .int x7), (8, .int x8), (9, .int x9), (10, .int x10)] [] m o m2 13 311 := by
  unfold sf_175_49 at e
  exact sh_while_lk (P := fun q => sh_Lk 175 49 [(0, .ref 45), (2, .int x2), (3, .int x3), (4, .int x4), (5, .int (sh_b2 x5)), (6, .int x6), (7, .int x7), (8, .int x8), (9, .int x9), (10, .int q.1)] [] q.2 o m2 13 311) (Q := (sh_el (fun q => sh_Lk 175 18 [(0, .ref 45), (2, .int x2), (3, .int x3), (4, .int x4), (5, .int (sh_b2 x5)), (6, .int x6), (7, .int x7), (8, .int q.1)] [] q.2 o m2 13 311) (sh_tI o m2))) (fun q z e tg => sl_175_49s (x2 := x2) (x3 := x3) (x4 := x4) (x5 := x5) (x6 := x6) (x7 := x7) (x8 := x8) (x9 := x9) (x10 := q.1) (m := q.2) e tg) (s := (x10, m)) e tg
theorem sl_175_44 {x2 : Int32} {x3 : Int32} {x4 : Int32} {x5 : Bool} {x6 : Int32} {x7 : Int32} {x8 : Int32} {y0 : Int32} {m m2 : sh_X} {o : Outcome} {z : ((Int32 × sh_X) ⊕ (Int32 × sh_X))} (e : sf_175_44 x2 x3 x4 x5 x6 x7 x8 y0 m = some z) (tg : (sh_el (fun q => sh_Lk 175 18 [(0, .ref 45), (2, .int x2), (3, .int x3), (4, .int x4), (5, .int (sh_b2 x5)), (6, .int x6), (7, .int x7), (8, .int q.1)] [] q.2 o m2 13 311) (sh_tI o m2)) z) : sh_Lk 175 44 [(0, .ref 45), (2, .int x2), (3, .int x3), (4, .int x4), (5, .int (sh_b2 x5)), (6, .int x6), (7, .int x7), (8, .int x8)] [.int y0] m o m2 13 311 := by
  unfold sf_175_44 at e
  refine sh_Lk_lift (T := m.T) (I := m.I) (J := m.J) (s := m.s) (pc2 := 49) (lv2 := [(10, .int 0), (9, .int y0), (0, .ref 45), (2, .int x2), (3, .int x3), (4, .int x4), (5, .int (sh_b2 x5)), (6, .int x6), (7, .int x7), (8, .int x8)]) (st2 := []) (I2 := m.I) (J2 := m.J) (fun hT v kk => ?_) ?_
  · refine sh_w (i := (.istore 9)) (len := 2) (pc2 := 46) (lv2 := [(9, .int y0), (0, .ref 45), (2, .int x2), (3, .int x3), (4, .int x4), (5, .int (sh_b2 x5)), (6, .int x6), (7, .int x7), (8, .int x8)]) (st2 := []) (h2 := (sh_rep m.T m.I m.J)) rfl rfl rfl ?_
    refine sh_w (i := (.iconst 0)) (len := 1) (pc2 := 47) (lv2 := [(9, .int y0), (0, .ref 45), (2, .int x2), (3, .int x3), (4, .int x4), (5, .int (sh_b2 x5)), (6, .int x6), (7, .int x7), (8, .int x8)]) (st2 := [.int 0]) (h2 := (sh_rep m.T m.I m.J)) rfl rfl rfl ?_
    refine sh_w (i := (.istore 10)) (len := 2) (pc2 := 49) (lv2 := [(10, .int 0), (9, .int y0), (0, .ref 45), (2, .int x2), (3, .int x3), (4, .int x4), (5, .int (sh_b2 x5)), (6, .int x6), (7, .int x7), (8, .int x8)]) (st2 := []) (h2 := (sh_rep m.T m.I m.J)) rfl rfl rfl ?_
    exact kk
  exact sh_Lk_sub (sh_sub_c rfl (sh_sub_c rfl (sh_sub_c rfl (sh_sub_c rfl (sh_sub_c rfl (sh_sub_c rfl (sh_sub_c rfl (sh_sub_c rfl (sh_sub_c rfl (sh_sub_c rfl (sh_sub_n))))))))))) (sl_175_49 e tg)
theorem sl_175_18s {x2 : Int32} {x3 : Int32} {x4 : Int32} {x5 : Bool} {x6 : Int32} {x7 : Int32} {x8 : Int32} {m m2 : sh_X} {o : Outcome} {z : ((Int32 × sh_X) ⊕ (Int32 × sh_X))} (e : sf_175_18s x2 x3 x4 x5 x6 x7 x8 m = some z) (tg : (sh_el (fun q => sh_Lk 175 18 [(0, .ref 45), (2, .int x2), (3, .int x3), (4, .int x4), (5, .int (sh_b2 x5)), (6, .int x6), (7, .int x7), (8, .int q.1)] [] q.2 o m2 13 311) (sh_tI o m2)) z) : sh_Lk 175 18 [(0, .ref 45), (2, .int x2), (3, .int x3), (4, .int x4), (5, .int (sh_b2 x5)), (6, .int x6), (7, .int x7), (8, .int x8)] [] m o m2 13 311 := by
  unfold sf_175_18s at e
  refine sh_Lk_lift (T := m.T) (I := m.I) (J := m.J) (s := m.s) (pc2 := 22) (lv2 := [(0, .ref 45), (2, .int x2), (3, .int x3), (4, .int x4), (5, .int (sh_b2 x5)), (6, .int x6), (7, .int x7), (8, .int x8)]) (st2 := [.int x4, .int x8]) (I2 := m.I) (J2 := m.J) (fun hT v kk => ?_) ?_
  · refine sh_w (i := (.iload 8)) (len := 2) (pc2 := 20) (lv2 := [(0, .ref 45), (2, .int x2), (3, .int x3), (4, .int x4), (5, .int (sh_b2 x5)), (6, .int x6), (7, .int x7), (8, .int x8)]) (st2 := [.int x8]) (h2 := (sh_rep m.T m.I m.J)) rfl rfl rfl ?_
    refine sh_w (i := (.iload 4)) (len := 2) (pc2 := 22) (lv2 := [(0, .ref 45), (2, .int x2), (3, .int x3), (4, .int x4), (5, .int (sh_b2 x5)), (6, .int x6), (7, .int x7), (8, .int x8)]) (st2 := [.int x4, .int x8]) (h2 := (sh_rep m.T m.I m.J)) rfl rfl rfl ?_
    exact kk
  rcases sh_ite e with ⟨c, e⟩ | ⟨c, e⟩
  · refine sh_Lk_lift (T := m.T) (I := m.I) (J := m.J) (s := m.s) (pc2 := 29) (lv2 := [(0, .ref 45), (2, .int x2), (3, .int x3), (4, .int x4), (5, .int (sh_b2 x5)), (6, .int x6), (7, .int x7), (8, .int x8)]) (st2 := [.int 6, .int x8]) (I2 := m.I) (J2 := m.J) (fun hT v kk => ?_) ?_
    · refine sh_jc (c := .ge) (off := (145)) (pc2 := 25) false rfl (sh_Bgef c) rfl ?_
      refine sh_w (i := (.iload 8)) (len := 2) (pc2 := 27) (lv2 := [(0, .ref 45), (2, .int x2), (3, .int x3), (4, .int x4), (5, .int (sh_b2 x5)), (6, .int x6), (7, .int x7), (8, .int x8)]) (st2 := [.int x8]) (h2 := (sh_rep m.T m.I m.J)) rfl rfl rfl ?_
      refine sh_w (i := (.bipush 6)) (len := 2) (pc2 := 29) (lv2 := [(0, .ref 45), (2, .int x2), (3, .int x3), (4, .int x4), (5, .int (sh_b2 x5)), (6, .int x6), (7, .int x7), (8, .int x8)]) (st2 := [.int 6, .int x8]) (h2 := (sh_rep m.T m.I m.J)) rfl rfl rfl ?_
      exact kk
    rcases sh_ite e with ⟨c, e⟩ | ⟨c, e⟩
    · refine sh_Lk_lift (T := m.T) (I := m.I) (J := m.J) (s := m.s) (pc2 := 37) (lv2 := [(0, .ref 45), (2, .int x2), (3, .int x3), (4, .int x4), (5, .int (sh_b2 x5)), (6, .int x6), (7, .int x7), (8, .int x8)]) (st2 := [.int x2, .int ((1 : Int32) <<< (x8 &&& 31))]) (I2 := m.I) (J2 := m.J) (fun hT v kk => ?_) ?_
      · refine sh_jc (c := .ge) (off := (14)) (pc2 := 32) false rfl (sh_Bgef c) rfl ?_
        refine sh_w (i := (.iconst 1)) (len := 1) (pc2 := 33) (lv2 := [(0, .ref 45), (2, .int x2), (3, .int x3), (4, .int x4), (5, .int (sh_b2 x5)), (6, .int x6), (7, .int x7), (8, .int x8)]) (st2 := [.int 1]) (h2 := (sh_rep m.T m.I m.J)) rfl rfl rfl ?_
        refine sh_w (i := (.iload 8)) (len := 2) (pc2 := 35) (lv2 := [(0, .ref 45), (2, .int x2), (3, .int x3), (4, .int x4), (5, .int (sh_b2 x5)), (6, .int x6), (7, .int x7), (8, .int x8)]) (st2 := [.int x8, .int 1]) (h2 := (sh_rep m.T m.I m.J)) rfl rfl rfl ?_
        refine sh_w (i := .ishl) (len := 1) (pc2 := 36) (lv2 := [(0, .ref 45), (2, .int x2), (3, .int x3), (4, .int x4), (5, .int (sh_b2 x5)), (6, .int x6), (7, .int x7), (8, .int x8)]) (st2 := [.int ((1 : Int32) <<< (x8 &&& 31))]) (h2 := (sh_rep m.T m.I m.J)) rfl rfl rfl ?_
        refine sh_w (i := (.iload_n 2)) (len := 1) (pc2 := 37) (lv2 := [(0, .ref 45), (2, .int x2), (3, .int x3), (4, .int x4), (5, .int (sh_b2 x5)), (6, .int x6), (7, .int x7), (8, .int x8)]) (st2 := [.int x2, .int ((1 : Int32) <<< (x8 &&& 31))]) (h2 := (sh_rep m.T m.I m.J)) rfl rfl rfl ?_
        exact kk
      refine sh_Lk_cS (r := (some (.int (sf_21 ((1 : Int32) <<< (x8 &&& 31)) x2)))) (st2 := [.int (sf_21 ((1 : Int32) <<< (x8 &&& 31)) x2)]) (pc2 := 40) (k2 := 21) (as := [.int ((1 : Int32) <<< (x8 &&& 31)), .int x2]) (rest := []) rfl rfl (by decide) (Nat.le_of_ble_eq_true rfl) rfl rfl ⟨Nat.le_of_ble_eq_true rfl, Nat.le_of_ble_eq_true rfl⟩ (sl_21 (m := m) rfl ⟨rfl, rfl⟩) rfl rfl (Nat.le_of_ble_eq_true rfl) (Nat.le_of_ble_eq_true rfl) ?_
      refine sh_Lk_lift (T := m.T) (I := m.I) (J := m.J) (s := m.s) (pc2 := 44) (lv2 := [(0, .ref 45), (2, .int x2), (3, .int x3), (4, .int x4), (5, .int (sh_b2 x5)), (6, .int x6), (7, .int x7), (8, .int x8)]) (st2 := [.int (sf_21 ((1 : Int32) <<< (x8 &&& 31)) x2)]) (I2 := m.I) (J2 := m.J) (fun hT v kk => ?_) ?_
      · refine sh_w (i := (.goto 4)) (len := 3) (pc2 := 44) (lv2 := [(0, .ref 45), (2, .int x2), (3, .int x3), (4, .int x4), (5, .int (sh_b2 x5)), (6, .int x6), (7, .int x7), (8, .int x8)]) (st2 := [.int (sf_21 ((1 : Int32) <<< (x8 &&& 31)) x2)]) (h2 := (sh_rep m.T m.I m.J)) rfl rfl rfl ?_
        exact kk
      exact sh_Lk_sub (sh_sub_c rfl (sh_sub_c rfl (sh_sub_c rfl (sh_sub_c rfl (sh_sub_c rfl (sh_sub_c rfl (sh_sub_c rfl (sh_sub_c rfl (sh_sub_n))))))))) (sl_175_44 e tg)
    · refine sh_Lk_lift (T := m.T) (I := m.I) (J := m.J) (s := m.s) (pc2 := 44) (lv2 := [(0, .ref 45), (2, .int x2), (3, .int x3), (4, .int x4), (5, .int (sh_b2 x5)), (6, .int x6), (7, .int x7), (8, .int x8)]) (st2 := [.int x2]) (I2 := m.I) (J2 := m.J) (fun hT v kk => ?_) ?_
      · refine sh_jc (c := .ge) (off := (14)) (pc2 := 43) true rfl (sh_Bget c) rfl ?_
        refine sh_w (i := (.iload_n 2)) (len := 1) (pc2 := 44) (lv2 := [(0, .ref 45), (2, .int x2), (3, .int x3), (4, .int x4), (5, .int (sh_b2 x5)), (6, .int x6), (7, .int x7), (8, .int x8)]) (st2 := [.int x2]) (h2 := (sh_rep m.T m.I m.J)) rfl rfl rfl ?_
        exact kk
      exact sh_Lk_sub (sh_sub_c rfl (sh_sub_c rfl (sh_sub_c rfl (sh_sub_c rfl (sh_sub_c rfl (sh_sub_c rfl (sh_sub_c rfl (sh_sub_c rfl (sh_sub_n))))))))) (sl_175_44 e tg)
  · refine sh_Lk_lift (T := m.T) (I := m.I) (J := m.J) (s := m.s) (pc2 := 169) (lv2 := [(0, .ref 45), (2, .int x2), (3, .int x3), (4, .int x4), (5, .int (sh_b2 x5)), (6, .int x6), (7, .int x7), (8, .int x8)]) (st2 := [.int x7]) (I2 := m.I) (J2 := m.J) (fun hT v kk => ?_) ?_
    · refine sh_jc (c := .ge) (off := (145)) (pc2 := 167) true rfl (sh_Bget c) rfl ?_
      refine sh_w (i := (.iload 7)) (len := 2) (pc2 := 169) (lv2 := [(0, .ref 45), (2, .int x2), (3, .int x3), (4, .int x4), (5, .int (sh_b2 x5)), (6, .int x6), (7, .int x7), (8, .int x8)]) (st2 := [.int x7]) (h2 := (sh_rep m.T m.I m.J)) rfl rfl rfl ?_
      exact kk
    obtain rfl := Option.some.inj e
    obtain ⟨rfl, rfl⟩ := tg
    exact sh_Lk_ret (i := .ireturn) rfl rfl rfl (Nat.le_of_ble_eq_true rfl) (Nat.le_of_ble_eq_true rfl)
theorem sl_175_18 {x2 : Int32} {x3 : Int32} {x4 : Int32} {x5 : Bool} {x6 : Int32} {x7 : Int32} {x8 : Int32} {m m2 : sh_X} {o : Outcome} {z : (Int32 × sh_X)} (e : sf_175_18 x2 x3 x4 x5 x6 x7 x8 m = some z) (tg : (sh_tI o m2) z) : sh_Lk 175 18 [(0, .ref 45), (2, .int x2), (3, .int x3), (4, .int x4), (5, .int (sh_b2 x5)), (6, .int x6), (7, .int x7), (8, .int x8)] [] m o m2 13 311 := by
  unfold sf_175_18 at e
  exact sh_while_lk (P := fun q => sh_Lk 175 18 [(0, .ref 45), (2, .int x2), (3, .int x3), (4, .int x4), (5, .int (sh_b2 x5)), (6, .int x6), (7, .int x7), (8, .int q.1)] [] q.2 o m2 13 311) (Q := (sh_tI o m2)) (fun q z e tg => sl_175_18s (x2 := x2) (x3 := x3) (x4 := x4) (x5 := x5) (x6 := x6) (x7 := x7) (x8 := q.1) (m := q.2) e tg) (s := (x8, m)) e tg
theorem sl_175 {x1 : Int32} {x2 : Int32} {x3 : Int32} {x4 : Int32} {x5 : Bool} {x6 : Int32} {m m2 : sh_X} {o : Outcome} {z : (Int32 × sh_X)} (e : sf_175 x1 x2 x3 x4 x5 x6 m = some z) (tg : (sh_tI o m2) z) : sh_Lk 175 0 [(0, .ref 45), (1, .int x1), (2, .int x2), (3, .int x3), (4, .int x4), (5, .int (sh_b2 x5)), (6, .int x6)] [] m o m2 13 311 := by
  unfold sf_175 at e
  refine sh_Lk_lift (T := m.T) (I := m.I) (J := m.J) (s := m.s) (pc2 := 2) (lv2 := [(0, .ref 45), (1, .int x1), (2, .int x2), (3, .int x3), (4, .int x4), (5, .int (sh_b2 x5)), (6, .int x6)]) (st2 := [.int x2, .ref 45]) (I2 := m.I) (J2 := m.J) (fun hT v kk => ?_) ?_
  · refine sh_w (i := (.aload_n 0)) (len := 1) (pc2 := 1) (lv2 := [(0, .ref 45), (1, .int x1), (2, .int x2), (3, .int x3), (4, .int x4), (5, .int (sh_b2 x5)), (6, .int x6)]) (st2 := [.ref 45]) (h2 := (sh_rep m.T m.I m.J)) rfl rfl rfl ?_
    refine sh_w (i := (.iload_n 2)) (len := 1) (pc2 := 2) (lv2 := [(0, .ref 45), (1, .int x1), (2, .int x2), (3, .int x3), (4, .int x4), (5, .int (sh_b2 x5)), (6, .int x6)]) (st2 := [.int x2, .ref 45]) (h2 := (sh_rep m.T m.I m.J)) rfl rfl rfl ?_
    exact kk
  obtain ⟨r1, m11, e1, e⟩ := sh_bn_e e
  refine sh_Lk_cV (r := (some (.int r1))) (st2 := [.int r1]) (pc2 := 5) (k2 := 98) (a := 44) (as := [.ref 45, .int x2]) (rest := []) rfl rfl rfl (fun hT => (sh_s44 hT.st)) rfl rfl ⟨Nat.le_of_ble_eq_true rfl, Nat.le_of_ble_eq_true rfl⟩ (sl_98 e1 ⟨rfl, rfl⟩) rfl rfl (Nat.le_of_ble_eq_true rfl) (Nat.le_of_ble_eq_true rfl) ?_
  refine sh_Lk_lift (T := m11.T) (I := m11.I) (J := m11.J) (s := m11.s) (pc2 := 12) (lv2 := [(7, .int r1), (0, .ref 45), (1, .int x1), (2, .int x2), (3, .int x3), (4, .int x4), (5, .int (sh_b2 x5)), (6, .int x6)]) (st2 := [.int x2, .int r1, .int x1, .ref 45]) (I2 := m11.I) (J2 := m11.J) (fun hT v kk => ?_) ?_
  · refine sh_w (i := (.istore 7)) (len := 2) (pc2 := 7) (lv2 := [(7, .int r1), (0, .ref 45), (1, .int x1), (2, .int x2), (3, .int x3), (4, .int x4), (5, .int (sh_b2 x5)), (6, .int x6)]) (st2 := []) (h2 := (sh_rep m11.T m11.I m11.J)) rfl rfl rfl ?_
    refine sh_w (i := (.aload_n 0)) (len := 1) (pc2 := 8) (lv2 := [(7, .int r1), (0, .ref 45), (1, .int x1), (2, .int x2), (3, .int x3), (4, .int x4), (5, .int (sh_b2 x5)), (6, .int x6)]) (st2 := [.ref 45]) (h2 := (sh_rep m11.T m11.I m11.J)) rfl rfl rfl ?_
    refine sh_w (i := (.iload_n 1)) (len := 1) (pc2 := 9) (lv2 := [(7, .int r1), (0, .ref 45), (1, .int x1), (2, .int x2), (3, .int x3), (4, .int x4), (5, .int (sh_b2 x5)), (6, .int x6)]) (st2 := [.int x1, .ref 45]) (h2 := (sh_rep m11.T m11.I m11.J)) rfl rfl rfl ?_
    refine sh_w (i := (.iload 7)) (len := 2) (pc2 := 11) (lv2 := [(7, .int r1), (0, .ref 45), (1, .int x1), (2, .int x2), (3, .int x3), (4, .int x4), (5, .int (sh_b2 x5)), (6, .int x6)]) (st2 := [.int r1, .int x1, .ref 45]) (h2 := (sh_rep m11.T m11.I m11.J)) rfl rfl rfl ?_
    refine sh_w (i := (.iload_n 2)) (len := 1) (pc2 := 12) (lv2 := [(7, .int r1), (0, .ref 45), (1, .int x1), (2, .int x2), (3, .int x3), (4, .int x4), (5, .int (sh_b2 x5)), (6, .int x6)]) (st2 := [.int x2, .int r1, .int x1, .ref 45]) (h2 := (sh_rep m11.T m11.I m11.J)) rfl rfl rfl ?_
    exact kk
  obtain ⟨r2, m12, e2, e⟩ := sh_bn_e e
  refine sh_Lk_cV (r := none) (st2 := []) (pc2 := 15) (k2 := 137) (a := 44) (as := [.ref 45, .int x1, .int r1, .int x2]) (rest := []) rfl rfl rfl (fun hT => (sh_s44 hT.st)) rfl rfl ⟨Nat.le_of_ble_eq_true rfl, Nat.le_of_ble_eq_true rfl⟩ (sl_137 e2 ⟨rfl, rfl⟩) rfl rfl (Nat.le_of_ble_eq_true rfl) (Nat.le_of_ble_eq_true rfl) ?_
  refine sh_Lk_lift (T := m12.T) (I := m12.I) (J := m12.J) (s := m12.s) (pc2 := 18) (lv2 := [(8, .int 0), (7, .int r1), (0, .ref 45), (1, .int x1), (2, .int x2), (3, .int x3), (4, .int x4), (5, .int (sh_b2 x5)), (6, .int x6)]) (st2 := []) (I2 := m12.I) (J2 := m12.J) (fun hT v kk => ?_) ?_
  · refine sh_w (i := (.iconst 0)) (len := 1) (pc2 := 16) (lv2 := [(7, .int r1), (0, .ref 45), (1, .int x1), (2, .int x2), (3, .int x3), (4, .int x4), (5, .int (sh_b2 x5)), (6, .int x6)]) (st2 := [.int 0]) (h2 := (sh_rep m12.T m12.I m12.J)) rfl rfl rfl ?_
    refine sh_w (i := (.istore 8)) (len := 2) (pc2 := 18) (lv2 := [(8, .int 0), (7, .int r1), (0, .ref 45), (1, .int x1), (2, .int x2), (3, .int x3), (4, .int x4), (5, .int (sh_b2 x5)), (6, .int x6)]) (st2 := []) (h2 := (sh_rep m12.T m12.I m12.J)) rfl rfl rfl ?_
    exact kk
  exact sh_Lk_sub (sh_sub_c rfl (sh_sub_c rfl (sh_sub_c rfl (sh_sub_c rfl (sh_sub_c rfl (sh_sub_c rfl (sh_sub_c rfl (sh_sub_c rfl (sh_sub_n))))))))) (sl_175_18 e tg)
theorem sl_172_265 {x5 : Int32} {y0 : Int32} {m m2 : sh_X} {o : Outcome} {z : (Option Unit × sh_X)} (e : sf_172_265 x5 y0 m = some z) (tg : (sh_tVt o m2) z) : sh_Lk 172 265 [(0, .ref 42), (5, .int x5)] [.int y0] m o m2 14 344 := by
  unfold sf_172_265 at e
  refine sh_Lk_lift (T := m.T) (I := m.I) (J := m.J) (s := m.s) (pc2 := 273) (lv2 := [(12, .int y0), (0, .ref 42), (5, .int x5)]) (st2 := [.int y0, .int x5, .int 2, .ref 42]) (I2 := m.I) (J2 := m.J) (fun hT v kk => ?_) ?_
  · refine sh_w (i := (.istore 12)) (len := 2) (pc2 := 267) (lv2 := [(12, .int y0), (0, .ref 42), (5, .int x5)]) (st2 := []) (h2 := (sh_rep m.T m.I m.J)) rfl rfl rfl ?_
    refine sh_w (i := (.aload_n 0)) (len := 1) (pc2 := 268) (lv2 := [(12, .int y0), (0, .ref 42), (5, .int x5)]) (st2 := [.ref 42]) (h2 := (sh_rep m.T m.I m.J)) rfl rfl rfl ?_
    refine sh_w (i := (.iconst 2)) (len := 1) (pc2 := 269) (lv2 := [(12, .int y0), (0, .ref 42), (5, .int x5)]) (st2 := [.int 2, .ref 42]) (h2 := (sh_rep m.T m.I m.J)) rfl rfl rfl ?_
    refine sh_w (i := (.iload 5)) (len := 2) (pc2 := 271) (lv2 := [(12, .int y0), (0, .ref 42), (5, .int x5)]) (st2 := [.int x5, .int 2, .ref 42]) (h2 := (sh_rep m.T m.I m.J)) rfl rfl rfl ?_
    refine sh_w (i := (.iload 12)) (len := 2) (pc2 := 273) (lv2 := [(12, .int y0), (0, .ref 42), (5, .int x5)]) (st2 := [.int y0, .int x5, .int 2, .ref 42]) (h2 := (sh_rep m.T m.I m.J)) rfl rfl rfl ?_
    exact kk
  obtain ⟨r1, m11, e1, e⟩ := sh_bn_e e
  refine sh_Lk_cV (r := none) (st2 := []) (pc2 := 276) (k2 := 167) (a := 41) (as := [.ref 42, .int 2, .int x5, .int y0]) (rest := []) rfl rfl rfl (fun hT => (sh_s41 hT.st)) rfl rfl ⟨Nat.le_of_ble_eq_true rfl, Nat.le_of_ble_eq_true rfl⟩ (sl_167 e1 ⟨rfl, rfl⟩) rfl rfl (Nat.le_of_ble_eq_true rfl) (Nat.le_of_ble_eq_true rfl) ?_
  obtain rfl := Option.some.inj e
  obtain ⟨rfl, rfl⟩ := tg
  exact sh_Lk_ret (i := .return_) rfl rfl rfl (Nat.le_of_ble_eq_true rfl) (Nat.le_of_ble_eq_true rfl)
theorem sl_172_204 {x2 : Bool} {x4 : Int32} {x5 : Int32} {x6 : Int32} {x7 : Bool} {x9 : Int32} {x10 : Int32} {y0 : Int32} {m m2 : sh_X} {o : Outcome} {z : (Option Unit × sh_X)} (e : sf_172_204 x2 x4 x5 x6 x7 x9 x10 y0 m = some z) (tg : (sh_tVt o m2) z) : sh_Lk 172 204 [(0, .ref 42), (2, .int (sh_b2 x2)), (4, .int x4), (5, .int x5), (6, .int x6), (7, .int (sh_b2 x7)), (9, .int x9), (10, .int x10)] [.int y0] m o m2 14 344 := by
  unfold sf_172_204 at e
  refine sh_Lk_lift (T := m.T) (I := m.I) (J := m.J) (s := m.s) (pc2 := 208) (lv2 := [(11, .int y0), (0, .ref 42), (2, .int (sh_b2 x2)), (4, .int x4), (5, .int x5), (6, .int x6), (7, .int (sh_b2 x7)), (9, .int x9), (10, .int x10)]) (st2 := [.int (sh_b2 x7)]) (I2 := m.I) (J2 := m.J) (fun hT v kk => ?_) ?_
  · refine sh_w (i := (.istore 11)) (len := 2) (pc2 := 206) (lv2 := [(11, .int y0), (0, .ref 42), (2, .int (sh_b2 x2)), (4, .int x4), (5, .int x5), (6, .int x6), (7, .int (sh_b2 x7)), (9, .int x9), (10, .int x10)]) (st2 := []) (h2 := (sh_rep m.T m.I m.J)) rfl rfl rfl ?_
    refine sh_w (i := (.iload 7)) (len := 2) (pc2 := 208) (lv2 := [(11, .int y0), (0, .ref 42), (2, .int (sh_b2 x2)), (4, .int x4), (5, .int x5), (6, .int x6), (7, .int (sh_b2 x7)), (9, .int x9), (10, .int x10)]) (st2 := [.int (sh_b2 x7)]) (h2 := (sh_rep m.T m.I m.J)) rfl rfl rfl ?_
    exact kk
  rcases sh_ite e with ⟨c, e⟩ | ⟨c, e⟩
  · refine sh_Lk_lift (T := m.T) (I := m.I) (J := m.J) (s := m.s) (pc2 := 225) (lv2 := [(11, .int y0), (0, .ref 42), (2, .int (sh_b2 x2)), (4, .int x4), (5, .int x5), (6, .int x6), (7, .int (sh_b2 x7)), (9, .int x9), (10, .int x10)]) (st2 := [.int x4, .ref 49, .int x9, .int x10, .ref 45]) (I2 := m.I) (J2 := m.J) (fun hT v kk => ?_) ?_
    · refine sh_j0 (c := .eq) (off := (29)) (pc2 := 211) false rfl (sh_Zeqf c) rfl ?_
      refine sh_w (i := (.aload_n 0)) (len := 1) (pc2 := 212) (lv2 := [(11, .int y0), (0, .ref 42), (2, .int (sh_b2 x2)), (4, .int x4), (5, .int x5), (6, .int x6), (7, .int (sh_b2 x7)), (9, .int x9), (10, .int x10)]) (st2 := [.ref 42]) (h2 := (sh_rep m.T m.I m.J)) rfl rfl rfl ?_
      refine sh_gR1 (len := 3) (x := .ref 45) (pc2 := 215) rfl rfl (sh_s41 hT.st) rfl rfl ?_
      refine sh_w (i := (.iload 10)) (len := 2) (pc2 := 217) (lv2 := [(11, .int y0), (0, .ref 42), (2, .int (sh_b2 x2)), (4, .int x4), (5, .int x5), (6, .int x6), (7, .int (sh_b2 x7)), (9, .int x9), (10, .int x10)]) (st2 := [.int x10, .ref 45]) (h2 := (sh_rep m.T m.I m.J)) rfl rfl rfl ?_
      refine sh_w (i := (.iload 9)) (len := 2) (pc2 := 219) (lv2 := [(11, .int y0), (0, .ref 42), (2, .int (sh_b2 x2)), (4, .int x4), (5, .int x5), (6, .int x6), (7, .int (sh_b2 x7)), (9, .int x9), (10, .int x10)]) (st2 := [.int x9, .int x10, .ref 45]) (h2 := (sh_rep m.T m.I m.J)) rfl rfl rfl ?_
      refine sh_w (i := (.aload_n 0)) (len := 1) (pc2 := 220) (lv2 := [(11, .int y0), (0, .ref 42), (2, .int (sh_b2 x2)), (4, .int x4), (5, .int x5), (6, .int x6), (7, .int (sh_b2 x7)), (9, .int x9), (10, .int x10)]) (st2 := [.ref 42, .int x9, .int x10, .ref 45]) (h2 := (sh_rep m.T m.I m.J)) rfl rfl rfl ?_
      refine sh_gR1 (len := 3) (x := .ref 49) (pc2 := 223) rfl rfl (sh_s41 hT.st) rfl rfl ?_
      refine sh_w (i := (.iload 4)) (len := 2) (pc2 := 225) (lv2 := [(11, .int y0), (0, .ref 42), (2, .int (sh_b2 x2)), (4, .int x4), (5, .int x5), (6, .int x6), (7, .int (sh_b2 x7)), (9, .int x9), (10, .int x10)]) (st2 := [.int x4, .ref 49, .int x9, .int x10, .ref 45]) (h2 := (sh_rep m.T m.I m.J)) rfl rfl rfl ?_
      exact kk
    obtain ⟨r1, e1, e⟩ := sh_bc_e e
    refine sh_Lk_cV (r := (some (.long r1))) (st2 := [.long r1, .int x9, .int x10, .ref 45]) (pc2 := 228) (k2 := 111) (a := 48) (as := [.ref 49, .int x4]) (rest := [.int x9, .int x10, .ref 45]) rfl rfl rfl (fun hT => (sh_s48 hT.st)) rfl rfl ⟨Nat.le_of_ble_eq_true rfl, Nat.le_of_ble_eq_true rfl⟩ (sl_111 e1 ⟨rfl, rfl⟩) rfl rfl (Nat.le_of_ble_eq_true rfl) (Nat.le_of_ble_eq_true rfl) ?_
    refine sh_Lk_lift (T := m.T) (I := m.I) (J := m.J) (s := m.s) (pc2 := 231) (lv2 := [(11, .int y0), (0, .ref 42), (2, .int (sh_b2 x2)), (4, .int x4), (5, .int x5), (6, .int x6), (7, .int (sh_b2 x7)), (9, .int x9), (10, .int x10)]) (st2 := [.int y0, .int (sh_b2 x2), .long r1, .int x9, .int x10, .ref 45]) (I2 := m.I) (J2 := m.J) (fun hT v kk => ?_) ?_
    · refine sh_w (i := (.iload_n 2)) (len := 1) (pc2 := 229) (lv2 := [(11, .int y0), (0, .ref 42), (2, .int (sh_b2 x2)), (4, .int x4), (5, .int x5), (6, .int x6), (7, .int (sh_b2 x7)), (9, .int x9), (10, .int x10)]) (st2 := [.int (sh_b2 x2), .long r1, .int x9, .int x10, .ref 45]) (h2 := (sh_rep m.T m.I m.J)) rfl rfl rfl ?_
      refine sh_w (i := (.iload 11)) (len := 2) (pc2 := 231) (lv2 := [(11, .int y0), (0, .ref 42), (2, .int (sh_b2 x2)), (4, .int x4), (5, .int x5), (6, .int x6), (7, .int (sh_b2 x7)), (9, .int x9), (10, .int x10)]) (st2 := [.int y0, .int (sh_b2 x2), .long r1, .int x9, .int x10, .ref 45]) (h2 := (sh_rep m.T m.I m.J)) rfl rfl rfl ?_
      exact kk
    obtain ⟨r2, m12, e2, e⟩ := sh_bn_e e
    refine sh_Lk_cV (r := (some (.int r2))) (st2 := [.int r2]) (pc2 := 234) (k2 := 173) (a := 44) (as := [.ref 45, .int x10, .int x9, .long r1, .int (sh_b2 x2), .int y0]) (rest := []) rfl rfl rfl (fun hT => (sh_s44 hT.st)) rfl rfl ⟨Nat.le_of_ble_eq_true rfl, Nat.le_of_ble_eq_true rfl⟩ (sl_173 e2 ⟨rfl, rfl⟩) rfl rfl (Nat.le_of_ble_eq_true rfl) (Nat.le_of_ble_eq_true rfl) ?_
    refine sh_Lk_lift (T := m12.T) (I := m12.I) (J := m12.J) (s := m12.s) (pc2 := 265) (lv2 := [(11, .int y0), (0, .ref 42), (2, .int (sh_b2 x2)), (4, .int x4), (5, .int x5), (6, .int x6), (7, .int (sh_b2 x7)), (9, .int x9), (10, .int x10)]) (st2 := [.int r2]) (I2 := m12.I) (J2 := m12.J) (fun hT v kk => ?_) ?_
    · refine sh_w (i := (.goto 31)) (len := 3) (pc2 := 265) (lv2 := [(11, .int y0), (0, .ref 42), (2, .int (sh_b2 x2)), (4, .int x4), (5, .int x5), (6, .int x6), (7, .int (sh_b2 x7)), (9, .int x9), (10, .int x10)]) (st2 := [.int r2]) (h2 := (sh_rep m12.T m12.I m12.J)) rfl rfl rfl ?_
      exact kk
    exact sh_Lk_sub (sh_sub_c rfl (sh_sub_c rfl (sh_sub_n))) (sl_172_265 e tg)
  · refine sh_Lk_lift (T := m.T) (I := m.I) (J := m.J) (s := m.s) (pc2 := 251) (lv2 := [(11, .int y0), (0, .ref 42), (2, .int (sh_b2 x2)), (4, .int x4), (5, .int x5), (6, .int x6), (7, .int (sh_b2 x7)), (9, .int x9), (10, .int x10)]) (st2 := [.int x4, .ref 49, .int x9, .int x10, .ref 45]) (I2 := m.I) (J2 := m.J) (fun hT v kk => ?_) ?_
    · refine sh_j0 (c := .eq) (off := (29)) (pc2 := 237) true rfl (sh_Zeqt c) rfl ?_
      refine sh_w (i := (.aload_n 0)) (len := 1) (pc2 := 238) (lv2 := [(11, .int y0), (0, .ref 42), (2, .int (sh_b2 x2)), (4, .int x4), (5, .int x5), (6, .int x6), (7, .int (sh_b2 x7)), (9, .int x9), (10, .int x10)]) (st2 := [.ref 42]) (h2 := (sh_rep m.T m.I m.J)) rfl rfl rfl ?_
      refine sh_gR1 (len := 3) (x := .ref 45) (pc2 := 241) rfl rfl (sh_s41 hT.st) rfl rfl ?_
      refine sh_w (i := (.iload 10)) (len := 2) (pc2 := 243) (lv2 := [(11, .int y0), (0, .ref 42), (2, .int (sh_b2 x2)), (4, .int x4), (5, .int x5), (6, .int x6), (7, .int (sh_b2 x7)), (9, .int x9), (10, .int x10)]) (st2 := [.int x10, .ref 45]) (h2 := (sh_rep m.T m.I m.J)) rfl rfl rfl ?_
      refine sh_w (i := (.iload 9)) (len := 2) (pc2 := 245) (lv2 := [(11, .int y0), (0, .ref 42), (2, .int (sh_b2 x2)), (4, .int x4), (5, .int x5), (6, .int x6), (7, .int (sh_b2 x7)), (9, .int x9), (10, .int x10)]) (st2 := [.int x9, .int x10, .ref 45]) (h2 := (sh_rep m.T m.I m.J)) rfl rfl rfl ?_
      refine sh_w (i := (.aload_n 0)) (len := 1) (pc2 := 246) (lv2 := [(11, .int y0), (0, .ref 42), (2, .int (sh_b2 x2)), (4, .int x4), (5, .int x5), (6, .int x6), (7, .int (sh_b2 x7)), (9, .int x9), (10, .int x10)]) (st2 := [.ref 42, .int x9, .int x10, .ref 45]) (h2 := (sh_rep m.T m.I m.J)) rfl rfl rfl ?_
      refine sh_gR1 (len := 3) (x := .ref 49) (pc2 := 249) rfl rfl (sh_s41 hT.st) rfl rfl ?_
      refine sh_w (i := (.iload 4)) (len := 2) (pc2 := 251) (lv2 := [(11, .int y0), (0, .ref 42), (2, .int (sh_b2 x2)), (4, .int x4), (5, .int x5), (6, .int x6), (7, .int (sh_b2 x7)), (9, .int x9), (10, .int x10)]) (st2 := [.int x4, .ref 49, .int x9, .int x10, .ref 45]) (h2 := (sh_rep m.T m.I m.J)) rfl rfl rfl ?_
      exact kk
    obtain ⟨r3, e3, e⟩ := sh_bc_e e
    refine sh_Lk_cV (r := (some (.int r3))) (st2 := [.int r3, .int x9, .int x10, .ref 45]) (pc2 := 254) (k2 := 117) (a := 48) (as := [.ref 49, .int x4]) (rest := [.int x9, .int x10, .ref 45]) rfl rfl rfl (fun hT => (sh_s48 hT.st)) rfl rfl ⟨Nat.le_of_ble_eq_true rfl, Nat.le_of_ble_eq_true rfl⟩ (sl_117 e3 ⟨rfl, rfl⟩) rfl rfl (Nat.le_of_ble_eq_true rfl) (Nat.le_of_ble_eq_true rfl) ?_
    refine sh_Lk_lift (T := m.T) (I := m.I) (J := m.J) (s := m.s) (pc2 := 256) (lv2 := [(11, .int y0), (0, .ref 42), (2, .int (sh_b2 x2)), (4, .int x4), (5, .int x5), (6, .int x6), (7, .int (sh_b2 x7)), (9, .int x9), (10, .int x10)]) (st2 := [.int x6, .int r3, .int x9, .int x10, .ref 45]) (I2 := m.I) (J2 := m.J) (fun hT v kk => ?_) ?_
    · refine sh_w (i := (.iload 6)) (len := 2) (pc2 := 256) (lv2 := [(11, .int y0), (0, .ref 42), (2, .int (sh_b2 x2)), (4, .int x4), (5, .int x5), (6, .int x6), (7, .int (sh_b2 x7)), (9, .int x9), (10, .int x10)]) (st2 := [.int x6, .int r3, .int x9, .int x10, .ref 45]) (h2 := (sh_rep m.T m.I m.J)) rfl rfl rfl ?_
      exact kk
    refine sh_Lk_cS (r := (some (.int (sf_94 x6)))) (st2 := [.int (sf_94 x6), .int r3, .int x9, .int x10, .ref 45]) (pc2 := 259) (k2 := 94) (as := [.int x6]) (rest := [.int r3, .int x9, .int x10, .ref 45]) rfl rfl (by decide) (Nat.le_of_ble_eq_true rfl) rfl rfl ⟨Nat.le_of_ble_eq_true rfl, Nat.le_of_ble_eq_true rfl⟩ (sl_94 (m := m) rfl ⟨rfl, rfl⟩) rfl rfl (Nat.le_of_ble_eq_true rfl) (Nat.le_of_ble_eq_true rfl) ?_
    refine sh_Lk_lift (T := m.T) (I := m.I) (J := m.J) (s := m.s) (pc2 := 262) (lv2 := [(11, .int y0), (0, .ref 42), (2, .int (sh_b2 x2)), (4, .int x4), (5, .int x5), (6, .int x6), (7, .int (sh_b2 x7)), (9, .int x9), (10, .int x10)]) (st2 := [.int y0, .int (sh_b2 x2), .int (sf_94 x6), .int r3, .int x9, .int x10, .ref 45]) (I2 := m.I) (J2 := m.J) (fun hT v kk => ?_) ?_
    · refine sh_w (i := (.iload_n 2)) (len := 1) (pc2 := 260) (lv2 := [(11, .int y0), (0, .ref 42), (2, .int (sh_b2 x2)), (4, .int x4), (5, .int x5), (6, .int x6), (7, .int (sh_b2 x7)), (9, .int x9), (10, .int x10)]) (st2 := [.int (sh_b2 x2), .int (sf_94 x6), .int r3, .int x9, .int x10, .ref 45]) (h2 := (sh_rep m.T m.I m.J)) rfl rfl rfl ?_
      refine sh_w (i := (.iload 11)) (len := 2) (pc2 := 262) (lv2 := [(11, .int y0), (0, .ref 42), (2, .int (sh_b2 x2)), (4, .int x4), (5, .int x5), (6, .int x6), (7, .int (sh_b2 x7)), (9, .int x9), (10, .int x10)]) (st2 := [.int y0, .int (sh_b2 x2), .int (sf_94 x6), .int r3, .int x9, .int x10, .ref 45]) (h2 := (sh_rep m.T m.I m.J)) rfl rfl rfl ?_
      exact kk
    obtain ⟨r5, m15, e5, e⟩ := sh_bn_e e
    refine sh_Lk_cV (r := (some (.int r5))) (st2 := [.int r5]) (pc2 := 265) (k2 := 175) (a := 44) (as := [.ref 45, .int x10, .int x9, .int r3, .int (sf_94 x6), .int (sh_b2 x2), .int y0]) (rest := []) rfl rfl rfl (fun hT => (sh_s44 hT.st)) rfl rfl ⟨Nat.le_of_ble_eq_true rfl, Nat.le_of_ble_eq_true rfl⟩ (sl_175 e5 ⟨rfl, rfl⟩) rfl rfl (Nat.le_of_ble_eq_true rfl) (Nat.le_of_ble_eq_true rfl) ?_
    exact sh_Lk_sub (sh_sub_c rfl (sh_sub_c rfl (sh_sub_n))) (sl_172_265 e tg)
theorem sl_172_203 {x2 : Bool} {x4 : Int32} {x5 : Int32} {x6 : Int32} {x7 : Bool} {x9 : Int32} {x10 : Int32} {m m2 : sh_X} {o : Outcome} {z : (Option Unit × sh_X)} (e : sf_172_203 x2 x4 x5 x6 x7 x9 x10 m = some z) (tg : (sh_tVt o m2) z) : sh_Lk 172 203 [(0, .ref 42), (2, .int (sh_b2 x2)), (4, .int x4), (5, .int x5), (6, .int x6), (7, .int (sh_b2 x7)), (9, .int x9), (10, .int x10)] [] m o m2 14 344 := by
  unfold sf_172_203 at e
  refine sh_Lk_lift (T := m.T) (I := m.I) (J := m.J) (s := m.s) (pc2 := 204) (lv2 := [(0, .ref 42), (2, .int (sh_b2 x2)), (4, .int x4), (5, .int x5), (6, .int x6), (7, .int (sh_b2 x7)), (9, .int x9), (10, .int x10)]) (st2 := [.int 0]) (I2 := m.I) (J2 := m.J) (fun hT v kk => ?_) ?_
  · refine sh_w (i := (.iconst 0)) (len := 1) (pc2 := 204) (lv2 := [(0, .ref 42), (2, .int (sh_b2 x2)), (4, .int x4), (5, .int x5), (6, .int x6), (7, .int (sh_b2 x7)), (9, .int x9), (10, .int x10)]) (st2 := [.int 0]) (h2 := (sh_rep m.T m.I m.J)) rfl rfl rfl ?_
    exact kk
  exact sh_Lk_sub (sh_sub_c rfl (sh_sub_c rfl (sh_sub_c rfl (sh_sub_c rfl (sh_sub_c rfl (sh_sub_c rfl (sh_sub_c rfl (sh_sub_c rfl (sh_sub_n))))))))) (sl_172_204 e tg)
theorem sl_172_160 {x1 : Int32} {x2 : Bool} {x3 : Int32} {x4 : Int32} {x5 : Int32} {x6 : Int32} {x7 : Bool} {x9 : Int32} {y1 : Int32} {m m2 : sh_X} {o : Outcome} {z : (Option Unit × sh_X)} (e : sf_172_160 x1 x2 x3 x4 x5 x6 x7 x9 y1 m = some z) (tg : (sh_tVt o m2) z) : sh_Lk 172 160 [(0, .ref 42), (1, .int x1), (2, .int (sh_b2 x2)), (3, .int x3), (4, .int x4), (5, .int x5), (6, .int x6), (7, .int (sh_b2 x7)), (9, .int x9)] [.int y1, .ref 42] m o m2 14 344 := by
  unfold sf_172_160 at e
  refine sh_Lk_lift (T := m.T) (I := m.I) (J := m.J) (s := m.s) (pc2 := 161) (lv2 := [(0, .ref 42), (1, .int x1), (2, .int (sh_b2 x2)), (3, .int x3), (4, .int x4), (5, .int x5), (6, .int x6), (7, .int (sh_b2 x7)), (9, .int x9)]) (st2 := [.int x1, .int y1, .ref 42]) (I2 := m.I) (J2 := m.J) (fun hT v kk => ?_) ?_
  · refine sh_w (i := (.iload_n 1)) (len := 1) (pc2 := 161) (lv2 := [(0, .ref 42), (1, .int x1), (2, .int (sh_b2 x2)), (3, .int x3), (4, .int x4), (5, .int x5), (6, .int x6), (7, .int (sh_b2 x7)), (9, .int x9)]) (st2 := [.int x1, .int y1, .ref 42]) (h2 := (sh_rep m.T m.I m.J)) rfl rfl rfl ?_
    exact kk
  rcases sh_bt_e e with ⟨m11, e1, rfl⟩ | ⟨r1, m11, e1, e⟩
  · obtain ⟨rfl, rfl⟩ := tg
    exact sh_Lk_tV (k2 := 90) (a := 41) (as := [.ref 42, .int y1, .int x1]) (rest := []) rfl rfl rfl (fun hT => (sh_s41 hT.st)) rfl rfl ⟨Nat.le_of_ble_eq_true rfl, Nat.le_of_ble_eq_true rfl⟩ (sl_90 e1 ⟨rfl, rfl⟩) rfl (Nat.le_of_ble_eq_true rfl) (Nat.le_of_ble_eq_true rfl) (Nat.le_of_ble_eq_true rfl) (Nat.le_of_ble_eq_true rfl) rfl
  refine sh_Lk_cV (r := none) (st2 := []) (pc2 := 164) (k2 := 90) (a := 41) (as := [.ref 42, .int y1, .int x1]) (rest := []) rfl rfl rfl (fun hT => (sh_s41 hT.st)) rfl rfl ⟨Nat.le_of_ble_eq_true rfl, Nat.le_of_ble_eq_true rfl⟩ (sl_90 e1 ⟨rfl, rfl⟩) rfl rfl (Nat.le_of_ble_eq_true rfl) (Nat.le_of_ble_eq_true rfl) ?_
  refine sh_Lk_lift (T := m11.T) (I := m11.I) (J := m11.J) (s := m11.s) (pc2 := 169) (lv2 := [(0, .ref 42), (1, .int x1), (2, .int (sh_b2 x2)), (3, .int x3), (4, .int x4), (5, .int x5), (6, .int x6), (7, .int (sh_b2 x7)), (9, .int x9)]) (st2 := [.int x3, .ref 49]) (I2 := m11.I) (J2 := m11.J) (fun hT v kk => ?_) ?_
  · refine sh_w (i := (.aload_n 0)) (len := 1) (pc2 := 165) (lv2 := [(0, .ref 42), (1, .int x1), (2, .int (sh_b2 x2)), (3, .int x3), (4, .int x4), (5, .int x5), (6, .int x6), (7, .int (sh_b2 x7)), (9, .int x9)]) (st2 := [.ref 42]) (h2 := (sh_rep m11.T m11.I m11.J)) rfl rfl rfl ?_
    refine sh_gR1 (len := 3) (x := .ref 49) (pc2 := 168) rfl rfl (sh_s41 hT.st) rfl rfl ?_
    refine sh_w (i := (.iload_n 3)) (len := 1) (pc2 := 169) (lv2 := [(0, .ref 42), (1, .int x1), (2, .int (sh_b2 x2)), (3, .int x3), (4, .int x4), (5, .int x5), (6, .int x6), (7, .int (sh_b2 x7)), (9, .int x9)]) (st2 := [.int x3, .ref 49]) (h2 := (sh_rep m11.T m11.I m11.J)) rfl rfl rfl ?_
    exact kk
  obtain ⟨r2, e2, e⟩ := sh_bc_e e
  refine sh_Lk_cV (r := (some (.int r2))) (st2 := [.int r2]) (pc2 := 172) (k2 := 117) (a := 48) (as := [.ref 49, .int x3]) (rest := []) rfl rfl rfl (fun hT => (sh_s48 hT.st)) rfl rfl ⟨Nat.le_of_ble_eq_true rfl, Nat.le_of_ble_eq_true rfl⟩ (sl_117 e2 ⟨rfl, rfl⟩) rfl rfl (Nat.le_of_ble_eq_true rfl) (Nat.le_of_ble_eq_true rfl) ?_
  refine sh_Lk_lift (T := m11.T) (I := m11.I) (J := m11.J) (s := m11.s) (pc2 := 175) (lv2 := [(10, .int r2), (0, .ref 42), (1, .int x1), (2, .int (sh_b2 x2)), (3, .int x3), (4, .int x4), (5, .int x5), (6, .int x6), (7, .int (sh_b2 x7)), (9, .int x9)]) (st2 := [.int (sh_b2 x2)]) (I2 := m11.I) (J2 := m11.J) (fun hT v kk => ?_) ?_
  · refine sh_w (i := (.istore 10)) (len := 2) (pc2 := 174) (lv2 := [(10, .int r2), (0, .ref 42), (1, .int x1), (2, .int (sh_b2 x2)), (3, .int x3), (4, .int x4), (5, .int x5), (6, .int x6), (7, .int (sh_b2 x7)), (9, .int x9)]) (st2 := []) (h2 := (sh_rep m11.T m11.I m11.J)) rfl rfl rfl ?_
    refine sh_w (i := (.iload_n 2)) (len := 1) (pc2 := 175) (lv2 := [(10, .int r2), (0, .ref 42), (1, .int x1), (2, .int (sh_b2 x2)), (3, .int x3), (4, .int x4), (5, .int x5), (6, .int x6), (7, .int (sh_b2 x7)), (9, .int x9)]) (st2 := [.int (sh_b2 x2)]) (h2 := (sh_rep m11.T m11.I m11.J)) rfl rfl rfl ?_
    exact kk
  rcases sh_ite e with ⟨c, e⟩ | ⟨c, e⟩
  · refine sh_Lk_lift (T := m11.T) (I := m11.I) (J := m11.J) (s := m11.s) (pc2 := 203) (lv2 := [(10, .int r2), (0, .ref 42), (1, .int x1), (2, .int (sh_b2 x2)), (3, .int x3), (4, .int x4), (5, .int x5), (6, .int x6), (7, .int (sh_b2 x7)), (9, .int x9)]) (st2 := []) (I2 := m11.I) (J2 := m11.J) (fun hT v kk => ?_) ?_
    · refine sh_j0 (c := .ne) (off := (28)) (pc2 := 203) true rfl (sh_Znet c) rfl ?_
      exact kk
    exact sh_Lk_sub (sh_sub_c rfl (sh_sub_c rfl (sh_sub_c rfl (sh_sub_c rfl (sh_sub_c rfl (sh_sub_c rfl (sh_sub_c rfl (sh_sub_c rfl (sh_sub_n))))))))) (sl_172_203 e tg)
  · refine sh_Lk_lift (T := m11.T) (I := m11.I) (J := m11.J) (s := m11.s) (pc2 := 180) (lv2 := [(10, .int r2), (0, .ref 42), (1, .int x1), (2, .int (sh_b2 x2)), (3, .int x3), (4, .int x4), (5, .int x5), (6, .int x6), (7, .int (sh_b2 x7)), (9, .int x9)]) (st2 := [.int x5]) (I2 := m11.I) (J2 := m11.J) (fun hT v kk => ?_) ?_
    · refine sh_j0 (c := .ne) (off := (28)) (pc2 := 178) false rfl (sh_Znef c) rfl ?_
      refine sh_w (i := (.iload 5)) (len := 2) (pc2 := 180) (lv2 := [(10, .int r2), (0, .ref 42), (1, .int x1), (2, .int (sh_b2 x2)), (3, .int x3), (4, .int x4), (5, .int x5), (6, .int x6), (7, .int (sh_b2 x7)), (9, .int x9)]) (st2 := [.int x5]) (h2 := (sh_rep m11.T m11.I m11.J)) rfl rfl rfl ?_
      exact kk
    refine sh_Lk_cS (r := (some (.int (sh_b2 (sf_114 x5))))) (st2 := [.int (sh_b2 (sf_114 x5))]) (pc2 := 183) (k2 := 114) (as := [.int x5]) (rest := []) rfl rfl (by decide) (Nat.le_of_ble_eq_true rfl) rfl rfl ⟨Nat.le_of_ble_eq_true rfl, Nat.le_of_ble_eq_true rfl⟩ (sl_114 (m := m11) rfl ⟨rfl, rfl⟩) rfl rfl (Nat.le_of_ble_eq_true rfl) (Nat.le_of_ble_eq_true rfl) ?_
    rcases sh_ite e with ⟨c, e⟩ | ⟨c, e⟩
    · refine sh_Lk_lift (T := m11.T) (I := m11.I) (J := m11.J) (s := m11.s) (pc2 := 197) (lv2 := [(10, .int r2), (0, .ref 42), (1, .int x1), (2, .int (sh_b2 x2)), (3, .int x3), (4, .int x4), (5, .int x5), (6, .int x6), (7, .int (sh_b2 x7)), (9, .int x9)]) (st2 := [.int ((r2 + x9) - 1), .ref 45]) (I2 := m11.I) (J2 := m11.J) (fun hT v kk => ?_) ?_
      · refine sh_j0 (c := .eq) (off := (20)) (pc2 := 186) false rfl (sh_Zeqf c) rfl ?_
        refine sh_w (i := (.aload_n 0)) (len := 1) (pc2 := 187) (lv2 := [(10, .int r2), (0, .ref 42), (1, .int x1), (2, .int (sh_b2 x2)), (3, .int x3), (4, .int x4), (5, .int x5), (6, .int x6), (7, .int (sh_b2 x7)), (9, .int x9)]) (st2 := [.ref 42]) (h2 := (sh_rep m11.T m11.I m11.J)) rfl rfl rfl ?_
        refine sh_gR1 (len := 3) (x := .ref 45) (pc2 := 190) rfl rfl (sh_s41 hT.st) rfl rfl ?_
        refine sh_w (i := (.iload 10)) (len := 2) (pc2 := 192) (lv2 := [(10, .int r2), (0, .ref 42), (1, .int x1), (2, .int (sh_b2 x2)), (3, .int x3), (4, .int x4), (5, .int x5), (6, .int x6), (7, .int (sh_b2 x7)), (9, .int x9)]) (st2 := [.int r2, .ref 45]) (h2 := (sh_rep m11.T m11.I m11.J)) rfl rfl rfl ?_
        refine sh_w (i := (.iload 9)) (len := 2) (pc2 := 194) (lv2 := [(10, .int r2), (0, .ref 42), (1, .int x1), (2, .int (sh_b2 x2)), (3, .int x3), (4, .int x4), (5, .int x5), (6, .int x6), (7, .int (sh_b2 x7)), (9, .int x9)]) (st2 := [.int x9, .int r2, .ref 45]) (h2 := (sh_rep m11.T m11.I m11.J)) rfl rfl rfl ?_
        refine sh_w (i := .iadd) (len := 1) (pc2 := 195) (lv2 := [(10, .int r2), (0, .ref 42), (1, .int x1), (2, .int (sh_b2 x2)), (3, .int x3), (4, .int x4), (5, .int x5), (6, .int x6), (7, .int (sh_b2 x7)), (9, .int x9)]) (st2 := [.int (r2 + x9), .ref 45]) (h2 := (sh_rep m11.T m11.I m11.J)) rfl rfl rfl ?_
        refine sh_w (i := (.iconst 1)) (len := 1) (pc2 := 196) (lv2 := [(10, .int r2), (0, .ref 42), (1, .int x1), (2, .int (sh_b2 x2)), (3, .int x3), (4, .int x4), (5, .int x5), (6, .int x6), (7, .int (sh_b2 x7)), (9, .int x9)]) (st2 := [.int 1, .int (r2 + x9), .ref 45]) (h2 := (sh_rep m11.T m11.I m11.J)) rfl rfl rfl ?_
        refine sh_w (i := .isub) (len := 1) (pc2 := 197) (lv2 := [(10, .int r2), (0, .ref 42), (1, .int x1), (2, .int (sh_b2 x2)), (3, .int x3), (4, .int x4), (5, .int x5), (6, .int x6), (7, .int (sh_b2 x7)), (9, .int x9)]) (st2 := [.int ((r2 + x9) - 1), .ref 45]) (h2 := (sh_rep m11.T m11.I m11.J)) rfl rfl rfl ?_
        exact kk
      obtain ⟨r4, e4, e⟩ := sh_bc_e e
      refine sh_Lk_cV (r := (some (.int r4))) (st2 := [.int r4]) (pc2 := 200) (k2 := 103) (a := 44) (as := [.ref 45, .int ((r2 + x9) - 1)]) (rest := []) rfl rfl rfl (fun hT => (sh_s44 hT.st)) rfl rfl ⟨Nat.le_of_ble_eq_true rfl, Nat.le_of_ble_eq_true rfl⟩ (sl_103 e4 ⟨rfl, rfl⟩) rfl rfl (Nat.le_of_ble_eq_true rfl) (Nat.le_of_ble_eq_true rfl) ?_
      refine sh_Lk_lift (T := m11.T) (I := m11.I) (J := m11.J) (s := m11.s) (pc2 := 204) (lv2 := [(10, .int r2), (0, .ref 42), (1, .int x1), (2, .int (sh_b2 x2)), (3, .int x3), (4, .int x4), (5, .int x5), (6, .int x6), (7, .int (sh_b2 x7)), (9, .int x9)]) (st2 := [.int r4]) (I2 := m11.I) (J2 := m11.J) (fun hT v kk => ?_) ?_
      · refine sh_w (i := (.goto 4)) (len := 3) (pc2 := 204) (lv2 := [(10, .int r2), (0, .ref 42), (1, .int x1), (2, .int (sh_b2 x2)), (3, .int x3), (4, .int x4), (5, .int x5), (6, .int x6), (7, .int (sh_b2 x7)), (9, .int x9)]) (st2 := [.int r4]) (h2 := (sh_rep m11.T m11.I m11.J)) rfl rfl rfl ?_
        exact kk
      exact sh_Lk_sub (sh_sub_c rfl (sh_sub_c rfl (sh_sub_c rfl (sh_sub_c rfl (sh_sub_c rfl (sh_sub_c rfl (sh_sub_c rfl (sh_sub_c rfl (sh_sub_n))))))))) (sl_172_204 e tg)
    · refine sh_Lk_lift (T := m11.T) (I := m11.I) (J := m11.J) (s := m11.s) (pc2 := 203) (lv2 := [(10, .int r2), (0, .ref 42), (1, .int x1), (2, .int (sh_b2 x2)), (3, .int x3), (4, .int x4), (5, .int x5), (6, .int x6), (7, .int (sh_b2 x7)), (9, .int x9)]) (st2 := []) (I2 := m11.I) (J2 := m11.J) (fun hT v kk => ?_) ?_
      · refine sh_j0 (c := .eq) (off := (20)) (pc2 := 203) true rfl (sh_Zeqt c) rfl ?_
        exact kk
      exact sh_Lk_sub (sh_sub_c rfl (sh_sub_c rfl (sh_sub_c rfl (sh_sub_c rfl (sh_sub_c rfl (sh_sub_c rfl (sh_sub_c rfl (sh_sub_c rfl (sh_sub_n))))))))) (sl_172_203 e tg)
theorem sl_172_134 {x1 : Int32} {x2 : Bool} {x3 : Int32} {x4 : Int32} {x5 : Int32} {x6 : Int32} {x7 : Bool} {m m2 : sh_X} {o : Outcome} {z : (Option Unit × sh_X)} (e : sf_172_134 x1 x2 x3 x4 x5 x6 x7 m = some z) (tg : (sh_tVt o m2) z) : sh_Lk 172 134 [(0, .ref 42), (1, .int x1), (2, .int (sh_b2 x2)), (3, .int x3), (4, .int x4), (5, .int x5), (6, .int x6), (7, .int (sh_b2 x7))] [] m o m2 14 344 := by
  unfold sf_172_134 at e
  refine sh_Lk_lift (T := m.T) (I := m.I) (J := m.J) (s := m.s) (pc2 := 136) (lv2 := [(0, .ref 42), (1, .int x1), (2, .int (sh_b2 x2)), (3, .int x3), (4, .int x4), (5, .int x5), (6, .int x6), (7, .int (sh_b2 x7))]) (st2 := [.int x5]) (I2 := m.I) (J2 := m.J) (fun hT v kk => ?_) ?_
  · refine sh_w (i := (.iload 5)) (len := 2) (pc2 := 136) (lv2 := [(0, .ref 42), (1, .int x1), (2, .int (sh_b2 x2)), (3, .int x3), (4, .int x4), (5, .int x5), (6, .int x6), (7, .int (sh_b2 x7))]) (st2 := [.int x5]) (h2 := (sh_rep m.T m.I m.J)) rfl rfl rfl ?_
    exact kk
  refine sh_Lk_cS (r := (some (.int (sf_94 x5)))) (st2 := [.int (sf_94 x5)]) (pc2 := 139) (k2 := 94) (as := [.int x5]) (rest := []) rfl rfl (by decide) (Nat.le_of_ble_eq_true rfl) rfl rfl ⟨Nat.le_of_ble_eq_true rfl, Nat.le_of_ble_eq_true rfl⟩ (sl_94 (m := m) rfl ⟨rfl, rfl⟩) rfl rfl (Nat.le_of_ble_eq_true rfl) (Nat.le_of_ble_eq_true rfl) ?_
  refine sh_Lk_lift (T := m.T) (I := m.I) (J := m.J) (s := m.s) (pc2 := 144) (lv2 := [(9, .int (sf_94 x5)), (0, .ref 42), (1, .int x1), (2, .int (sh_b2 x2)), (3, .int x3), (4, .int x4), (5, .int x5), (6, .int x6), (7, .int (sh_b2 x7))]) (st2 := [.int (sh_b2 x7), .ref 42]) (I2 := m.I) (J2 := m.J) (fun hT v kk => ?_) ?_
  · refine sh_w (i := (.istore 9)) (len := 2) (pc2 := 141) (lv2 := [(9, .int (sf_94 x5)), (0, .ref 42), (1, .int x1), (2, .int (sh_b2 x2)), (3, .int x3), (4, .int x4), (5, .int x5), (6, .int x6), (7, .int (sh_b2 x7))]) (st2 := []) (h2 := (sh_rep m.T m.I m.J)) rfl rfl rfl ?_
    refine sh_w (i := (.aload_n 0)) (len := 1) (pc2 := 142) (lv2 := [(9, .int (sf_94 x5)), (0, .ref 42), (1, .int x1), (2, .int (sh_b2 x2)), (3, .int x3), (4, .int x4), (5, .int x5), (6, .int x6), (7, .int (sh_b2 x7))]) (st2 := [.ref 42]) (h2 := (sh_rep m.T m.I m.J)) rfl rfl rfl ?_
    refine sh_w (i := (.iload 7)) (len := 2) (pc2 := 144) (lv2 := [(9, .int (sf_94 x5)), (0, .ref 42), (1, .int x1), (2, .int (sh_b2 x2)), (3, .int x3), (4, .int x4), (5, .int x5), (6, .int x6), (7, .int (sh_b2 x7))]) (st2 := [.int (sh_b2 x7), .ref 42]) (h2 := (sh_rep m.T m.I m.J)) rfl rfl rfl ?_
    exact kk
  rcases sh_ite e with ⟨c, e⟩ | ⟨c, e⟩
  · refine sh_Lk_lift (T := m.T) (I := m.I) (J := m.J) (s := m.s) (pc2 := 160) (lv2 := [(9, .int (sf_94 x5)), (0, .ref 42), (1, .int x1), (2, .int (sh_b2 x2)), (3, .int x3), (4, .int x4), (5, .int x5), (6, .int x6), (7, .int (sh_b2 x7))]) (st2 := [.int (sf_94 x5), .ref 42]) (I2 := m.I) (J2 := m.J) (fun hT v kk => ?_) ?_
    · refine sh_j0 (c := .eq) (off := (8)) (pc2 := 147) false rfl (sh_Zeqf c) rfl ?_
      refine sh_w (i := (.iload 9)) (len := 2) (pc2 := 149) (lv2 := [(9, .int (sf_94 x5)), (0, .ref 42), (1, .int x1), (2, .int (sh_b2 x2)), (3, .int x3), (4, .int x4), (5, .int x5), (6, .int x6), (7, .int (sh_b2 x7))]) (st2 := [.int (sf_94 x5), .ref 42]) (h2 := (sh_rep m.T m.I m.J)) rfl rfl rfl ?_
      refine sh_w (i := (.goto 11)) (len := 3) (pc2 := 160) (lv2 := [(9, .int (sf_94 x5)), (0, .ref 42), (1, .int x1), (2, .int (sh_b2 x2)), (3, .int x3), (4, .int x4), (5, .int x5), (6, .int x6), (7, .int (sh_b2 x7))]) (st2 := [.int (sf_94 x5), .ref 42]) (h2 := (sh_rep m.T m.I m.J)) rfl rfl rfl ?_
      exact kk
    exact sh_Lk_sub (sh_sub_c rfl (sh_sub_c rfl (sh_sub_c rfl (sh_sub_c rfl (sh_sub_c rfl (sh_sub_c rfl (sh_sub_c rfl (sh_sub_c rfl (sh_sub_c rfl (sh_sub_n)))))))))) (sl_172_160 e tg)
  · refine sh_Lk_lift (T := m.T) (I := m.I) (J := m.J) (s := m.s) (pc2 := 156) (lv2 := [(9, .int (sf_94 x5)), (0, .ref 42), (1, .int x1), (2, .int (sh_b2 x2)), (3, .int x3), (4, .int x4), (5, .int x5), (6, .int x6), (7, .int (sh_b2 x7))]) (st2 := [.int x6, .int (sf_94 x5), .ref 42]) (I2 := m.I) (J2 := m.J) (fun hT v kk => ?_) ?_
    · refine sh_j0 (c := .eq) (off := (8)) (pc2 := 152) true rfl (sh_Zeqt c) rfl ?_
      refine sh_w (i := (.iload 9)) (len := 2) (pc2 := 154) (lv2 := [(9, .int (sf_94 x5)), (0, .ref 42), (1, .int x1), (2, .int (sh_b2 x2)), (3, .int x3), (4, .int x4), (5, .int x5), (6, .int x6), (7, .int (sh_b2 x7))]) (st2 := [.int (sf_94 x5), .ref 42]) (h2 := (sh_rep m.T m.I m.J)) rfl rfl rfl ?_
      refine sh_w (i := (.iload 6)) (len := 2) (pc2 := 156) (lv2 := [(9, .int (sf_94 x5)), (0, .ref 42), (1, .int x1), (2, .int (sh_b2 x2)), (3, .int x3), (4, .int x4), (5, .int x5), (6, .int x6), (7, .int (sh_b2 x7))]) (st2 := [.int x6, .int (sf_94 x5), .ref 42]) (h2 := (sh_rep m.T m.I m.J)) rfl rfl rfl ?_
      exact kk
    refine sh_Lk_cS (r := (some (.int (sf_94 x6)))) (st2 := [.int (sf_94 x6), .int (sf_94 x5), .ref 42]) (pc2 := 159) (k2 := 94) (as := [.int x6]) (rest := [.int (sf_94 x5), .ref 42]) rfl rfl (by decide) (Nat.le_of_ble_eq_true rfl) rfl rfl ⟨Nat.le_of_ble_eq_true rfl, Nat.le_of_ble_eq_true rfl⟩ (sl_94 (m := m) rfl ⟨rfl, rfl⟩) rfl rfl (Nat.le_of_ble_eq_true rfl) (Nat.le_of_ble_eq_true rfl) ?_
    refine sh_Lk_lift (T := m.T) (I := m.I) (J := m.J) (s := m.s) (pc2 := 160) (lv2 := [(9, .int (sf_94 x5)), (0, .ref 42), (1, .int x1), (2, .int (sh_b2 x2)), (3, .int x3), (4, .int x4), (5, .int x5), (6, .int x6), (7, .int (sh_b2 x7))]) (st2 := [.int ((sf_94 x5) * (sf_94 x6)), .ref 42]) (I2 := m.I) (J2 := m.J) (fun hT v kk => ?_) ?_
    · refine sh_w (i := .imul) (len := 1) (pc2 := 160) (lv2 := [(9, .int (sf_94 x5)), (0, .ref 42), (1, .int x1), (2, .int (sh_b2 x2)), (3, .int x3), (4, .int x4), (5, .int x5), (6, .int x6), (7, .int (sh_b2 x7))]) (st2 := [.int ((sf_94 x5) * (sf_94 x6)), .ref 42]) (h2 := (sh_rep m.T m.I m.J)) rfl rfl rfl ?_
      exact kk
    exact sh_Lk_sub (sh_sub_c rfl (sh_sub_c rfl (sh_sub_c rfl (sh_sub_c rfl (sh_sub_c rfl (sh_sub_c rfl (sh_sub_c rfl (sh_sub_c rfl (sh_sub_c rfl (sh_sub_n)))))))))) (sl_172_160 e tg)
theorem sl_172_125 {x1 : Int32} {x2 : Bool} {x3 : Int32} {x4 : Int32} {x5 : Int32} {x6 : Int32} {x7 : Bool} {m m2 : sh_X} {o : Outcome} {z : (Option Unit × sh_X)} (e : sf_172_125 x1 x2 x3 x4 x5 x6 x7 m = some z) (tg : (sh_tVt o m2) z) : sh_Lk 172 125 [(0, .ref 42), (1, .int x1), (2, .int (sh_b2 x2)), (3, .int x3), (4, .int x4), (5, .int x5), (6, .int x6), (7, .int (sh_b2 x7))] [] m o m2 14 344 := by
  unfold sf_172_125 at e
  refine sh_Lk_lift (T := m.T) (I := m.I) (J := m.J) (s := m.s) (pc2 := 131) (lv2 := [(0, .ref 42), (1, .int x1), (2, .int (sh_b2 x2)), (3, .int x3), (4, .int x4), (5, .int x5), (6, .int x6), (7, .int (sh_b2 x7))]) (st2 := [.int x1, .int 4, .ref 3]) (I2 := m.I) (J2 := m.J) (fun hT v kk => ?_) ?_
  · refine sh_w (i := (.aload_n 0)) (len := 1) (pc2 := 126) (lv2 := [(0, .ref 42), (1, .int x1), (2, .int (sh_b2 x2)), (3, .int x3), (4, .int x4), (5, .int x5), (6, .int x6), (7, .int (sh_b2 x7))]) (st2 := [.ref 42]) (h2 := (sh_rep m.T m.I m.J)) rfl rfl rfl ?_
    refine sh_gR1 (len := 3) (x := .ref 3) (pc2 := 129) rfl rfl (sh_s41 hT.st) rfl rfl ?_
    refine sh_w (i := (.iconst 4)) (len := 1) (pc2 := 130) (lv2 := [(0, .ref 42), (1, .int x1), (2, .int (sh_b2 x2)), (3, .int x3), (4, .int x4), (5, .int x5), (6, .int x6), (7, .int (sh_b2 x7))]) (st2 := [.int 4, .ref 3]) (h2 := (sh_rep m.T m.I m.J)) rfl rfl rfl ?_
    refine sh_w (i := (.iload_n 1)) (len := 1) (pc2 := 131) (lv2 := [(0, .ref 42), (1, .int x1), (2, .int (sh_b2 x2)), (3, .int x3), (4, .int x4), (5, .int x5), (6, .int x6), (7, .int (sh_b2 x7))]) (st2 := [.int x1, .int 4, .ref 3]) (h2 := (sh_rep m.T m.I m.J)) rfl rfl rfl ?_
    exact kk
  rcases sh_bt_e e with ⟨m11, e1, rfl⟩ | ⟨r1, m11, e1, e⟩
  · obtain ⟨rfl, rfl⟩ := tg
    exact sh_Lk_tV (k2 := 50) (a := 2) (as := [.ref 3, .int 4, .int x1]) (rest := []) rfl rfl rfl (fun hT => hT.t2) rfl rfl ⟨Nat.le_of_ble_eq_true rfl, Nat.le_of_ble_eq_true rfl⟩ (sl_50 e1 ⟨rfl, rfl⟩) rfl (Nat.le_of_ble_eq_true rfl) (Nat.le_of_ble_eq_true rfl) (Nat.le_of_ble_eq_true rfl) (Nat.le_of_ble_eq_true rfl) rfl
  refine sh_Lk_cV (r := none) (st2 := []) (pc2 := 134) (k2 := 50) (a := 2) (as := [.ref 3, .int 4, .int x1]) (rest := []) rfl rfl rfl (fun hT => hT.t2) rfl rfl ⟨Nat.le_of_ble_eq_true rfl, Nat.le_of_ble_eq_true rfl⟩ (sl_50 e1 ⟨rfl, rfl⟩) rfl rfl (Nat.le_of_ble_eq_true rfl) (Nat.le_of_ble_eq_true rfl) ?_
  exact sh_Lk_sub (sh_sub_c rfl (sh_sub_c rfl (sh_sub_c rfl (sh_sub_c rfl (sh_sub_c rfl (sh_sub_c rfl (sh_sub_c rfl (sh_sub_c rfl (sh_sub_n))))))))) (sl_172_134 e tg)
theorem sl_172_110 {x1 : Int32} {x2 : Bool} {x3 : Int32} {x4 : Int32} {x5 : Int32} {x6 : Int32} {x7 : Bool} {y0 : Bool} {m m2 : sh_X} {o : Outcome} {z : (Option Unit × sh_X)} (e : sf_172_110 x1 x2 x3 x4 x5 x6 x7 y0 m = some z) (tg : (sh_tVt o m2) z) : sh_Lk 172 110 [(0, .ref 42), (1, .int x1), (2, .int (sh_b2 x2)), (3, .int x3), (4, .int x4), (5, .int x5), (6, .int x6), (7, .int (sh_b2 x7))] [.int (sh_b2 y0)] m o m2 14 344 := by
  unfold sf_172_110 at e
  refine sh_Lk_lift (T := m.T) (I := m.I) (J := m.J) (s := m.s) (pc2 := 114) (lv2 := [(8, .int (sh_b2 y0)), (0, .ref 42), (1, .int x1), (2, .int (sh_b2 x2)), (3, .int x3), (4, .int x4), (5, .int x5), (6, .int x6), (7, .int (sh_b2 x7))]) (st2 := [.int (sh_b2 y0)]) (I2 := m.I) (J2 := m.J) (fun hT v kk => ?_) ?_
  · refine sh_w (i := (.istore 8)) (len := 2) (pc2 := 112) (lv2 := [(8, .int (sh_b2 y0)), (0, .ref 42), (1, .int x1), (2, .int (sh_b2 x2)), (3, .int x3), (4, .int x4), (5, .int x5), (6, .int x6), (7, .int (sh_b2 x7))]) (st2 := []) (h2 := (sh_rep m.T m.I m.J)) rfl rfl rfl ?_
    refine sh_w (i := (.iload 8)) (len := 2) (pc2 := 114) (lv2 := [(8, .int (sh_b2 y0)), (0, .ref 42), (1, .int x1), (2, .int (sh_b2 x2)), (3, .int x3), (4, .int x4), (5, .int x5), (6, .int x6), (7, .int (sh_b2 x7))]) (st2 := [.int (sh_b2 y0)]) (h2 := (sh_rep m.T m.I m.J)) rfl rfl rfl ?_
    exact kk
  rcases sh_ite e with ⟨c, e⟩ | ⟨c, e⟩
  · refine sh_Lk_lift (T := m.T) (I := m.I) (J := m.J) (s := m.s) (pc2 := 119) (lv2 := [(8, .int (sh_b2 y0)), (0, .ref 42), (1, .int x1), (2, .int (sh_b2 x2)), (3, .int x3), (4, .int x4), (5, .int x5), (6, .int x6), (7, .int (sh_b2 x7))]) (st2 := [.int x5]) (I2 := m.I) (J2 := m.J) (fun hT v kk => ?_) ?_
    · refine sh_j0 (c := .eq) (off := (11)) (pc2 := 117) false rfl (sh_Zeqf c) rfl ?_
      refine sh_w (i := (.iload 5)) (len := 2) (pc2 := 119) (lv2 := [(8, .int (sh_b2 y0)), (0, .ref 42), (1, .int x1), (2, .int (sh_b2 x2)), (3, .int x3), (4, .int x4), (5, .int x5), (6, .int x6), (7, .int (sh_b2 x7))]) (st2 := [.int x5]) (h2 := (sh_rep m.T m.I m.J)) rfl rfl rfl ?_
      exact kk
    refine sh_Lk_cS (r := (some (.int (sh_b2 (sf_113 x5))))) (st2 := [.int (sh_b2 (sf_113 x5))]) (pc2 := 122) (k2 := 113) (as := [.int x5]) (rest := []) rfl rfl (by decide) (Nat.le_of_ble_eq_true rfl) rfl rfl ⟨Nat.le_of_ble_eq_true rfl, Nat.le_of_ble_eq_true rfl⟩ (sl_113 (m := m) rfl ⟨rfl, rfl⟩) rfl rfl (Nat.le_of_ble_eq_true rfl) (Nat.le_of_ble_eq_true rfl) ?_
    rcases sh_ite e with ⟨c, e⟩ | ⟨c, e⟩
    · refine sh_Lk_lift (T := m.T) (I := m.I) (J := m.J) (s := m.s) (pc2 := 134) (lv2 := [(8, .int (sh_b2 y0)), (0, .ref 42), (1, .int x1), (2, .int (sh_b2 x2)), (3, .int x3), (4, .int x4), (5, .int x5), (6, .int x6), (7, .int (sh_b2 x7))]) (st2 := []) (I2 := m.I) (J2 := m.J) (fun hT v kk => ?_) ?_
      · refine sh_j0 (c := .ne) (off := (12)) (pc2 := 134) true rfl (sh_Znet c) rfl ?_
        exact kk
      exact sh_Lk_sub (sh_sub_c rfl (sh_sub_c rfl (sh_sub_c rfl (sh_sub_c rfl (sh_sub_c rfl (sh_sub_c rfl (sh_sub_c rfl (sh_sub_c rfl (sh_sub_n))))))))) (sl_172_134 e tg)
    · refine sh_Lk_lift (T := m.T) (I := m.I) (J := m.J) (s := m.s) (pc2 := 125) (lv2 := [(8, .int (sh_b2 y0)), (0, .ref 42), (1, .int x1), (2, .int (sh_b2 x2)), (3, .int x3), (4, .int x4), (5, .int x5), (6, .int x6), (7, .int (sh_b2 x7))]) (st2 := []) (I2 := m.I) (J2 := m.J) (fun hT v kk => ?_) ?_
      · refine sh_j0 (c := .ne) (off := (12)) (pc2 := 125) false rfl (sh_Znef c) rfl ?_
        exact kk
      exact sh_Lk_sub (sh_sub_c rfl (sh_sub_c rfl (sh_sub_c rfl (sh_sub_c rfl (sh_sub_c rfl (sh_sub_c rfl (sh_sub_c rfl (sh_sub_c rfl (sh_sub_n))))))))) (sl_172_125 e tg)
  · refine sh_Lk_lift (T := m.T) (I := m.I) (J := m.J) (s := m.s) (pc2 := 125) (lv2 := [(8, .int (sh_b2 y0)), (0, .ref 42), (1, .int x1), (2, .int (sh_b2 x2)), (3, .int x3), (4, .int x4), (5, .int x5), (6, .int x6), (7, .int (sh_b2 x7))]) (st2 := []) (I2 := m.I) (J2 := m.J) (fun hT v kk => ?_) ?_
    · refine sh_j0 (c := .eq) (off := (11)) (pc2 := 125) true rfl (sh_Zeqt c) rfl ?_
      exact kk
    exact sh_Lk_sub (sh_sub_c rfl (sh_sub_c rfl (sh_sub_c rfl (sh_sub_c rfl (sh_sub_c rfl (sh_sub_c rfl (sh_sub_c rfl (sh_sub_c rfl (sh_sub_n))))))))) (sl_172_125 e tg)
theorem sl_172_109 {x1 : Int32} {x2 : Bool} {x3 : Int32} {x4 : Int32} {x5 : Int32} {x6 : Int32} {x7 : Bool} {m m2 : sh_X} {o : Outcome} {z : (Option Unit × sh_X)} (e : sf_172_109 x1 x2 x3 x4 x5 x6 x7 m = some z) (tg : (sh_tVt o m2) z) : sh_Lk 172 109 [(0, .ref 42), (1, .int x1), (2, .int (sh_b2 x2)), (3, .int x3), (4, .int x4), (5, .int x5), (6, .int x6), (7, .int (sh_b2 x7))] [] m o m2 14 344 := by
  unfold sf_172_109 at e
  refine sh_Lk_lift (T := m.T) (I := m.I) (J := m.J) (s := m.s) (pc2 := 110) (lv2 := [(0, .ref 42), (1, .int x1), (2, .int (sh_b2 x2)), (3, .int x3), (4, .int x4), (5, .int x5), (6, .int x6), (7, .int (sh_b2 x7))]) (st2 := [.int 0]) (I2 := m.I) (J2 := m.J) (fun hT v kk => ?_) ?_
  · refine sh_w (i := (.iconst 0)) (len := 1) (pc2 := 110) (lv2 := [(0, .ref 42), (1, .int x1), (2, .int (sh_b2 x2)), (3, .int x3), (4, .int x4), (5, .int x5), (6, .int x6), (7, .int (sh_b2 x7))]) (st2 := [.int 0]) (h2 := (sh_rep m.T m.I m.J)) rfl rfl rfl ?_
    exact kk
  exact sh_Lk_sub (sh_sub_c rfl (sh_sub_c rfl (sh_sub_c rfl (sh_sub_c rfl (sh_sub_c rfl (sh_sub_c rfl (sh_sub_c rfl (sh_sub_c rfl (sh_sub_n))))))))) (sl_172_110 e tg)
theorem sl_172_60 {x1 : Int32} {x2 : Bool} {x3 : Int32} {x4 : Int32} {x5 : Int32} {x6 : Int32} {y0 : Bool} {m m2 : sh_X} {o : Outcome} {z : (Option Unit × sh_X)} (e : sf_172_60 x1 x2 x3 x4 x5 x6 y0 m = some z) (tg : (sh_tVt o m2) z) : sh_Lk 172 60 [(0, .ref 42), (1, .int x1), (2, .int (sh_b2 x2)), (3, .int x3), (4, .int x4), (5, .int x5), (6, .int x6)] [.int (sh_b2 y0)] m o m2 14 344 := by
  unfold sf_172_60 at e
  refine sh_Lk_lift (T := m.T) (I := m.I) (J := m.J) (s := m.s) (pc2 := 64) (lv2 := [(7, .int (sh_b2 y0)), (0, .ref 42), (1, .int x1), (2, .int (sh_b2 x2)), (3, .int x3), (4, .int x4), (5, .int x5), (6, .int x6)]) (st2 := [.int (sh_b2 y0)]) (I2 := m.I) (J2 := m.J) (fun hT v kk => ?_) ?_
  · refine sh_w (i := (.istore 7)) (len := 2) (pc2 := 62) (lv2 := [(7, .int (sh_b2 y0)), (0, .ref 42), (1, .int x1), (2, .int (sh_b2 x2)), (3, .int x3), (4, .int x4), (5, .int x5), (6, .int x6)]) (st2 := []) (h2 := (sh_rep m.T m.I m.J)) rfl rfl rfl ?_
    refine sh_w (i := (.iload 7)) (len := 2) (pc2 := 64) (lv2 := [(7, .int (sh_b2 y0)), (0, .ref 42), (1, .int x1), (2, .int (sh_b2 x2)), (3, .int x3), (4, .int x4), (5, .int x5), (6, .int x6)]) (st2 := [.int (sh_b2 y0)]) (h2 := (sh_rep m.T m.I m.J)) rfl rfl rfl ?_
    exact kk
  rcases sh_ite e with ⟨c, e⟩ | ⟨c, e⟩
  · refine sh_Lk_lift (T := m.T) (I := m.I) (J := m.J) (s := m.s) (pc2 := 73) (lv2 := [(7, .int (sh_b2 y0)), (0, .ref 42), (1, .int x1), (2, .int (sh_b2 x2)), (3, .int x3), (4, .int x4), (5, .int x5), (6, .int x6)]) (st2 := [.int x4, .ref 49]) (I2 := m.I) (J2 := m.J) (fun hT v kk => ?_) ?_
    · refine sh_j0 (c := .eq) (off := (25)) (pc2 := 67) false rfl (sh_Zeqf c) rfl ?_
      refine sh_w (i := (.aload_n 0)) (len := 1) (pc2 := 68) (lv2 := [(7, .int (sh_b2 y0)), (0, .ref 42), (1, .int x1), (2, .int (sh_b2 x2)), (3, .int x3), (4, .int x4), (5, .int x5), (6, .int x6)]) (st2 := [.ref 42]) (h2 := (sh_rep m.T m.I m.J)) rfl rfl rfl ?_
      refine sh_gR1 (len := 3) (x := .ref 49) (pc2 := 71) rfl rfl (sh_s41 hT.st) rfl rfl ?_
      refine sh_w (i := (.iload 4)) (len := 2) (pc2 := 73) (lv2 := [(7, .int (sh_b2 y0)), (0, .ref 42), (1, .int x1), (2, .int (sh_b2 x2)), (3, .int x3), (4, .int x4), (5, .int x5), (6, .int x6)]) (st2 := [.int x4, .ref 49]) (h2 := (sh_rep m.T m.I m.J)) rfl rfl rfl ?_
      exact kk
    obtain ⟨r1, e1, e⟩ := sh_bc_e e
    refine sh_Lk_cV (r := (some (.long r1))) (st2 := [.long r1]) (pc2 := 76) (k2 := 111) (a := 48) (as := [.ref 49, .int x4]) (rest := []) rfl rfl rfl (fun hT => (sh_s48 hT.st)) rfl rfl ⟨Nat.le_of_ble_eq_true rfl, Nat.le_of_ble_eq_true rfl⟩ (sl_111 e1 ⟨rfl, rfl⟩) rfl rfl (Nat.le_of_ble_eq_true rfl) (Nat.le_of_ble_eq_true rfl) ?_
    refine sh_Lk_lift (T := m.T) (I := m.I) (J := m.J) (s := m.s) (pc2 := 78) (lv2 := [(7, .int (sh_b2 y0)), (0, .ref 42), (1, .int x1), (2, .int (sh_b2 x2)), (3, .int x3), (4, .int x4), (5, .int x5), (6, .int x6)]) (st2 := [.int (lg_cmp r1 0)]) (I2 := m.I) (J2 := m.J) (fun hT v kk => ?_) ?_
    · refine sh_w (i := (.lconst 0)) (len := 1) (pc2 := 77) (lv2 := [(7, .int (sh_b2 y0)), (0, .ref 42), (1, .int x1), (2, .int (sh_b2 x2)), (3, .int x3), (4, .int x4), (5, .int x5), (6, .int x6)]) (st2 := [.long 0, .long r1]) (h2 := (sh_rep m.T m.I m.J)) rfl rfl rfl ?_
      refine sh_w (i := .lcmp) (len := 1) (pc2 := 78) (lv2 := [(7, .int (sh_b2 y0)), (0, .ref 42), (1, .int x1), (2, .int (sh_b2 x2)), (3, .int x3), (4, .int x4), (5, .int x5), (6, .int x6)]) (st2 := [.int (lg_cmp r1 0)]) (h2 := (sh_rep m.T m.I m.J)) rfl rfl rfl ?_
      exact kk
    rcases sh_ite e with ⟨c, e⟩ | ⟨c, e⟩
    · refine sh_Lk_lift (T := m.T) (I := m.I) (J := m.J) (s := m.s) (pc2 := 110) (lv2 := [(7, .int (sh_b2 y0)), (0, .ref 42), (1, .int x1), (2, .int (sh_b2 x2)), (3, .int x3), (4, .int x4), (5, .int x5), (6, .int x6)]) (st2 := [.int 0]) (I2 := m.I) (J2 := m.J) (fun hT v kk => ?_) ?_
      · refine sh_j0 (c := .lt) (off := (7)) (pc2 := 85) true rfl (sh_Cltt c) rfl ?_
        refine sh_w (i := (.iconst 0)) (len := 1) (pc2 := 86) (lv2 := [(7, .int (sh_b2 y0)), (0, .ref 42), (1, .int x1), (2, .int (sh_b2 x2)), (3, .int x3), (4, .int x4), (5, .int x5), (6, .int x6)]) (st2 := [.int 0]) (h2 := (sh_rep m.T m.I m.J)) rfl rfl rfl ?_
        refine sh_w (i := (.goto 24)) (len := 3) (pc2 := 110) (lv2 := [(7, .int (sh_b2 y0)), (0, .ref 42), (1, .int x1), (2, .int (sh_b2 x2)), (3, .int x3), (4, .int x4), (5, .int x5), (6, .int x6)]) (st2 := [.int 0]) (h2 := (sh_rep m.T m.I m.J)) rfl rfl rfl ?_
        exact kk
      exact sh_Lk_sub (sh_sub_c rfl (sh_sub_c rfl (sh_sub_c rfl (sh_sub_c rfl (sh_sub_c rfl (sh_sub_c rfl (sh_sub_c rfl (sh_sub_c rfl (sh_sub_n))))))))) (sl_172_110 e tg)
    · refine sh_Lk_lift (T := m.T) (I := m.I) (J := m.J) (s := m.s) (pc2 := 110) (lv2 := [(7, .int (sh_b2 y0)), (0, .ref 42), (1, .int x1), (2, .int (sh_b2 x2)), (3, .int x3), (4, .int x4), (5, .int x5), (6, .int x6)]) (st2 := [.int 1]) (I2 := m.I) (J2 := m.J) (fun hT v kk => ?_) ?_
      · refine sh_j0 (c := .lt) (off := (7)) (pc2 := 81) false rfl (sh_Cltf c) rfl ?_
        refine sh_w (i := (.iconst 1)) (len := 1) (pc2 := 82) (lv2 := [(7, .int (sh_b2 y0)), (0, .ref 42), (1, .int x1), (2, .int (sh_b2 x2)), (3, .int x3), (4, .int x4), (5, .int x5), (6, .int x6)]) (st2 := [.int 1]) (h2 := (sh_rep m.T m.I m.J)) rfl rfl rfl ?_
        refine sh_w (i := (.goto 28)) (len := 3) (pc2 := 110) (lv2 := [(7, .int (sh_b2 y0)), (0, .ref 42), (1, .int x1), (2, .int (sh_b2 x2)), (3, .int x3), (4, .int x4), (5, .int x5), (6, .int x6)]) (st2 := [.int 1]) (h2 := (sh_rep m.T m.I m.J)) rfl rfl rfl ?_
        exact kk
      exact sh_Lk_sub (sh_sub_c rfl (sh_sub_c rfl (sh_sub_c rfl (sh_sub_c rfl (sh_sub_c rfl (sh_sub_c rfl (sh_sub_c rfl (sh_sub_c rfl (sh_sub_n))))))))) (sl_172_110 e tg)
  · refine sh_Lk_lift (T := m.T) (I := m.I) (J := m.J) (s := m.s) (pc2 := 91) (lv2 := [(7, .int (sh_b2 y0)), (0, .ref 42), (1, .int x1), (2, .int (sh_b2 x2)), (3, .int x3), (4, .int x4), (5, .int x5), (6, .int x6)]) (st2 := [.int x6]) (I2 := m.I) (J2 := m.J) (fun hT v kk => ?_) ?_
    · refine sh_j0 (c := .eq) (off := (25)) (pc2 := 89) true rfl (sh_Zeqt c) rfl ?_
      refine sh_w (i := (.iload 6)) (len := 2) (pc2 := 91) (lv2 := [(7, .int (sh_b2 y0)), (0, .ref 42), (1, .int x1), (2, .int (sh_b2 x2)), (3, .int x3), (4, .int x4), (5, .int x5), (6, .int x6)]) (st2 := [.int x6]) (h2 := (sh_rep m.T m.I m.J)) rfl rfl rfl ?_
      exact kk
    refine sh_Lk_cS (r := (some (.int (sh_b2 (sf_113 x6))))) (st2 := [.int (sh_b2 (sf_113 x6))]) (pc2 := 94) (k2 := 113) (as := [.int x6]) (rest := []) rfl rfl (by decide) (Nat.le_of_ble_eq_true rfl) rfl rfl ⟨Nat.le_of_ble_eq_true rfl, Nat.le_of_ble_eq_true rfl⟩ (sl_113 (m := m) rfl ⟨rfl, rfl⟩) rfl rfl (Nat.le_of_ble_eq_true rfl) (Nat.le_of_ble_eq_true rfl) ?_
    rcases sh_ite e with ⟨c, e⟩ | ⟨c, e⟩
    · refine sh_Lk_lift (T := m.T) (I := m.I) (J := m.J) (s := m.s) (pc2 := 99) (lv2 := [(7, .int (sh_b2 y0)), (0, .ref 42), (1, .int x1), (2, .int (sh_b2 x2)), (3, .int x3), (4, .int x4), (5, .int x5), (6, .int x6)]) (st2 := [.int x6]) (I2 := m.I) (J2 := m.J) (fun hT v kk => ?_) ?_
      · refine sh_j0 (c := .eq) (off := (15)) (pc2 := 97) false rfl (sh_Zeqf c) rfl ?_
        refine sh_w (i := (.iload 6)) (len := 2) (pc2 := 99) (lv2 := [(7, .int (sh_b2 y0)), (0, .ref 42), (1, .int x1), (2, .int (sh_b2 x2)), (3, .int x3), (4, .int x4), (5, .int x5), (6, .int x6)]) (st2 := [.int x6]) (h2 := (sh_rep m.T m.I m.J)) rfl rfl rfl ?_
        exact kk
      refine sh_Lk_cS (r := (some (.int (sh_b2 (sf_114 x6))))) (st2 := [.int (sh_b2 (sf_114 x6))]) (pc2 := 102) (k2 := 114) (as := [.int x6]) (rest := []) rfl rfl (by decide) (Nat.le_of_ble_eq_true rfl) rfl rfl ⟨Nat.le_of_ble_eq_true rfl, Nat.le_of_ble_eq_true rfl⟩ (sl_114 (m := m) rfl ⟨rfl, rfl⟩) rfl rfl (Nat.le_of_ble_eq_true rfl) (Nat.le_of_ble_eq_true rfl) ?_
      rcases sh_ite e with ⟨c, e⟩ | ⟨c, e⟩
      · refine sh_Lk_lift (T := m.T) (I := m.I) (J := m.J) (s := m.s) (pc2 := 109) (lv2 := [(7, .int (sh_b2 y0)), (0, .ref 42), (1, .int x1), (2, .int (sh_b2 x2)), (3, .int x3), (4, .int x4), (5, .int x5), (6, .int x6)]) (st2 := []) (I2 := m.I) (J2 := m.J) (fun hT v kk => ?_) ?_
        · refine sh_j0 (c := .ne) (off := (7)) (pc2 := 109) true rfl (sh_Znet c) rfl ?_
          exact kk
        exact sh_Lk_sub (sh_sub_c rfl (sh_sub_c rfl (sh_sub_c rfl (sh_sub_c rfl (sh_sub_c rfl (sh_sub_c rfl (sh_sub_c rfl (sh_sub_c rfl (sh_sub_n))))))))) (sl_172_109 e tg)
      · refine sh_Lk_lift (T := m.T) (I := m.I) (J := m.J) (s := m.s) (pc2 := 110) (lv2 := [(7, .int (sh_b2 y0)), (0, .ref 42), (1, .int x1), (2, .int (sh_b2 x2)), (3, .int x3), (4, .int x4), (5, .int x5), (6, .int x6)]) (st2 := [.int 1]) (I2 := m.I) (J2 := m.J) (fun hT v kk => ?_) ?_
        · refine sh_j0 (c := .ne) (off := (7)) (pc2 := 105) false rfl (sh_Znef c) rfl ?_
          refine sh_w (i := (.iconst 1)) (len := 1) (pc2 := 106) (lv2 := [(7, .int (sh_b2 y0)), (0, .ref 42), (1, .int x1), (2, .int (sh_b2 x2)), (3, .int x3), (4, .int x4), (5, .int x5), (6, .int x6)]) (st2 := [.int 1]) (h2 := (sh_rep m.T m.I m.J)) rfl rfl rfl ?_
          refine sh_w (i := (.goto 4)) (len := 3) (pc2 := 110) (lv2 := [(7, .int (sh_b2 y0)), (0, .ref 42), (1, .int x1), (2, .int (sh_b2 x2)), (3, .int x3), (4, .int x4), (5, .int x5), (6, .int x6)]) (st2 := [.int 1]) (h2 := (sh_rep m.T m.I m.J)) rfl rfl rfl ?_
          exact kk
        exact sh_Lk_sub (sh_sub_c rfl (sh_sub_c rfl (sh_sub_c rfl (sh_sub_c rfl (sh_sub_c rfl (sh_sub_c rfl (sh_sub_c rfl (sh_sub_c rfl (sh_sub_n))))))))) (sl_172_110 e tg)
    · refine sh_Lk_lift (T := m.T) (I := m.I) (J := m.J) (s := m.s) (pc2 := 109) (lv2 := [(7, .int (sh_b2 y0)), (0, .ref 42), (1, .int x1), (2, .int (sh_b2 x2)), (3, .int x3), (4, .int x4), (5, .int x5), (6, .int x6)]) (st2 := []) (I2 := m.I) (J2 := m.J) (fun hT v kk => ?_) ?_
      · refine sh_j0 (c := .eq) (off := (15)) (pc2 := 109) true rfl (sh_Zeqt c) rfl ?_
        exact kk
      exact sh_Lk_sub (sh_sub_c rfl (sh_sub_c rfl (sh_sub_c rfl (sh_sub_c rfl (sh_sub_c rfl (sh_sub_c rfl (sh_sub_c rfl (sh_sub_c rfl (sh_sub_n))))))))) (sl_172_109 e tg)
theorem sl_172 {x1 : Int32} {x2 : Bool} {m m2 : sh_X} {o : Outcome} {z : (Option Unit × sh_X)} (e : sf_172 x1 x2 m = some z) (tg : (sh_tVt o m2) z) : sh_Lk 172 0 [(0, .ref 42), (1, .int x1), (2, .int (sh_b2 x2))] [] m o m2 14 344 := by
  unfold sf_172 at e
  refine sh_Lk_lift (T := m.T) (I := m.I) (J := m.J) (s := m.s) (pc2 := 26) (lv2 := [(4, .int ((m.I 48 4) - 1)), (3, .int ((m.I 48 4) - 2)), (0, .ref 42), (1, .int x1), (2, .int (sh_b2 x2))]) (st2 := [.int 160, .int ((m.I 48 4) - 2), .ref 42]) (I2 := m.I) (J2 := m.J) (fun hT v kk => ?_) ?_
  · refine sh_w (i := (.aload_n 0)) (len := 1) (pc2 := 1) (lv2 := [(0, .ref 42), (1, .int x1), (2, .int (sh_b2 x2))]) (st2 := [.ref 42]) (h2 := (sh_rep m.T m.I m.J)) rfl rfl rfl ?_
    refine sh_gR1 (len := 3) (x := .ref 49) (pc2 := 4) rfl rfl (sh_s41 hT.st) rfl rfl ?_
    refine sh_gI1 (len := 3) (x := m.I 48 4) (pc2 := 7) rfl rfl (sh_s48 hT.st) rfl rfl rfl ?_
    refine sh_w (i := (.iconst 2)) (len := 1) (pc2 := 8) (lv2 := [(0, .ref 42), (1, .int x1), (2, .int (sh_b2 x2))]) (st2 := [.int 2, .int (m.I 48 4)]) (h2 := (sh_rep m.T m.I m.J)) rfl rfl rfl ?_
    refine sh_w (i := .isub) (len := 1) (pc2 := 9) (lv2 := [(0, .ref 42), (1, .int x1), (2, .int (sh_b2 x2))]) (st2 := [.int ((m.I 48 4) - 2)]) (h2 := (sh_rep m.T m.I m.J)) rfl rfl rfl ?_
    refine sh_w (i := (.istore_n 3)) (len := 1) (pc2 := 10) (lv2 := [(3, .int ((m.I 48 4) - 2)), (0, .ref 42), (1, .int x1), (2, .int (sh_b2 x2))]) (st2 := []) (h2 := (sh_rep m.T m.I m.J)) rfl rfl rfl ?_
    refine sh_w (i := (.aload_n 0)) (len := 1) (pc2 := 11) (lv2 := [(3, .int ((m.I 48 4) - 2)), (0, .ref 42), (1, .int x1), (2, .int (sh_b2 x2))]) (st2 := [.ref 42]) (h2 := (sh_rep m.T m.I m.J)) rfl rfl rfl ?_
    refine sh_gR1 (len := 3) (x := .ref 49) (pc2 := 14) rfl rfl (sh_s41 hT.st) rfl rfl ?_
    refine sh_gI1 (len := 3) (x := m.I 48 4) (pc2 := 17) rfl rfl (sh_s48 hT.st) rfl rfl rfl ?_
    refine sh_w (i := (.iconst 1)) (len := 1) (pc2 := 18) (lv2 := [(3, .int ((m.I 48 4) - 2)), (0, .ref 42), (1, .int x1), (2, .int (sh_b2 x2))]) (st2 := [.int 1, .int (m.I 48 4)]) (h2 := (sh_rep m.T m.I m.J)) rfl rfl rfl ?_
    refine sh_w (i := .isub) (len := 1) (pc2 := 19) (lv2 := [(3, .int ((m.I 48 4) - 2)), (0, .ref 42), (1, .int x1), (2, .int (sh_b2 x2))]) (st2 := [.int ((m.I 48 4) - 1)]) (h2 := (sh_rep m.T m.I m.J)) rfl rfl rfl ?_
    refine sh_w (i := (.istore 4)) (len := 2) (pc2 := 21) (lv2 := [(4, .int ((m.I 48 4) - 1)), (3, .int ((m.I 48 4) - 2)), (0, .ref 42), (1, .int x1), (2, .int (sh_b2 x2))]) (st2 := []) (h2 := (sh_rep m.T m.I m.J)) rfl rfl rfl ?_
    refine sh_w (i := (.aload_n 0)) (len := 1) (pc2 := 22) (lv2 := [(4, .int ((m.I 48 4) - 1)), (3, .int ((m.I 48 4) - 2)), (0, .ref 42), (1, .int x1), (2, .int (sh_b2 x2))]) (st2 := [.ref 42]) (h2 := (sh_rep m.T m.I m.J)) rfl rfl rfl ?_
    refine sh_w (i := (.iload_n 3)) (len := 1) (pc2 := 23) (lv2 := [(4, .int ((m.I 48 4) - 1)), (3, .int ((m.I 48 4) - 2)), (0, .ref 42), (1, .int x1), (2, .int (sh_b2 x2))]) (st2 := [.int ((m.I 48 4) - 2), .ref 42]) (h2 := (sh_rep m.T m.I m.J)) rfl rfl rfl ?_
    refine sh_w (i := (.sipush 160)) (len := 3) (pc2 := 26) (lv2 := [(4, .int ((m.I 48 4) - 1)), (3, .int ((m.I 48 4) - 2)), (0, .ref 42), (1, .int x1), (2, .int (sh_b2 x2))]) (st2 := [.int 160, .int ((m.I 48 4) - 2), .ref 42]) (h2 := (sh_rep m.T m.I m.J)) rfl rfl rfl ?_
    exact kk
  rcases sh_bt_e e with ⟨m11, e1, rfl⟩ | ⟨r1, m11, e1, e⟩
  · obtain ⟨rfl, rfl⟩ := tg
    exact sh_Lk_tV (k2 := 107) (a := 41) (as := [.ref 42, .int ((m.I 48 4) - 2), .int 160]) (rest := []) rfl rfl rfl (fun hT => (sh_s41 hT.st)) rfl rfl ⟨Nat.le_of_ble_eq_true rfl, Nat.le_of_ble_eq_true rfl⟩ (sl_107 e1 ⟨rfl, rfl⟩) rfl (Nat.le_of_ble_eq_true rfl) (Nat.le_of_ble_eq_true rfl) (Nat.le_of_ble_eq_true rfl) (Nat.le_of_ble_eq_true rfl) rfl
  refine sh_Lk_cV (r := none) (st2 := []) (pc2 := 29) (k2 := 107) (a := 41) (as := [.ref 42, .int ((m.I 48 4) - 2), .int 160]) (rest := []) rfl rfl rfl (fun hT => (sh_s41 hT.st)) rfl rfl ⟨Nat.le_of_ble_eq_true rfl, Nat.le_of_ble_eq_true rfl⟩ (sl_107 e1 ⟨rfl, rfl⟩) rfl rfl (Nat.le_of_ble_eq_true rfl) (Nat.le_of_ble_eq_true rfl) ?_
  refine sh_Lk_lift (T := m11.T) (I := m11.I) (J := m11.J) (s := m11.s) (pc2 := 34) (lv2 := [(4, .int ((m.I 48 4) - 1)), (3, .int ((m.I 48 4) - 2)), (0, .ref 42), (1, .int x1), (2, .int (sh_b2 x2))]) (st2 := [.int ((m.I 48 4) - 2), .ref 49]) (I2 := m11.I) (J2 := m11.J) (fun hT v kk => ?_) ?_
  · refine sh_w (i := (.aload_n 0)) (len := 1) (pc2 := 30) (lv2 := [(4, .int ((m.I 48 4) - 1)), (3, .int ((m.I 48 4) - 2)), (0, .ref 42), (1, .int x1), (2, .int (sh_b2 x2))]) (st2 := [.ref 42]) (h2 := (sh_rep m11.T m11.I m11.J)) rfl rfl rfl ?_
    refine sh_gR1 (len := 3) (x := .ref 49) (pc2 := 33) rfl rfl (sh_s41 hT.st) rfl rfl ?_
    refine sh_w (i := (.iload_n 3)) (len := 1) (pc2 := 34) (lv2 := [(4, .int ((m.I 48 4) - 1)), (3, .int ((m.I 48 4) - 2)), (0, .ref 42), (1, .int x1), (2, .int (sh_b2 x2))]) (st2 := [.int ((m.I 48 4) - 2), .ref 49]) (h2 := (sh_rep m11.T m11.I m11.J)) rfl rfl rfl ?_
    exact kk
  obtain ⟨r2, e2, e⟩ := sh_bc_e e
  refine sh_Lk_cV (r := (some (.int r2))) (st2 := [.int r2]) (pc2 := 37) (k2 := 108) (a := 48) (as := [.ref 49, .int ((m.I 48 4) - 2)]) (rest := []) rfl rfl rfl (fun hT => (sh_s48 hT.st)) rfl rfl ⟨Nat.le_of_ble_eq_true rfl, Nat.le_of_ble_eq_true rfl⟩ (sl_108 e2 ⟨rfl, rfl⟩) rfl rfl (Nat.le_of_ble_eq_true rfl) (Nat.le_of_ble_eq_true rfl) ?_
  refine sh_Lk_lift (T := m11.T) (I := m11.I) (J := m11.J) (s := m11.s) (pc2 := 45) (lv2 := [(5, .int r2), (4, .int ((m.I 48 4) - 1)), (3, .int ((m.I 48 4) - 2)), (0, .ref 42), (1, .int x1), (2, .int (sh_b2 x2))]) (st2 := [.int ((m.I 48 4) - 1), .ref 49]) (I2 := m11.I) (J2 := m11.J) (fun hT v kk => ?_) ?_
  · refine sh_w (i := (.istore 5)) (len := 2) (pc2 := 39) (lv2 := [(5, .int r2), (4, .int ((m.I 48 4) - 1)), (3, .int ((m.I 48 4) - 2)), (0, .ref 42), (1, .int x1), (2, .int (sh_b2 x2))]) (st2 := []) (h2 := (sh_rep m11.T m11.I m11.J)) rfl rfl rfl ?_
    refine sh_w (i := (.aload_n 0)) (len := 1) (pc2 := 40) (lv2 := [(5, .int r2), (4, .int ((m.I 48 4) - 1)), (3, .int ((m.I 48 4) - 2)), (0, .ref 42), (1, .int x1), (2, .int (sh_b2 x2))]) (st2 := [.ref 42]) (h2 := (sh_rep m11.T m11.I m11.J)) rfl rfl rfl ?_
    refine sh_gR1 (len := 3) (x := .ref 49) (pc2 := 43) rfl rfl (sh_s41 hT.st) rfl rfl ?_
    refine sh_w (i := (.iload 4)) (len := 2) (pc2 := 45) (lv2 := [(5, .int r2), (4, .int ((m.I 48 4) - 1)), (3, .int ((m.I 48 4) - 2)), (0, .ref 42), (1, .int x1), (2, .int (sh_b2 x2))]) (st2 := [.int ((m.I 48 4) - 1), .ref 49]) (h2 := (sh_rep m11.T m11.I m11.J)) rfl rfl rfl ?_
    exact kk
  obtain ⟨r3, e3, e⟩ := sh_bc_e e
  refine sh_Lk_cV (r := (some (.int r3))) (st2 := [.int r3]) (pc2 := 48) (k2 := 108) (a := 48) (as := [.ref 49, .int ((m.I 48 4) - 1)]) (rest := []) rfl rfl rfl (fun hT => (sh_s48 hT.st)) rfl rfl ⟨Nat.le_of_ble_eq_true rfl, Nat.le_of_ble_eq_true rfl⟩ (sl_108 e3 ⟨rfl, rfl⟩) rfl rfl (Nat.le_of_ble_eq_true rfl) (Nat.le_of_ble_eq_true rfl) ?_
  refine sh_Lk_lift (T := m11.T) (I := m11.I) (J := m11.J) (s := m11.s) (pc2 := 52) (lv2 := [(6, .int r3), (5, .int r2), (4, .int ((m.I 48 4) - 1)), (3, .int ((m.I 48 4) - 2)), (0, .ref 42), (1, .int x1), (2, .int (sh_b2 x2))]) (st2 := [.int r3]) (I2 := m11.I) (J2 := m11.J) (fun hT v kk => ?_) ?_
  · refine sh_w (i := (.istore 6)) (len := 2) (pc2 := 50) (lv2 := [(6, .int r3), (5, .int r2), (4, .int ((m.I 48 4) - 1)), (3, .int ((m.I 48 4) - 2)), (0, .ref 42), (1, .int x1), (2, .int (sh_b2 x2))]) (st2 := []) (h2 := (sh_rep m11.T m11.I m11.J)) rfl rfl rfl ?_
    refine sh_w (i := (.iload 6)) (len := 2) (pc2 := 52) (lv2 := [(6, .int r3), (5, .int r2), (4, .int ((m.I 48 4) - 1)), (3, .int ((m.I 48 4) - 2)), (0, .ref 42), (1, .int x1), (2, .int (sh_b2 x2))]) (st2 := [.int r3]) (h2 := (sh_rep m11.T m11.I m11.J)) rfl rfl rfl ?_
    exact kk
  rcases sh_ite e with ⟨c, e⟩ | ⟨c, e⟩
  · refine sh_Lk_lift (T := m11.T) (I := m11.I) (J := m11.J) (s := m11.s) (pc2 := 60) (lv2 := [(6, .int r3), (5, .int r2), (4, .int ((m.I 48 4) - 1)), (3, .int ((m.I 48 4) - 2)), (0, .ref 42), (1, .int x1), (2, .int (sh_b2 x2))]) (st2 := [.int 1]) (I2 := m11.I) (J2 := m11.J) (fun hT v kk => ?_) ?_
    · refine sh_j0 (c := .ne) (off := (7)) (pc2 := 55) false rfl (sh_Bnef c) rfl ?_
      refine sh_w (i := (.iconst 1)) (len := 1) (pc2 := 56) (lv2 := [(6, .int r3), (5, .int r2), (4, .int ((m.I 48 4) - 1)), (3, .int ((m.I 48 4) - 2)), (0, .ref 42), (1, .int x1), (2, .int (sh_b2 x2))]) (st2 := [.int 1]) (h2 := (sh_rep m11.T m11.I m11.J)) rfl rfl rfl ?_
      refine sh_w (i := (.goto 4)) (len := 3) (pc2 := 60) (lv2 := [(6, .int r3), (5, .int r2), (4, .int ((m.I 48 4) - 1)), (3, .int ((m.I 48 4) - 2)), (0, .ref 42), (1, .int x1), (2, .int (sh_b2 x2))]) (st2 := [.int 1]) (h2 := (sh_rep m11.T m11.I m11.J)) rfl rfl rfl ?_
      exact kk
    exact sh_Lk_sub (sh_sub_c rfl (sh_sub_c rfl (sh_sub_c rfl (sh_sub_c rfl (sh_sub_c rfl (sh_sub_c rfl (sh_sub_c rfl (sh_sub_n)))))))) (sl_172_60 e tg)
  · refine sh_Lk_lift (T := m11.T) (I := m11.I) (J := m11.J) (s := m11.s) (pc2 := 60) (lv2 := [(6, .int r3), (5, .int r2), (4, .int ((m.I 48 4) - 1)), (3, .int ((m.I 48 4) - 2)), (0, .ref 42), (1, .int x1), (2, .int (sh_b2 x2))]) (st2 := [.int 0]) (I2 := m11.I) (J2 := m11.J) (fun hT v kk => ?_) ?_
    · refine sh_j0 (c := .ne) (off := (7)) (pc2 := 59) true rfl (sh_Bnet c) rfl ?_
      refine sh_w (i := (.iconst 0)) (len := 1) (pc2 := 60) (lv2 := [(6, .int r3), (5, .int r2), (4, .int ((m.I 48 4) - 1)), (3, .int ((m.I 48 4) - 2)), (0, .ref 42), (1, .int x1), (2, .int (sh_b2 x2))]) (st2 := [.int 0]) (h2 := (sh_rep m11.T m11.I m11.J)) rfl rfl rfl ?_
      exact kk
    exact sh_Lk_sub (sh_sub_c rfl (sh_sub_c rfl (sh_sub_c rfl (sh_sub_c rfl (sh_sub_c rfl (sh_sub_c rfl (sh_sub_c rfl (sh_sub_n)))))))) (sl_172_60 e tg)
theorem sl_176 {x0 : Int32} {x1 : Int32} {m m2 : sh_X} {o : Outcome} {z : Bool} (e : sf_176 x0 x1 = z) (tg : (sh_tZc m o m2) z) : sh_Lk 176 0 [(0, .int x0), (1, .int x1)] [] m o m2 9 220 := by
  unfold sf_176 at e
  refine sh_Lk_lift (T := m.T) (I := m.I) (J := m.J) (s := m.s) (pc2 := 1) (lv2 := [(0, .int x0), (1, .int x1)]) (st2 := [.int x0]) (I2 := m.I) (J2 := m.J) (fun hT v kk => ?_) ?_
  · refine sh_w (i := (.iload_n 0)) (len := 1) (pc2 := 1) (lv2 := [(0, .int x0), (1, .int x1)]) (st2 := [.int x0]) (h2 := (sh_rep m.T m.I m.J)) rfl rfl rfl ?_
    exact kk
  rcases sh_ite e with ⟨c, e⟩ | ⟨c0, e⟩
  · refine sh_Lk_lift (T := m.T) (I := m.I) (J := m.J) (s := m.s) (pc2 := 82) (lv2 := [(0, .int x0), (1, .int x1)]) (st2 := [.int x1]) (I2 := m.I) (J2 := m.J) (fun hT v kk => ?_) ?_
    · refine sh_w (i := (.lookupswitch 93 #[(38, 80), (94, 80), (124, 80), (8509, 80), (9766, 67), (15677, 80), (31868, 67)])) (len := 67) (pc2 := 81) (lv2 := [(0, .int x0), (1, .int x1)]) (st2 := []) (h2 := (sh_rep m.T m.I m.J)) rfl rfl (c.elim (fun c => sh_sw c rfl) (fun c => c.elim (fun c => sh_sw c rfl) (fun c => c.elim (fun c => sh_sw c rfl) (fun c => c.elim (fun c => sh_sw c rfl) (fun c => sh_sw c rfl))))) ?_
      refine sh_w (i := (.iload_n 1)) (len := 1) (pc2 := 82) (lv2 := [(0, .int x0), (1, .int x1)]) (st2 := [.int x1]) (h2 := (sh_rep m.T m.I m.J)) rfl rfl rfl ?_
      exact kk
    refine sh_Lk_cS (r := (some (.int (sh_b2 (sf_123 x1))))) (st2 := [.int (sh_b2 (sf_123 x1))]) (pc2 := 85) (k2 := 123) (as := [.int x1]) (rest := []) rfl rfl (by decide) (Nat.le_of_ble_eq_true rfl) rfl rfl ⟨Nat.le_of_ble_eq_true rfl, Nat.le_of_ble_eq_true rfl⟩ (sl_123 (m := m) rfl ⟨rfl, rfl⟩) rfl rfl (Nat.le_of_ble_eq_true rfl) (Nat.le_of_ble_eq_true rfl) ?_
    rcases sh_ite e with ⟨c, e⟩ | ⟨c, e⟩
    · refine sh_Lk_lift (T := m.T) (I := m.I) (J := m.J) (s := m.s) (pc2 := 93) (lv2 := [(0, .int x0), (1, .int x1)]) (st2 := [.int 0]) (I2 := m.I) (J2 := m.J) (fun hT v kk => ?_) ?_
      · refine sh_j0 (c := .ne) (off := (7)) (pc2 := 92) true rfl (sh_Znet c) rfl ?_
        refine sh_w (i := (.iconst 0)) (len := 1) (pc2 := 93) (lv2 := [(0, .int x0), (1, .int x1)]) (st2 := [.int 0]) (h2 := (sh_rep m.T m.I m.J)) rfl rfl rfl ?_
        exact kk
      obtain rfl := e
      obtain ⟨rfl, rfl⟩ := tg
      exact sh_Lk_ret (i := .ireturn) rfl rfl rfl (Nat.le_of_ble_eq_true rfl) (Nat.le_of_ble_eq_true rfl)
    · refine sh_Lk_lift (T := m.T) (I := m.I) (J := m.J) (s := m.s) (pc2 := 93) (lv2 := [(0, .int x0), (1, .int x1)]) (st2 := [.int 1]) (I2 := m.I) (J2 := m.J) (fun hT v kk => ?_) ?_
      · refine sh_j0 (c := .ne) (off := (7)) (pc2 := 88) false rfl (sh_Znef c) rfl ?_
        refine sh_w (i := (.iconst 1)) (len := 1) (pc2 := 89) (lv2 := [(0, .int x0), (1, .int x1)]) (st2 := [.int 1]) (h2 := (sh_rep m.T m.I m.J)) rfl rfl rfl ?_
        refine sh_w (i := (.goto 4)) (len := 3) (pc2 := 93) (lv2 := [(0, .int x0), (1, .int x1)]) (st2 := [.int 1]) (h2 := (sh_rep m.T m.I m.J)) rfl rfl rfl ?_
        exact kk
      obtain rfl := e
      obtain ⟨rfl, rfl⟩ := tg
      exact sh_Lk_ret (i := .ireturn) rfl rfl rfl (Nat.le_of_ble_eq_true rfl) (Nat.le_of_ble_eq_true rfl)
  rcases sh_ite e with ⟨c, e⟩ | ⟨c1, e⟩
  · refine sh_Lk_lift (T := m.T) (I := m.I) (J := m.J) (s := m.s) (pc2 := 72) (lv2 := [(0, .int x0), (1, .int x1)]) (st2 := [.int 257, .int x1]) (I2 := m.I) (J2 := m.J) (fun hT v kk => ?_) ?_
    · refine sh_w (i := (.lookupswitch 93 #[(38, 80), (94, 80), (124, 80), (8509, 80), (9766, 67), (15677, 80), (31868, 67)])) (len := 67) (pc2 := 68) (lv2 := [(0, .int x0), (1, .int x1)]) (st2 := []) (h2 := (sh_rep m.T m.I m.J)) rfl rfl (c.elim (fun c => sh_sw c rfl) (fun c => sh_sw c rfl)) ?_
      refine sh_w (i := (.iload_n 1)) (len := 1) (pc2 := 69) (lv2 := [(0, .int x0), (1, .int x1)]) (st2 := [.int x1]) (h2 := (sh_rep m.T m.I m.J)) rfl rfl rfl ?_
      refine sh_w (i := (.sipush 257)) (len := 3) (pc2 := 72) (lv2 := [(0, .int x0), (1, .int x1)]) (st2 := [.int 257, .int x1]) (h2 := (sh_rep m.T m.I m.J)) rfl rfl rfl ?_
      exact kk
    rcases sh_ite e with ⟨c, e⟩ | ⟨c, e⟩
    · refine sh_Lk_lift (T := m.T) (I := m.I) (J := m.J) (s := m.s) (pc2 := 80) (lv2 := [(0, .int x0), (1, .int x1)]) (st2 := [.int 1]) (I2 := m.I) (J2 := m.J) (fun hT v kk => ?_) ?_
      · refine sh_jc (c := .ne) (off := (7)) (pc2 := 75) false rfl (sh_Bnef c) rfl ?_
        refine sh_w (i := (.iconst 1)) (len := 1) (pc2 := 76) (lv2 := [(0, .int x0), (1, .int x1)]) (st2 := [.int 1]) (h2 := (sh_rep m.T m.I m.J)) rfl rfl rfl ?_
        refine sh_w (i := (.goto 4)) (len := 3) (pc2 := 80) (lv2 := [(0, .int x0), (1, .int x1)]) (st2 := [.int 1]) (h2 := (sh_rep m.T m.I m.J)) rfl rfl rfl ?_
        exact kk
      obtain rfl := e
      obtain ⟨rfl, rfl⟩ := tg
      exact sh_Lk_ret (i := .ireturn) rfl rfl rfl (Nat.le_of_ble_eq_true rfl) (Nat.le_of_ble_eq_true rfl)
    · refine sh_Lk_lift (T := m.T) (I := m.I) (J := m.J) (s := m.s) (pc2 := 80) (lv2 := [(0, .int x0), (1, .int x1)]) (st2 := [.int 0]) (I2 := m.I) (J2 := m.J) (fun hT v kk => ?_) ?_
      · refine sh_jc (c := .ne) (off := (7)) (pc2 := 79) true rfl (sh_Bnet c) rfl ?_
        refine sh_w (i := (.iconst 0)) (len := 1) (pc2 := 80) (lv2 := [(0, .int x0), (1, .int x1)]) (st2 := [.int 0]) (h2 := (sh_rep m.T m.I m.J)) rfl rfl rfl ?_
        exact kk
      obtain rfl := e
      obtain ⟨rfl, rfl⟩ := tg
      exact sh_Lk_ret (i := .ireturn) rfl rfl rfl (Nat.le_of_ble_eq_true rfl) (Nat.le_of_ble_eq_true rfl)
  refine sh_Lk_lift (T := m.T) (I := m.I) (J := m.J) (s := m.s) (pc2 := 95) (lv2 := [(0, .int x0), (1, .int x1)]) (st2 := [.int x1]) (I2 := m.I) (J2 := m.J) (fun hT v kk => ?_) ?_
  · refine sh_w (i := (.lookupswitch 93 #[(38, 80), (94, 80), (124, 80), (8509, 80), (9766, 67), (15677, 80), (31868, 67)])) (len := 67) (pc2 := 94) (lv2 := [(0, .int x0), (1, .int x1)]) (st2 := []) (h2 := (sh_rep m.T m.I m.J)) rfl rfl (sh_swl rfl (sh_fc (fun h => c0 (Or.inl h)) (sh_fc (fun h => c0 (Or.inr (Or.inl h))) (sh_fc (fun h => c0 (Or.inr (Or.inr (Or.inl h)))) (sh_fc (fun h => c0 (Or.inr (Or.inr (Or.inr (Or.inl h))))) (sh_fc (fun h => c1 (Or.inl h)) (sh_fc (fun h => c0 (Or.inr (Or.inr (Or.inr (Or.inr (h)))))) (sh_fc (fun h => c1 (Or.inr (h))) sh_fn))))))) rfl) ?_
    refine sh_w (i := (.iload_n 1)) (len := 1) (pc2 := 95) (lv2 := [(0, .int x0), (1, .int x1)]) (st2 := [.int x1]) (h2 := (sh_rep m.T m.I m.J)) rfl rfl rfl ?_
    exact kk
  refine sh_Lk_cS (r := (some (.int (sh_b2 (sf_113 x1))))) (st2 := [.int (sh_b2 (sf_113 x1))]) (pc2 := 98) (k2 := 113) (as := [.int x1]) (rest := []) rfl rfl (by decide) (Nat.le_of_ble_eq_true rfl) rfl rfl ⟨Nat.le_of_ble_eq_true rfl, Nat.le_of_ble_eq_true rfl⟩ (sl_113 (m := m) rfl ⟨rfl, rfl⟩) rfl rfl (Nat.le_of_ble_eq_true rfl) (Nat.le_of_ble_eq_true rfl) ?_
  obtain rfl := e
  obtain ⟨rfl, rfl⟩ := tg
  exact sh_Lk_ret (i := .ireturn) rfl rfl (sh_rb rfl _) (Nat.le_of_ble_eq_true rfl) (Nat.le_of_ble_eq_true rfl)
theorem sl_177_24 {x1 : Int32} {m m2 : sh_X} {o : Outcome} {z : Int32} (e : sf_177_24 x1 = z) (tg : (sh_tIc m o m2) z) : sh_Lk 177 24 [(1, .int x1)] [] m o m2 8 200 := by
  unfold sf_177_24 at e
  refine sh_Lk_lift (T := m.T) (I := m.I) (J := m.J) (s := m.s) (pc2 := 33) (lv2 := [(1, .int x1)]) (st2 := [.int ((2 * x1) * x1)]) (I2 := m.I) (J2 := m.J) (fun hT v kk => ?_) ?_
  · refine sh_w (i := (.iconst 2)) (len := 1) (pc2 := 25) (lv2 := [(1, .int x1)]) (st2 := [.int 2]) (h2 := (sh_rep m.T m.I m.J)) rfl rfl rfl ?_
    refine sh_w (i := (.iload_n 1)) (len := 1) (pc2 := 26) (lv2 := [(1, .int x1)]) (st2 := [.int x1, .int 2]) (h2 := (sh_rep m.T m.I m.J)) rfl rfl rfl ?_
    refine sh_w (i := .imul) (len := 1) (pc2 := 27) (lv2 := [(1, .int x1)]) (st2 := [.int (2 * x1)]) (h2 := (sh_rep m.T m.I m.J)) rfl rfl rfl ?_
    refine sh_w (i := (.iload_n 1)) (len := 1) (pc2 := 28) (lv2 := [(1, .int x1)]) (st2 := [.int x1, .int (2 * x1)]) (h2 := (sh_rep m.T m.I m.J)) rfl rfl rfl ?_
    refine sh_w (i := .imul) (len := 1) (pc2 := 29) (lv2 := [(1, .int x1)]) (st2 := [.int ((2 * x1) * x1)]) (h2 := (sh_rep m.T m.I m.J)) rfl rfl rfl ?_
    refine sh_w (i := (.goto 4)) (len := 3) (pc2 := 33) (lv2 := [(1, .int x1)]) (st2 := [.int ((2 * x1) * x1)]) (h2 := (sh_rep m.T m.I m.J)) rfl rfl rfl ?_
    exact kk
  obtain rfl := e
  obtain ⟨rfl, rfl⟩ := tg
  exact sh_Lk_ret (i := .ireturn) rfl rfl rfl (Nat.le_of_ble_eq_true rfl) (Nat.le_of_ble_eq_true rfl)
theorem sl_177 {x0 : Int32} {x1 : Int32} {m m2 : sh_X} {o : Outcome} {z : Int32} (e : sf_177 x0 x1 = z) (tg : (sh_tIc m o m2) z) : sh_Lk 177 0 [(0, .int x0), (1, .int x1)] [] m o m2 8 200 := by
  unfold sf_177 at e
  refine sh_Lk_lift (T := m.T) (I := m.I) (J := m.J) (s := m.s) (pc2 := 3) (lv2 := [(0, .int x0), (1, .int x1)]) (st2 := [.int 42, .int x0]) (I2 := m.I) (J2 := m.J) (fun hT v kk => ?_) ?_
  · refine sh_w (i := (.iload_n 0)) (len := 1) (pc2 := 1) (lv2 := [(0, .int x0), (1, .int x1)]) (st2 := [.int x0]) (h2 := (sh_rep m.T m.I m.J)) rfl rfl rfl ?_
    refine sh_w (i := (.bipush 42)) (len := 2) (pc2 := 3) (lv2 := [(0, .int x0), (1, .int x1)]) (st2 := [.int 42, .int x0]) (h2 := (sh_rep m.T m.I m.J)) rfl rfl rfl ?_
    exact kk
  rcases sh_ite e with ⟨c, e⟩ | ⟨c, e⟩
  · refine sh_Lk_lift (T := m.T) (I := m.I) (J := m.J) (s := m.s) (pc2 := 33) (lv2 := [(0, .int x0), (1, .int x1)]) (st2 := [.int (x1 * x1)]) (I2 := m.I) (J2 := m.J) (fun hT v kk => ?_) ?_
    · refine sh_jc (c := .ne) (off := (9)) (pc2 := 6) false rfl (sh_Bnef c) rfl ?_
      refine sh_w (i := (.iload_n 1)) (len := 1) (pc2 := 7) (lv2 := [(0, .int x0), (1, .int x1)]) (st2 := [.int x1]) (h2 := (sh_rep m.T m.I m.J)) rfl rfl rfl ?_
      refine sh_w (i := (.iload_n 1)) (len := 1) (pc2 := 8) (lv2 := [(0, .int x0), (1, .int x1)]) (st2 := [.int x1, .int x1]) (h2 := (sh_rep m.T m.I m.J)) rfl rfl rfl ?_
      refine sh_w (i := .imul) (len := 1) (pc2 := 9) (lv2 := [(0, .int x0), (1, .int x1)]) (st2 := [.int (x1 * x1)]) (h2 := (sh_rep m.T m.I m.J)) rfl rfl rfl ?_
      refine sh_w (i := (.goto 24)) (len := 3) (pc2 := 33) (lv2 := [(0, .int x0), (1, .int x1)]) (st2 := [.int (x1 * x1)]) (h2 := (sh_rep m.T m.I m.J)) rfl rfl rfl ?_
      exact kk
    obtain rfl := e
    obtain ⟨rfl, rfl⟩ := tg
    exact sh_Lk_ret (i := .ireturn) rfl rfl rfl (Nat.le_of_ble_eq_true rfl) (Nat.le_of_ble_eq_true rfl)
  · refine sh_Lk_lift (T := m.T) (I := m.I) (J := m.J) (s := m.s) (pc2 := 15) (lv2 := [(0, .int x0), (1, .int x1)]) (st2 := [.int 47, .int x0]) (I2 := m.I) (J2 := m.J) (fun hT v kk => ?_) ?_
    · refine sh_jc (c := .ne) (off := (9)) (pc2 := 12) true rfl (sh_Bnet c) rfl ?_
      refine sh_w (i := (.iload_n 0)) (len := 1) (pc2 := 13) (lv2 := [(0, .int x0), (1, .int x1)]) (st2 := [.int x0]) (h2 := (sh_rep m.T m.I m.J)) rfl rfl rfl ?_
      refine sh_w (i := (.bipush 47)) (len := 2) (pc2 := 15) (lv2 := [(0, .int x0), (1, .int x1)]) (st2 := [.int 47, .int x0]) (h2 := (sh_rep m.T m.I m.J)) rfl rfl rfl ?_
      exact kk
    rcases sh_ite e with ⟨c, e⟩ | ⟨c, e⟩
    · refine sh_Lk_lift (T := m.T) (I := m.I) (J := m.J) (s := m.s) (pc2 := 24) (lv2 := [(0, .int x0), (1, .int x1)]) (st2 := []) (I2 := m.I) (J2 := m.J) (fun hT v kk => ?_) ?_
      · refine sh_jc (c := .eq) (off := (9)) (pc2 := 24) true rfl (sh_Beqt c) rfl ?_
        exact kk
      exact sh_Lk_sub (sh_sub_c rfl (sh_sub_n)) (sl_177_24 e tg)
    · refine sh_Lk_lift (T := m.T) (I := m.I) (J := m.J) (s := m.s) (pc2 := 21) (lv2 := [(0, .int x0), (1, .int x1)]) (st2 := [.int 37, .int x0]) (I2 := m.I) (J2 := m.J) (fun hT v kk => ?_) ?_
      · refine sh_jc (c := .eq) (off := (9)) (pc2 := 18) false rfl (sh_Beqf c) rfl ?_
        refine sh_w (i := (.iload_n 0)) (len := 1) (pc2 := 19) (lv2 := [(0, .int x0), (1, .int x1)]) (st2 := [.int x0]) (h2 := (sh_rep m.T m.I m.J)) rfl rfl rfl ?_
        refine sh_w (i := (.bipush 37)) (len := 2) (pc2 := 21) (lv2 := [(0, .int x0), (1, .int x1)]) (st2 := [.int 37, .int x0]) (h2 := (sh_rep m.T m.I m.J)) rfl rfl rfl ?_
        exact kk
      rcases sh_ite e with ⟨c, e⟩ | ⟨c, e⟩
      · refine sh_Lk_lift (T := m.T) (I := m.I) (J := m.J) (s := m.s) (pc2 := 24) (lv2 := [(0, .int x0), (1, .int x1)]) (st2 := []) (I2 := m.I) (J2 := m.J) (fun hT v kk => ?_) ?_
        · refine sh_jc (c := .ne) (off := (11)) (pc2 := 24) false rfl (sh_Bnef c) rfl ?_
          exact kk
        exact sh_Lk_sub (sh_sub_c rfl (sh_sub_n)) (sl_177_24 e tg)
      · refine sh_Lk_lift (T := m.T) (I := m.I) (J := m.J) (s := m.s) (pc2 := 33) (lv2 := [(0, .int x0), (1, .int x1)]) (st2 := [.int x1]) (I2 := m.I) (J2 := m.J) (fun hT v kk => ?_) ?_
        · refine sh_jc (c := .ne) (off := (11)) (pc2 := 32) true rfl (sh_Bnet c) rfl ?_
          refine sh_w (i := (.iload_n 1)) (len := 1) (pc2 := 33) (lv2 := [(0, .int x0), (1, .int x1)]) (st2 := [.int x1]) (h2 := (sh_rep m.T m.I m.J)) rfl rfl rfl ?_
          exact kk
        obtain rfl := e
        obtain ⟨rfl, rfl⟩ := tg
        exact sh_Lk_ret (i := .ireturn) rfl rfl rfl (Nat.le_of_ble_eq_true rfl) (Nat.le_of_ble_eq_true rfl)
theorem sl_180 {x1 : Int32} {x2 : Int32} {x3 : Int32} {x4 : Int32} {m m2 : sh_X} {o : Outcome} {z : (Int32 × sh_X)} (e : sf_180 x1 x2 x3 x4 m = some z) (tg : (sh_tI o m2) z) : sh_Lk 180 0 [(0, .ref 45), (1, .int x1), (2, .int x2), (3, .int x3), (4, .int x4)] [] m o m2 12 288 := by
  unfold sf_180 at e
  refine sh_Lk_lift (T := m.T) (I := m.I) (J := m.J) (s := m.s) (pc2 := 7) (lv2 := [(0, .ref 45), (1, .int x1), (2, .int x2), (3, .int x3), (4, .int x4)]) (st2 := [.int x4, .int x2, .ref 10]) (I2 := m.I) (J2 := m.J) (fun hT v kk => ?_) ?_
  · refine sh_w (i := (.aload_n 0)) (len := 1) (pc2 := 1) (lv2 := [(0, .ref 45), (1, .int x1), (2, .int x2), (3, .int x3), (4, .int x4)]) (st2 := [.ref 45]) (h2 := (sh_rep m.T m.I m.J)) rfl rfl rfl ?_
    refine sh_gR1 (len := 3) (x := .ref 10) (pc2 := 4) rfl rfl (sh_s44 hT.st) rfl rfl ?_
    refine sh_w (i := (.iload_n 2)) (len := 1) (pc2 := 5) (lv2 := [(0, .ref 45), (1, .int x1), (2, .int x2), (3, .int x3), (4, .int x4)]) (st2 := [.int x2, .ref 10]) (h2 := (sh_rep m.T m.I m.J)) rfl rfl rfl ?_
    refine sh_w (i := (.iload 4)) (len := 2) (pc2 := 7) (lv2 := [(0, .ref 45), (1, .int x1), (2, .int x2), (3, .int x3), (4, .int x4)]) (st2 := [.int x4, .int x2, .ref 10]) (h2 := (sh_rep m.T m.I m.J)) rfl rfl rfl ?_
    exact kk
  obtain ⟨r1, m11, e1, e⟩ := sh_bn_e e
  refine sh_Lk_cV (r := (some (.int r1))) (st2 := [.int r1]) (pc2 := 10) (k2 := 130) (a := 9) (as := [.ref 10, .int x2, .int x4]) (rest := []) rfl rfl rfl (fun hT => hT.t9) rfl rfl ⟨Nat.le_of_ble_eq_true rfl, Nat.le_of_ble_eq_true rfl⟩ (sl_130 e1 ⟨rfl, rfl⟩) rfl rfl (Nat.le_of_ble_eq_true rfl) (Nat.le_of_ble_eq_true rfl) ?_
  refine sh_Lk_lift (T := m11.T) (I := m11.I) (J := m11.J) (s := m11.s) (pc2 := 19) (lv2 := [(5, .int r1), (0, .ref 45), (1, .int x1), (2, .int x2), (3, .int x3), (4, .int x4)]) (st2 := [.int x4, .int x3, .ref 10]) (I2 := m11.I) (J2 := m11.J) (fun hT v kk => ?_) ?_
  · refine sh_w (i := (.istore 5)) (len := 2) (pc2 := 12) (lv2 := [(5, .int r1), (0, .ref 45), (1, .int x1), (2, .int x2), (3, .int x3), (4, .int x4)]) (st2 := []) (h2 := (sh_rep m11.T m11.I m11.J)) rfl rfl rfl ?_
    refine sh_w (i := (.aload_n 0)) (len := 1) (pc2 := 13) (lv2 := [(5, .int r1), (0, .ref 45), (1, .int x1), (2, .int x2), (3, .int x3), (4, .int x4)]) (st2 := [.ref 45]) (h2 := (sh_rep m11.T m11.I m11.J)) rfl rfl rfl ?_
    refine sh_gR1 (len := 3) (x := .ref 10) (pc2 := 16) rfl rfl (sh_s44 hT.st) rfl rfl ?_
    refine sh_w (i := (.iload_n 3)) (len := 1) (pc2 := 17) (lv2 := [(5, .int r1), (0, .ref 45), (1, .int x1), (2, .int x2), (3, .int x3), (4, .int x4)]) (st2 := [.int x3, .ref 10]) (h2 := (sh_rep m11.T m11.I m11.J)) rfl rfl rfl ?_
    refine sh_w (i := (.iload 4)) (len := 2) (pc2 := 19) (lv2 := [(5, .int r1), (0, .ref 45), (1, .int x1), (2, .int x2), (3, .int x3), (4, .int x4)]) (st2 := [.int x4, .int x3, .ref 10]) (h2 := (sh_rep m11.T m11.I m11.J)) rfl rfl rfl ?_
    exact kk
  obtain ⟨r2, m12, e2, e⟩ := sh_bn_e e
  refine sh_Lk_cV (r := (some (.int r2))) (st2 := [.int r2]) (pc2 := 22) (k2 := 130) (a := 9) (as := [.ref 10, .int x3, .int x4]) (rest := []) rfl rfl rfl (fun hT => hT.t9) rfl rfl ⟨Nat.le_of_ble_eq_true rfl, Nat.le_of_ble_eq_true rfl⟩ (sl_130 e2 ⟨rfl, rfl⟩) rfl rfl (Nat.le_of_ble_eq_true rfl) (Nat.le_of_ble_eq_true rfl) ?_
  refine sh_Lk_lift (T := m12.T) (I := m12.I) (J := m12.J) (s := m12.s) (pc2 := 33) (lv2 := [(6, .int r2), (5, .int r1), (0, .ref 45), (1, .int x1), (2, .int x2), (3, .int x3), (4, .int x4)]) (st2 := [.int x3, .int r1, .ref 10, .int x1, .ref 45]) (I2 := m12.I) (J2 := m12.J) (fun hT v kk => ?_) ?_
  · refine sh_w (i := (.istore 6)) (len := 2) (pc2 := 24) (lv2 := [(6, .int r2), (5, .int r1), (0, .ref 45), (1, .int x1), (2, .int x2), (3, .int x3), (4, .int x4)]) (st2 := []) (h2 := (sh_rep m12.T m12.I m12.J)) rfl rfl rfl ?_
    refine sh_w (i := (.aload_n 0)) (len := 1) (pc2 := 25) (lv2 := [(6, .int r2), (5, .int r1), (0, .ref 45), (1, .int x1), (2, .int x2), (3, .int x3), (4, .int x4)]) (st2 := [.ref 45]) (h2 := (sh_rep m12.T m12.I m12.J)) rfl rfl rfl ?_
    refine sh_w (i := (.iload_n 1)) (len := 1) (pc2 := 26) (lv2 := [(6, .int r2), (5, .int r1), (0, .ref 45), (1, .int x1), (2, .int x2), (3, .int x3), (4, .int x4)]) (st2 := [.int x1, .ref 45]) (h2 := (sh_rep m12.T m12.I m12.J)) rfl rfl rfl ?_
    refine sh_w (i := (.aload_n 0)) (len := 1) (pc2 := 27) (lv2 := [(6, .int r2), (5, .int r1), (0, .ref 45), (1, .int x1), (2, .int x2), (3, .int x3), (4, .int x4)]) (st2 := [.ref 45, .int x1, .ref 45]) (h2 := (sh_rep m12.T m12.I m12.J)) rfl rfl rfl ?_
    refine sh_gR1 (len := 3) (x := .ref 10) (pc2 := 30) rfl rfl (sh_s44 hT.st) rfl rfl ?_
    refine sh_w (i := (.iload 5)) (len := 2) (pc2 := 32) (lv2 := [(6, .int r2), (5, .int r1), (0, .ref 45), (1, .int x1), (2, .int x2), (3, .int x3), (4, .int x4)]) (st2 := [.int r1, .ref 10, .int x1, .ref 45]) (h2 := (sh_rep m12.T m12.I m12.J)) rfl rfl rfl ?_
    refine sh_w (i := (.iload_n 3)) (len := 1) (pc2 := 33) (lv2 := [(6, .int r2), (5, .int r1), (0, .ref 45), (1, .int x1), (2, .int x2), (3, .int x3), (4, .int x4)]) (st2 := [.int x3, .int r1, .ref 10, .int x1, .ref 45]) (h2 := (sh_rep m12.T m12.I m12.J)) rfl rfl rfl ?_
    exact kk
  obtain ⟨r3, m13, e3, e⟩ := sh_bn_e e
  refine sh_Lk_cV (r := (some (.int r3))) (st2 := [.int r3, .int x1, .ref 45]) (pc2 := 36) (k2 := 130) (a := 9) (as := [.ref 10, .int r1, .int x3]) (rest := [.int x1, .ref 45]) rfl rfl rfl (fun hT => hT.t9) rfl rfl ⟨Nat.le_of_ble_eq_true rfl, Nat.le_of_ble_eq_true rfl⟩ (sl_130 e3 ⟨rfl, rfl⟩) rfl rfl (Nat.le_of_ble_eq_true rfl) (Nat.le_of_ble_eq_true rfl) ?_
  obtain ⟨r4, m14, e4, e⟩ := sh_bn_e e
  refine sh_Lk_cV (r := none) (st2 := []) (pc2 := 39) (k2 := 100) (a := 44) (as := [.ref 45, .int x1, .int r3]) (rest := []) rfl rfl rfl (fun hT => (sh_s44 hT.st)) rfl rfl ⟨Nat.le_of_ble_eq_true rfl, Nat.le_of_ble_eq_true rfl⟩ (sl_100 e4 ⟨rfl, rfl⟩) rfl rfl (Nat.le_of_ble_eq_true rfl) (Nat.le_of_ble_eq_true rfl) ?_
  refine sh_Lk_lift (T := m14.T) (I := m14.I) (J := m14.J) (s := m14.s) (pc2 := 51) (lv2 := [(6, .int r2), (5, .int r1), (0, .ref 45), (1, .int x1), (2, .int x2), (3, .int x3), (4, .int x4)]) (st2 := [.int r2, .int r1, .ref 10, .ref 10]) (I2 := m14.I) (J2 := m14.J) (fun hT v kk => ?_) ?_
  · refine sh_w (i := (.aload_n 0)) (len := 1) (pc2 := 40) (lv2 := [(6, .int r2), (5, .int r1), (0, .ref 45), (1, .int x1), (2, .int x2), (3, .int x3), (4, .int x4)]) (st2 := [.ref 45]) (h2 := (sh_rep m14.T m14.I m14.J)) rfl rfl rfl ?_
    refine sh_gR1 (len := 3) (x := .ref 10) (pc2 := 43) rfl rfl (sh_s44 hT.st) rfl rfl ?_
    refine sh_w (i := (.aload_n 0)) (len := 1) (pc2 := 44) (lv2 := [(6, .int r2), (5, .int r1), (0, .ref 45), (1, .int x1), (2, .int x2), (3, .int x3), (4, .int x4)]) (st2 := [.ref 45, .ref 10]) (h2 := (sh_rep m14.T m14.I m14.J)) rfl rfl rfl ?_
    refine sh_gR1 (len := 3) (x := .ref 10) (pc2 := 47) rfl rfl (sh_s44 hT.st) rfl rfl ?_
    refine sh_w (i := (.iload 5)) (len := 2) (pc2 := 49) (lv2 := [(6, .int r2), (5, .int r1), (0, .ref 45), (1, .int x1), (2, .int x2), (3, .int x3), (4, .int x4)]) (st2 := [.int r1, .ref 10, .ref 10]) (h2 := (sh_rep m14.T m14.I m14.J)) rfl rfl rfl ?_
    refine sh_w (i := (.iload 6)) (len := 2) (pc2 := 51) (lv2 := [(6, .int r2), (5, .int r1), (0, .ref 45), (1, .int x1), (2, .int x2), (3, .int x3), (4, .int x4)]) (st2 := [.int r2, .int r1, .ref 10, .ref 10]) (h2 := (sh_rep m14.T m14.I m14.J)) rfl rfl rfl ?_
    exact kk
  obtain ⟨r5, m15, e5, e⟩ := sh_bn_e e
  refine sh_Lk_cV (r := (some (.int r5))) (st2 := [.int r5, .ref 10]) (pc2 := 54) (k2 := 132) (a := 9) (as := [.ref 10, .int r1, .int r2]) (rest := [.ref 10]) rfl rfl rfl (fun hT => hT.t9) rfl rfl ⟨Nat.le_of_ble_eq_true rfl, Nat.le_of_ble_eq_true rfl⟩ (sl_132 e5 ⟨rfl, rfl⟩) rfl rfl (Nat.le_of_ble_eq_true rfl) (Nat.le_of_ble_eq_true rfl) ?_
  refine sh_Lk_lift (T := m15.T) (I := m15.I) (J := m15.J) (s := m15.s) (pc2 := 56) (lv2 := [(6, .int r2), (5, .int r1), (0, .ref 45), (1, .int x1), (2, .int x2), (3, .int x3), (4, .int x4)]) (st2 := [.int x4, .int r5, .ref 10]) (I2 := m15.I) (J2 := m15.J) (fun hT v kk => ?_) ?_
  · refine sh_w (i := (.iload 4)) (len := 2) (pc2 := 56) (lv2 := [(6, .int r2), (5, .int r1), (0, .ref 45), (1, .int x1), (2, .int x2), (3, .int x3), (4, .int x4)]) (st2 := [.int x4, .int r5, .ref 10]) (h2 := (sh_rep m15.T m15.I m15.J)) rfl rfl rfl ?_
    exact kk
  obtain ⟨r6, m16, e6, e⟩ := sh_bn_e e
  refine sh_Lk_cV (r := (some (.int r6))) (st2 := [.int r6]) (pc2 := 59) (k2 := 130) (a := 9) (as := [.ref 10, .int r5, .int x4]) (rest := []) rfl rfl rfl (fun hT => hT.t9) rfl rfl ⟨Nat.le_of_ble_eq_true rfl, Nat.le_of_ble_eq_true rfl⟩ (sl_130 e6 ⟨rfl, rfl⟩) rfl rfl (Nat.le_of_ble_eq_true rfl) (Nat.le_of_ble_eq_true rfl) ?_
  obtain rfl := Option.some.inj e
  obtain ⟨rfl, rfl⟩ := tg
  exact sh_Lk_ret (i := .ireturn) rfl rfl rfl (Nat.le_of_ble_eq_true rfl) (Nat.le_of_ble_eq_true rfl)
theorem sl_179_14s {x1 : Int32} {x2 : Int32} {x3 : Int32} {x4 : Int32} {x5 : Int32} {x6 : Int32} {x7 : Int32} {m m2 : sh_X} {o : Outcome} {z : ((Int32 × Int32 × sh_X) ⊕ (Int32 × sh_X))} (e : sf_179_14s x1 x2 x3 x4 x5 x6 x7 m = some z) (tg : (sh_el (fun q => sh_Lk 179 14 [(0, .ref 45), (1, .int x1), (2, .int x2), (3, .int x3), (4, .int x4), (5, .int x5), (6, .int q.1), (7, .int q.2.1)] [] q.2.2 o m2 13 314) (sh_tI o m2)) z) : sh_Lk 179 14 [(0, .ref 45), (1, .int x1), (2, .int x2), (3, .int x3), (4, .int x4), (5, .int x5), (6, .int x6), (7, .int x7)] [] m o m2 13 314 := by
  unfold sf_179_14s at e
  refine sh_Lk_lift (T := m.T) (I := m.I) (J := m.J) (s := m.s) (pc2 := 17) (lv2 := [(0, .ref 45), (1, .int x1), (2, .int x2), (3, .int x3), (4, .int x4), (5, .int x5), (6, .int x6), (7, .int x7)]) (st2 := [.int x3, .int x7]) (I2 := m.I) (J2 := m.J) (fun hT v kk => ?_) ?_
  · refine sh_w (i := (.iload 7)) (len := 2) (pc2 := 16) (lv2 := [(0, .ref 45), (1, .int x1), (2, .int x2), (3, .int x3), (4, .int x4), (5, .int x5), (6, .int x6), (7, .int x7)]) (st2 := [.int x7]) (h2 := (sh_rep m.T m.I m.J)) rfl rfl rfl ?_
    refine sh_w (i := (.iload_n 3)) (len := 1) (pc2 := 17) (lv2 := [(0, .ref 45), (1, .int x1), (2, .int x2), (3, .int x3), (4, .int x4), (5, .int x5), (6, .int x6), (7, .int x7)]) (st2 := [.int x3, .int x7]) (h2 := (sh_rep m.T m.I m.J)) rfl rfl rfl ?_
    exact kk
  rcases sh_ite e with ⟨c, e⟩ | ⟨c, e⟩
  · refine sh_Lk_lift (T := m.T) (I := m.I) (J := m.J) (s := m.s) (pc2 := 31) (lv2 := [(0, .ref 45), (1, .int x1), (2, .int x2), (3, .int x3), (4, .int x4), (5, .int x5), (6, .int x6), (7, .int x7)]) (st2 := [.int (x1 + x7), .ref 45, .int (x5 + x7), .ref 45]) (I2 := m.I) (J2 := m.J) (fun hT v kk => ?_) ?_
    · refine sh_jc (c := .ge) (off := (47)) (pc2 := 20) false rfl (sh_Bgef c) rfl ?_
      refine sh_w (i := (.aload_n 0)) (len := 1) (pc2 := 21) (lv2 := [(0, .ref 45), (1, .int x1), (2, .int x2), (3, .int x3), (4, .int x4), (5, .int x5), (6, .int x6), (7, .int x7)]) (st2 := [.ref 45]) (h2 := (sh_rep m.T m.I m.J)) rfl rfl rfl ?_
      refine sh_w (i := (.iload 5)) (len := 2) (pc2 := 23) (lv2 := [(0, .ref 45), (1, .int x1), (2, .int x2), (3, .int x3), (4, .int x4), (5, .int x5), (6, .int x6), (7, .int x7)]) (st2 := [.int x5, .ref 45]) (h2 := (sh_rep m.T m.I m.J)) rfl rfl rfl ?_
      refine sh_w (i := (.iload 7)) (len := 2) (pc2 := 25) (lv2 := [(0, .ref 45), (1, .int x1), (2, .int x2), (3, .int x3), (4, .int x4), (5, .int x5), (6, .int x6), (7, .int x7)]) (st2 := [.int x7, .int x5, .ref 45]) (h2 := (sh_rep m.T m.I m.J)) rfl rfl rfl ?_
      refine sh_w (i := .iadd) (len := 1) (pc2 := 26) (lv2 := [(0, .ref 45), (1, .int x1), (2, .int x2), (3, .int x3), (4, .int x4), (5, .int x5), (6, .int x6), (7, .int x7)]) (st2 := [.int (x5 + x7), .ref 45]) (h2 := (sh_rep m.T m.I m.J)) rfl rfl rfl ?_
      refine sh_w (i := (.aload_n 0)) (len := 1) (pc2 := 27) (lv2 := [(0, .ref 45), (1, .int x1), (2, .int x2), (3, .int x3), (4, .int x4), (5, .int x5), (6, .int x6), (7, .int x7)]) (st2 := [.ref 45, .int (x5 + x7), .ref 45]) (h2 := (sh_rep m.T m.I m.J)) rfl rfl rfl ?_
      refine sh_w (i := (.iload_n 1)) (len := 1) (pc2 := 28) (lv2 := [(0, .ref 45), (1, .int x1), (2, .int x2), (3, .int x3), (4, .int x4), (5, .int x5), (6, .int x6), (7, .int x7)]) (st2 := [.int x1, .ref 45, .int (x5 + x7), .ref 45]) (h2 := (sh_rep m.T m.I m.J)) rfl rfl rfl ?_
      refine sh_w (i := (.iload 7)) (len := 2) (pc2 := 30) (lv2 := [(0, .ref 45), (1, .int x1), (2, .int x2), (3, .int x3), (4, .int x4), (5, .int x5), (6, .int x6), (7, .int x7)]) (st2 := [.int x7, .int x1, .ref 45, .int (x5 + x7), .ref 45]) (h2 := (sh_rep m.T m.I m.J)) rfl rfl rfl ?_
      refine sh_w (i := .iadd) (len := 1) (pc2 := 31) (lv2 := [(0, .ref 45), (1, .int x1), (2, .int x2), (3, .int x3), (4, .int x4), (5, .int x5), (6, .int x6), (7, .int x7)]) (st2 := [.int (x1 + x7), .ref 45, .int (x5 + x7), .ref 45]) (h2 := (sh_rep m.T m.I m.J)) rfl rfl rfl ?_
      exact kk
    obtain ⟨r1, e1, e⟩ := sh_bc_e e
    refine sh_Lk_cV (r := (some (.int r1))) (st2 := [.int r1, .int (x5 + x7), .ref 45]) (pc2 := 34) (k2 := 103) (a := 44) (as := [.ref 45, .int (x1 + x7)]) (rest := [.int (x5 + x7), .ref 45]) rfl rfl rfl (fun hT => (sh_s44 hT.st)) rfl rfl ⟨Nat.le_of_ble_eq_true rfl, Nat.le_of_ble_eq_true rfl⟩ (sl_103 e1 ⟨rfl, rfl⟩) rfl rfl (Nat.le_of_ble_eq_true rfl) (Nat.le_of_ble_eq_true rfl) ?_
    refine sh_Lk_lift (T := m.T) (I := m.I) (J := m.J) (s := m.s) (pc2 := 43) (lv2 := [(0, .ref 45), (1, .int x1), (2, .int x2), (3, .int x3), (4, .int x4), (5, .int x5), (6, .int x6), (7, .int x7)]) (st2 := [.int (x2 + x7), .ref 45, .ref 10, .int r1, .int (x5 + x7), .ref 45]) (I2 := m.I) (J2 := m.J) (fun hT v kk => ?_) ?_
    · refine sh_w (i := (.aload_n 0)) (len := 1) (pc2 := 35) (lv2 := [(0, .ref 45), (1, .int x1), (2, .int x2), (3, .int x3), (4, .int x4), (5, .int x5), (6, .int x6), (7, .int x7)]) (st2 := [.ref 45, .int r1, .int (x5 + x7), .ref 45]) (h2 := (sh_rep m.T m.I m.J)) rfl rfl rfl ?_
      refine sh_gR1 (len := 3) (x := .ref 10) (pc2 := 38) rfl rfl (sh_s44 hT.st) rfl rfl ?_
      refine sh_w (i := (.aload_n 0)) (len := 1) (pc2 := 39) (lv2 := [(0, .ref 45), (1, .int x1), (2, .int x2), (3, .int x3), (4, .int x4), (5, .int x5), (6, .int x6), (7, .int x7)]) (st2 := [.ref 45, .ref 10, .int r1, .int (x5 + x7), .ref 45]) (h2 := (sh_rep m.T m.I m.J)) rfl rfl rfl ?_
      refine sh_w (i := (.iload_n 2)) (len := 1) (pc2 := 40) (lv2 := [(0, .ref 45), (1, .int x1), (2, .int x2), (3, .int x3), (4, .int x4), (5, .int x5), (6, .int x6), (7, .int x7)]) (st2 := [.int x2, .ref 45, .ref 10, .int r1, .int (x5 + x7), .ref 45]) (h2 := (sh_rep m.T m.I m.J)) rfl rfl rfl ?_
      refine sh_w (i := (.iload 7)) (len := 2) (pc2 := 42) (lv2 := [(0, .ref 45), (1, .int x1), (2, .int x2), (3, .int x3), (4, .int x4), (5, .int x5), (6, .int x6), (7, .int x7)]) (st2 := [.int x7, .int x2, .ref 45, .ref 10, .int r1, .int (x5 + x7), .ref 45]) (h2 := (sh_rep m.T m.I m.J)) rfl rfl rfl ?_
      refine sh_w (i := .iadd) (len := 1) (pc2 := 43) (lv2 := [(0, .ref 45), (1, .int x1), (2, .int x2), (3, .int x3), (4, .int x4), (5, .int x5), (6, .int x6), (7, .int x7)]) (st2 := [.int (x2 + x7), .ref 45, .ref 10, .int r1, .int (x5 + x7), .ref 45]) (h2 := (sh_rep m.T m.I m.J)) rfl rfl rfl ?_
      exact kk
    obtain ⟨r2, e2, e⟩ := sh_bc_e e
    refine sh_Lk_cV (r := (some (.int r2))) (st2 := [.int r2, .ref 10, .int r1, .int (x5 + x7), .ref 45]) (pc2 := 46) (k2 := 103) (a := 44) (as := [.ref 45, .int (x2 + x7)]) (rest := [.ref 10, .int r1, .int (x5 + x7), .ref 45]) rfl rfl rfl (fun hT => (sh_s44 hT.st)) rfl rfl ⟨Nat.le_of_ble_eq_true rfl, Nat.le_of_ble_eq_true rfl⟩ (sl_103 e2 ⟨rfl, rfl⟩) rfl rfl (Nat.le_of_ble_eq_true rfl) (Nat.le_of_ble_eq_true rfl) ?_
    refine sh_Lk_lift (T := m.T) (I := m.I) (J := m.J) (s := m.s) (pc2 := 48) (lv2 := [(0, .ref 45), (1, .int x1), (2, .int x2), (3, .int x3), (4, .int x4), (5, .int x5), (6, .int x6), (7, .int x7)]) (st2 := [.int x4, .int r2, .ref 10, .int r1, .int (x5 + x7), .ref 45]) (I2 := m.I) (J2 := m.J) (fun hT v kk => ?_) ?_
    · refine sh_w (i := (.iload 4)) (len := 2) (pc2 := 48) (lv2 := [(0, .ref 45), (1, .int x1), (2, .int x2), (3, .int x3), (4, .int x4), (5, .int x5), (6, .int x6), (7, .int x7)]) (st2 := [.int x4, .int r2, .ref 10, .int r1, .int (x5 + x7), .ref 45]) (h2 := (sh_rep m.T m.I m.J)) rfl rfl rfl ?_
      exact kk
    obtain ⟨r3, m13, e3, e⟩ := sh_bn_e e
    refine sh_Lk_cV (r := (some (.int r3))) (st2 := [.int r3, .int r1, .int (x5 + x7), .ref 45]) (pc2 := 51) (k2 := 130) (a := 9) (as := [.ref 10, .int r2, .int x4]) (rest := [.int r1, .int (x5 + x7), .ref 45]) rfl rfl rfl (fun hT => hT.t9) rfl rfl ⟨Nat.le_of_ble_eq_true rfl, Nat.le_of_ble_eq_true rfl⟩ (sl_130 e3 ⟨rfl, rfl⟩) rfl rfl (Nat.le_of_ble_eq_true rfl) (Nat.le_of_ble_eq_true rfl) ?_
    refine sh_Lk_lift (T := m13.T) (I := m13.I) (J := m13.J) (s := m13.s) (pc2 := 53) (lv2 := [(0, .ref 45), (1, .int x1), (2, .int x2), (3, .int x3), (4, .int x4), (5, .int x5), (6, .int x6), (7, .int x7)]) (st2 := [.int x6, .int r3, .int r1, .int (x5 + x7), .ref 45]) (I2 := m13.I) (J2 := m13.J) (fun hT v kk => ?_) ?_
    · refine sh_w (i := (.iload 6)) (len := 2) (pc2 := 53) (lv2 := [(0, .ref 45), (1, .int x1), (2, .int x2), (3, .int x3), (4, .int x4), (5, .int x5), (6, .int x6), (7, .int x7)]) (st2 := [.int x6, .int r3, .int r1, .int (x5 + x7), .ref 45]) (h2 := (sh_rep m13.T m13.I m13.J)) rfl rfl rfl ?_
      exact kk
    obtain ⟨r4, m14, e4, e⟩ := sh_bn_e e
    refine sh_Lk_cV (r := (some (.int r4))) (st2 := [.int r4]) (pc2 := 56) (k2 := 180) (a := 44) (as := [.ref 45, .int (x5 + x7), .int r1, .int r3, .int x6]) (rest := []) rfl rfl rfl (fun hT => (sh_s44 hT.st)) rfl rfl ⟨Nat.le_of_ble_eq_true rfl, Nat.le_of_ble_eq_true rfl⟩ (sl_180 e4 ⟨rfl, rfl⟩) rfl rfl (Nat.le_of_ble_eq_true rfl) (Nat.le_of_ble_eq_true rfl) ?_
    refine sh_Lk_lift (T := m14.T) (I := m14.I) (J := m14.J) (s := m14.s) (pc2 := 14) (lv2 := [(7, .int (x7 + 1)), (6, .int r4), (0, .ref 45), (1, .int x1), (2, .int x2), (3, .int x3), (4, .int x4), (5, .int x5)]) (st2 := []) (I2 := m14.I) (J2 := m14.J) (fun hT v kk => ?_) ?_
    · refine sh_w (i := (.istore 6)) (len := 2) (pc2 := 58) (lv2 := [(6, .int r4), (0, .ref 45), (1, .int x1), (2, .int x2), (3, .int x3), (4, .int x4), (5, .int x5), (7, .int x7)]) (st2 := []) (h2 := (sh_rep m14.T m14.I m14.J)) rfl rfl rfl ?_
      refine sh_w (i := (.iinc 7 1)) (len := 3) (pc2 := 61) (lv2 := [(7, .int (x7 + 1)), (6, .int r4), (0, .ref 45), (1, .int x1), (2, .int x2), (3, .int x3), (4, .int x4), (5, .int x5)]) (st2 := []) (h2 := (sh_rep m14.T m14.I m14.J)) rfl rfl rfl ?_
      refine sh_w (i := (.goto (-47))) (len := 3) (pc2 := 14) (lv2 := [(7, .int (x7 + 1)), (6, .int r4), (0, .ref 45), (1, .int x1), (2, .int x2), (3, .int x3), (4, .int x4), (5, .int x5)]) (st2 := []) (h2 := (sh_rep m14.T m14.I m14.J)) rfl rfl rfl ?_
      exact kk
    obtain rfl := Option.some.inj e
    exact sh_Lk_sub (sh_sub_c rfl (sh_sub_c rfl (sh_sub_c rfl (sh_sub_c rfl (sh_sub_c rfl (sh_sub_c rfl (sh_sub_c rfl (sh_sub_c rfl (sh_sub_n))))))))) tg
  · refine sh_Lk_lift (T := m.T) (I := m.I) (J := m.J) (s := m.s) (pc2 := 66) (lv2 := [(0, .ref 45), (1, .int x1), (2, .int x2), (3, .int x3), (4, .int x4), (5, .int x5), (6, .int x6), (7, .int x7)]) (st2 := [.int x5]) (I2 := m.I) (J2 := m.J) (fun hT v kk => ?_) ?_
    · refine sh_jc (c := .ge) (off := (47)) (pc2 := 64) true rfl (sh_Bget c) rfl ?_
      refine sh_w (i := (.iload 5)) (len := 2) (pc2 := 66) (lv2 := [(0, .ref 45), (1, .int x1), (2, .int x2), (3, .int x3), (4, .int x4), (5, .int x5), (6, .int x6), (7, .int x7)]) (st2 := [.int x5]) (h2 := (sh_rep m.T m.I m.J)) rfl rfl rfl ?_
      exact kk
    obtain rfl := Option.some.inj e
    obtain ⟨rfl, rfl⟩ := tg
    exact sh_Lk_ret (i := .ireturn) rfl rfl rfl (Nat.le_of_ble_eq_true rfl) (Nat.le_of_ble_eq_true rfl)
theorem sl_179_14 {x1 : Int32} {x2 : Int32} {x3 : Int32} {x4 : Int32} {x5 : Int32} {x6 : Int32} {x7 : Int32} {m m2 : sh_X} {o : Outcome} {z : (Int32 × sh_X)} (e : sf_179_14 x1 x2 x3 x4 x5 x6 x7 m = some z) (tg : (sh_tI o m2) z) : sh_Lk 179 14 [(0, .ref 45), (1, .int x1), (2, .int x2), (3, .int x3), (4, .int x4), (5, .int x5), (6, .int x6), (7, .int x7)] [] m o m2 13 314 := by
  unfold sf_179_14 at e
  exact sh_while_lk (P := fun q => sh_Lk 179 14 [(0, .ref 45), (1, .int x1), (2, .int x2), (3, .int x3), (4, .int x4), (5, .int x5), (6, .int q.1), (7, .int q.2.1)] [] q.2.2 o m2 13 314) (Q := (sh_tI o m2)) (fun q z e tg => sl_179_14s (x1 := x1) (x2 := x2) (x3 := x3) (x4 := x4) (x5 := x5) (x6 := q.1) (x7 := q.2.1) (m := q.2.2) e tg) (s := (x6, x7, m)) e tg
theorem sl_179 {x1 : Int32} {x2 : Int32} {x3 : Int32} {x4 : Int32} {m m2 : sh_X} {o : Outcome} {z : (Int32 × sh_X)} (e : sf_179 x1 x2 x3 x4 m = some z) (tg : (sh_tI o m2) z) : sh_Lk 179 0 [(0, .ref 45), (1, .int x1), (2, .int x2), (3, .int x3), (4, .int x4)] [] m o m2 13 314 := by
  unfold sf_179 at e
  refine sh_Lk_lift (T := m.T) (I := m.I) (J := m.J) (s := m.s) (pc2 := 2) (lv2 := [(0, .ref 45), (1, .int x1), (2, .int x2), (3, .int x3), (4, .int x4)]) (st2 := [.int x3, .ref 45]) (I2 := m.I) (J2 := m.J) (fun hT v kk => ?_) ?_
  · refine sh_w (i := (.aload_n 0)) (len := 1) (pc2 := 1) (lv2 := [(0, .ref 45), (1, .int x1), (2, .int x2), (3, .int x3), (4, .int x4)]) (st2 := [.ref 45]) (h2 := (sh_rep m.T m.I m.J)) rfl rfl rfl ?_
    refine sh_w (i := (.iload_n 3)) (len := 1) (pc2 := 2) (lv2 := [(0, .ref 45), (1, .int x1), (2, .int x2), (3, .int x3), (4, .int x4)]) (st2 := [.int x3, .ref 45]) (h2 := (sh_rep m.T m.I m.J)) rfl rfl rfl ?_
    exact kk
  obtain ⟨r1, m11, e1, e⟩ := sh_bn_e e
  refine sh_Lk_cV (r := (some (.int r1))) (st2 := [.int r1]) (pc2 := 5) (k2 := 98) (a := 44) (as := [.ref 45, .int x3]) (rest := []) rfl rfl rfl (fun hT => (sh_s44 hT.st)) rfl rfl ⟨Nat.le_of_ble_eq_true rfl, Nat.le_of_ble_eq_true rfl⟩ (sl_98 e1 ⟨rfl, rfl⟩) rfl rfl (Nat.le_of_ble_eq_true rfl) (Nat.le_of_ble_eq_true rfl) ?_
  refine sh_Lk_lift (T := m11.T) (I := m11.I) (J := m11.J) (s := m11.s) (pc2 := 14) (lv2 := [(7, .int 0), (6, .int x4), (5, .int r1), (0, .ref 45), (1, .int x1), (2, .int x2), (3, .int x3), (4, .int x4)]) (st2 := []) (I2 := m11.I) (J2 := m11.J) (fun hT v kk => ?_) ?_
  · refine sh_w (i := (.istore 5)) (len := 2) (pc2 := 7) (lv2 := [(5, .int r1), (0, .ref 45), (1, .int x1), (2, .int x2), (3, .int x3), (4, .int x4)]) (st2 := []) (h2 := (sh_rep m11.T m11.I m11.J)) rfl rfl rfl ?_
    refine sh_w (i := (.iload 4)) (len := 2) (pc2 := 9) (lv2 := [(5, .int r1), (0, .ref 45), (1, .int x1), (2, .int x2), (3, .int x3), (4, .int x4)]) (st2 := [.int x4]) (h2 := (sh_rep m11.T m11.I m11.J)) rfl rfl rfl ?_
    refine sh_w (i := (.istore 6)) (len := 2) (pc2 := 11) (lv2 := [(6, .int x4), (5, .int r1), (0, .ref 45), (1, .int x1), (2, .int x2), (3, .int x3), (4, .int x4)]) (st2 := []) (h2 := (sh_rep m11.T m11.I m11.J)) rfl rfl rfl ?_
    refine sh_w (i := (.iconst 0)) (len := 1) (pc2 := 12) (lv2 := [(6, .int x4), (5, .int r1), (0, .ref 45), (1, .int x1), (2, .int x2), (3, .int x3), (4, .int x4)]) (st2 := [.int 0]) (h2 := (sh_rep m11.T m11.I m11.J)) rfl rfl rfl ?_
    refine sh_w (i := (.istore 7)) (len := 2) (pc2 := 14) (lv2 := [(7, .int 0), (6, .int x4), (5, .int r1), (0, .ref 45), (1, .int x1), (2, .int x2), (3, .int x3), (4, .int x4)]) (st2 := []) (h2 := (sh_rep m11.T m11.I m11.J)) rfl rfl rfl ?_
    exact kk
  exact sh_Lk_sub (sh_sub_c rfl (sh_sub_c rfl (sh_sub_c rfl (sh_sub_c rfl (sh_sub_c rfl (sh_sub_c rfl (sh_sub_c rfl (sh_sub_c rfl (sh_sub_n))))))))) (sl_179_14 e tg)
theorem sl_181_67s {x1 : Int32} {x2 : Int32} {x3 : Int32} {x4 : Int32} {x5 : Int32} {x6 : Int32} {x7 : Int32} {m m2 : sh_X} {o : Outcome} {z : ((Int32 × Int32 × sh_X) ⊕ ((Int32 × sh_X) ⊕ (Int32 × sh_X)))} (e : sf_181_67s x1 x2 x3 x4 x5 x6 x7 m = some z) (tg : (sh_el (fun q => sh_Lk 181 67 [(0, .ref 45), (1, .int x1), (2, .int x2), (3, .int x3), (4, .int x4), (5, .int x5), (6, .int q.1), (7, .int q.2.1)] [] q.2.2 o m2 13 314) (sh_el (fun q => sh_Lk 181 54 [(0, .ref 45), (1, .int x1), (2, .int x2), (3, .int x3), (4, .int x4), (5, .int q.1)] [] q.2 o m2 13 314) (sh_tI o m2))) z) : sh_Lk 181 67 [(0, .ref 45), (1, .int x1), (2, .int x2), (3, .int x3), (4, .int x4), (5, .int x5), (6, .int x6), (7, .int x7)] [] m o m2 13 314 := by
  unfold sf_181_67s at e
  refine sh_Lk_lift (T := m.T) (I := m.I) (J := m.J) (s := m.s) (pc2 := 70) (lv2 := [(0, .ref 45), (1, .int x1), (2, .int x2), (3, .int x3), (4, .int x4), (5, .int x5), (6, .int x6), (7, .int x7)]) (st2 := [.int x3, .int x7]) (I2 := m.I) (J2 := m.J) (fun hT v kk => ?_) ?_
  · refine sh_w (i := (.iload 7)) (len := 2) (pc2 := 69) (lv2 := [(0, .ref 45), (1, .int x1), (2, .int x2), (3, .int x3), (4, .int x4), (5, .int x5), (6, .int x6), (7, .int x7)]) (st2 := [.int x7]) (h2 := (sh_rep m.T m.I m.J)) rfl rfl rfl ?_
    refine sh_w (i := (.iload_n 3)) (len := 1) (pc2 := 70) (lv2 := [(0, .ref 45), (1, .int x1), (2, .int x2), (3, .int x3), (4, .int x4), (5, .int x5), (6, .int x6), (7, .int x7)]) (st2 := [.int x3, .int x7]) (h2 := (sh_rep m.T m.I m.J)) rfl rfl rfl ?_
    exact kk
  rcases sh_ite e with ⟨c, e⟩ | ⟨c, e⟩
  · refine sh_Lk_lift (T := m.T) (I := m.I) (J := m.J) (s := m.s) (pc2 := 85) (lv2 := [(0, .ref 45), (1, .int x1), (2, .int x2), (3, .int x3), (4, .int x4), (5, .int x5), (6, .int x6), (7, .int x7)]) (st2 := [.int ((x1 + x7) - x5), .ref 45, .ref 10]) (I2 := m.I) (J2 := m.J) (fun hT v kk => ?_) ?_
    · refine sh_jc (c := .ge) (off := (61)) (pc2 := 73) false rfl (sh_Bgef c) rfl ?_
      refine sh_w (i := (.aload_n 0)) (len := 1) (pc2 := 74) (lv2 := [(0, .ref 45), (1, .int x1), (2, .int x2), (3, .int x3), (4, .int x4), (5, .int x5), (6, .int x6), (7, .int x7)]) (st2 := [.ref 45]) (h2 := (sh_rep m.T m.I m.J)) rfl rfl rfl ?_
      refine sh_gR1 (len := 3) (x := .ref 10) (pc2 := 77) rfl rfl (sh_s44 hT.st) rfl rfl ?_
      refine sh_w (i := (.aload_n 0)) (len := 1) (pc2 := 78) (lv2 := [(0, .ref 45), (1, .int x1), (2, .int x2), (3, .int x3), (4, .int x4), (5, .int x5), (6, .int x6), (7, .int x7)]) (st2 := [.ref 45, .ref 10]) (h2 := (sh_rep m.T m.I m.J)) rfl rfl rfl ?_
      refine sh_w (i := (.iload_n 1)) (len := 1) (pc2 := 79) (lv2 := [(0, .ref 45), (1, .int x1), (2, .int x2), (3, .int x3), (4, .int x4), (5, .int x5), (6, .int x6), (7, .int x7)]) (st2 := [.int x1, .ref 45, .ref 10]) (h2 := (sh_rep m.T m.I m.J)) rfl rfl rfl ?_
      refine sh_w (i := (.iload 7)) (len := 2) (pc2 := 81) (lv2 := [(0, .ref 45), (1, .int x1), (2, .int x2), (3, .int x3), (4, .int x4), (5, .int x5), (6, .int x6), (7, .int x7)]) (st2 := [.int x7, .int x1, .ref 45, .ref 10]) (h2 := (sh_rep m.T m.I m.J)) rfl rfl rfl ?_
      refine sh_w (i := .iadd) (len := 1) (pc2 := 82) (lv2 := [(0, .ref 45), (1, .int x1), (2, .int x2), (3, .int x3), (4, .int x4), (5, .int x5), (6, .int x6), (7, .int x7)]) (st2 := [.int (x1 + x7), .ref 45, .ref 10]) (h2 := (sh_rep m.T m.I m.J)) rfl rfl rfl ?_
      refine sh_w (i := (.iload 5)) (len := 2) (pc2 := 84) (lv2 := [(0, .ref 45), (1, .int x1), (2, .int x2), (3, .int x3), (4, .int x4), (5, .int x5), (6, .int x6), (7, .int x7)]) (st2 := [.int x5, .int (x1 + x7), .ref 45, .ref 10]) (h2 := (sh_rep m.T m.I m.J)) rfl rfl rfl ?_
      refine sh_w (i := .isub) (len := 1) (pc2 := 85) (lv2 := [(0, .ref 45), (1, .int x1), (2, .int x2), (3, .int x3), (4, .int x4), (5, .int x5), (6, .int x6), (7, .int x7)]) (st2 := [.int ((x1 + x7) - x5), .ref 45, .ref 10]) (h2 := (sh_rep m.T m.I m.J)) rfl rfl rfl ?_
      exact kk
    obtain ⟨r1, e1, e⟩ := sh_bc_e e
    refine sh_Lk_cV (r := (some (.int r1))) (st2 := [.int r1, .ref 10]) (pc2 := 88) (k2 := 103) (a := 44) (as := [.ref 45, .int ((x1 + x7) - x5)]) (rest := [.ref 10]) rfl rfl rfl (fun hT => (sh_s44 hT.st)) rfl rfl ⟨Nat.le_of_ble_eq_true rfl, Nat.le_of_ble_eq_true rfl⟩ (sl_103 e1 ⟨rfl, rfl⟩) rfl rfl (Nat.le_of_ble_eq_true rfl) (Nat.le_of_ble_eq_true rfl) ?_
    refine sh_Lk_lift (T := m.T) (I := m.I) (J := m.J) (s := m.s) (pc2 := 93) (lv2 := [(0, .ref 45), (1, .int x1), (2, .int x2), (3, .int x3), (4, .int x4), (5, .int x5), (6, .int x6), (7, .int x7)]) (st2 := [.int (x2 + x5), .ref 45, .int r1, .ref 10]) (I2 := m.I) (J2 := m.J) (fun hT v kk => ?_) ?_
    · refine sh_w (i := (.aload_n 0)) (len := 1) (pc2 := 89) (lv2 := [(0, .ref 45), (1, .int x1), (2, .int x2), (3, .int x3), (4, .int x4), (5, .int x5), (6, .int x6), (7, .int x7)]) (st2 := [.ref 45, .int r1, .ref 10]) (h2 := (sh_rep m.T m.I m.J)) rfl rfl rfl ?_
      refine sh_w (i := (.iload_n 2)) (len := 1) (pc2 := 90) (lv2 := [(0, .ref 45), (1, .int x1), (2, .int x2), (3, .int x3), (4, .int x4), (5, .int x5), (6, .int x6), (7, .int x7)]) (st2 := [.int x2, .ref 45, .int r1, .ref 10]) (h2 := (sh_rep m.T m.I m.J)) rfl rfl rfl ?_
      refine sh_w (i := (.iload 5)) (len := 2) (pc2 := 92) (lv2 := [(0, .ref 45), (1, .int x1), (2, .int x2), (3, .int x3), (4, .int x4), (5, .int x5), (6, .int x6), (7, .int x7)]) (st2 := [.int x5, .int x2, .ref 45, .int r1, .ref 10]) (h2 := (sh_rep m.T m.I m.J)) rfl rfl rfl ?_
      refine sh_w (i := .iadd) (len := 1) (pc2 := 93) (lv2 := [(0, .ref 45), (1, .int x1), (2, .int x2), (3, .int x3), (4, .int x4), (5, .int x5), (6, .int x6), (7, .int x7)]) (st2 := [.int (x2 + x5), .ref 45, .int r1, .ref 10]) (h2 := (sh_rep m.T m.I m.J)) rfl rfl rfl ?_
      exact kk
    obtain ⟨r2, e2, e⟩ := sh_bc_e e
    refine sh_Lk_cV (r := (some (.int r2))) (st2 := [.int r2, .int r1, .ref 10]) (pc2 := 96) (k2 := 103) (a := 44) (as := [.ref 45, .int (x2 + x5)]) (rest := [.int r1, .ref 10]) rfl rfl rfl (fun hT => (sh_s44 hT.st)) rfl rfl ⟨Nat.le_of_ble_eq_true rfl, Nat.le_of_ble_eq_true rfl⟩ (sl_103 e2 ⟨rfl, rfl⟩) rfl rfl (Nat.le_of_ble_eq_true rfl) (Nat.le_of_ble_eq_true rfl) ?_
    obtain ⟨r3, m13, e3, e⟩ := sh_bn_e e
    refine sh_Lk_cV (r := (some (.int r3))) (st2 := [.int r3]) (pc2 := 99) (k2 := 132) (a := 9) (as := [.ref 10, .int r1, .int r2]) (rest := []) rfl rfl rfl (fun hT => hT.t9) rfl rfl ⟨Nat.le_of_ble_eq_true rfl, Nat.le_of_ble_eq_true rfl⟩ (sl_132 e3 ⟨rfl, rfl⟩) rfl rfl (Nat.le_of_ble_eq_true rfl) (Nat.le_of_ble_eq_true rfl) ?_
    refine sh_Lk_lift (T := m13.T) (I := m13.I) (J := m13.J) (s := m13.s) (pc2 := 113) (lv2 := [(8, .int r3), (0, .ref 45), (1, .int x1), (2, .int x2), (3, .int x3), (4, .int x4), (5, .int x5), (6, .int x6), (7, .int x7)]) (st2 := [.int (x4 + x7), .ref 45, .int (x4 + x7), .ref 45]) (I2 := m13.I) (J2 := m13.J) (fun hT v kk => ?_) ?_
    · refine sh_w (i := (.istore 8)) (len := 2) (pc2 := 101) (lv2 := [(8, .int r3), (0, .ref 45), (1, .int x1), (2, .int x2), (3, .int x3), (4, .int x4), (5, .int x5), (6, .int x6), (7, .int x7)]) (st2 := []) (h2 := (sh_rep m13.T m13.I m13.J)) rfl rfl rfl ?_
      refine sh_w (i := (.aload_n 0)) (len := 1) (pc2 := 102) (lv2 := [(8, .int r3), (0, .ref 45), (1, .int x1), (2, .int x2), (3, .int x3), (4, .int x4), (5, .int x5), (6, .int x6), (7, .int x7)]) (st2 := [.ref 45]) (h2 := (sh_rep m13.T m13.I m13.J)) rfl rfl rfl ?_
      refine sh_w (i := (.iload 4)) (len := 2) (pc2 := 104) (lv2 := [(8, .int r3), (0, .ref 45), (1, .int x1), (2, .int x2), (3, .int x3), (4, .int x4), (5, .int x5), (6, .int x6), (7, .int x7)]) (st2 := [.int x4, .ref 45]) (h2 := (sh_rep m13.T m13.I m13.J)) rfl rfl rfl ?_
      refine sh_w (i := (.iload 7)) (len := 2) (pc2 := 106) (lv2 := [(8, .int r3), (0, .ref 45), (1, .int x1), (2, .int x2), (3, .int x3), (4, .int x4), (5, .int x5), (6, .int x6), (7, .int x7)]) (st2 := [.int x7, .int x4, .ref 45]) (h2 := (sh_rep m13.T m13.I m13.J)) rfl rfl rfl ?_
      refine sh_w (i := .iadd) (len := 1) (pc2 := 107) (lv2 := [(8, .int r3), (0, .ref 45), (1, .int x1), (2, .int x2), (3, .int x3), (4, .int x4), (5, .int x5), (6, .int x6), (7, .int x7)]) (st2 := [.int (x4 + x7), .ref 45]) (h2 := (sh_rep m13.T m13.I m13.J)) rfl rfl rfl ?_
      refine sh_w (i := (.aload_n 0)) (len := 1) (pc2 := 108) (lv2 := [(8, .int r3), (0, .ref 45), (1, .int x1), (2, .int x2), (3, .int x3), (4, .int x4), (5, .int x5), (6, .int x6), (7, .int x7)]) (st2 := [.ref 45, .int (x4 + x7), .ref 45]) (h2 := (sh_rep m13.T m13.I m13.J)) rfl rfl rfl ?_
      refine sh_w (i := (.iload 4)) (len := 2) (pc2 := 110) (lv2 := [(8, .int r3), (0, .ref 45), (1, .int x1), (2, .int x2), (3, .int x3), (4, .int x4), (5, .int x5), (6, .int x6), (7, .int x7)]) (st2 := [.int x4, .ref 45, .int (x4 + x7), .ref 45]) (h2 := (sh_rep m13.T m13.I m13.J)) rfl rfl rfl ?_
      refine sh_w (i := (.iload 7)) (len := 2) (pc2 := 112) (lv2 := [(8, .int r3), (0, .ref 45), (1, .int x1), (2, .int x2), (3, .int x3), (4, .int x4), (5, .int x5), (6, .int x6), (7, .int x7)]) (st2 := [.int x7, .int x4, .ref 45, .int (x4 + x7), .ref 45]) (h2 := (sh_rep m13.T m13.I m13.J)) rfl rfl rfl ?_
      refine sh_w (i := .iadd) (len := 1) (pc2 := 113) (lv2 := [(8, .int r3), (0, .ref 45), (1, .int x1), (2, .int x2), (3, .int x3), (4, .int x4), (5, .int x5), (6, .int x6), (7, .int x7)]) (st2 := [.int (x4 + x7), .ref 45, .int (x4 + x7), .ref 45]) (h2 := (sh_rep m13.T m13.I m13.J)) rfl rfl rfl ?_
      exact kk
    obtain ⟨r4, e4, e⟩ := sh_bc_e e
    refine sh_Lk_cV (r := (some (.int r4))) (st2 := [.int r4, .int (x4 + x7), .ref 45]) (pc2 := 116) (k2 := 103) (a := 44) (as := [.ref 45, .int (x4 + x7)]) (rest := [.int (x4 + x7), .ref 45]) rfl rfl rfl (fun hT => (sh_s44 hT.st)) rfl rfl ⟨Nat.le_of_ble_eq_true rfl, Nat.le_of_ble_eq_true rfl⟩ (sl_103 e4 ⟨rfl, rfl⟩) rfl rfl (Nat.le_of_ble_eq_true rfl) (Nat.le_of_ble_eq_true rfl) ?_
    refine sh_Lk_lift (T := m13.T) (I := m13.I) (J := m13.J) (s := m13.s) (pc2 := 120) (lv2 := [(8, .int r3), (0, .ref 45), (1, .int x1), (2, .int x2), (3, .int x3), (4, .int x4), (5, .int x5), (6, .int x6), (7, .int x7)]) (st2 := [.int x6, .int r3, .int r4, .int (x4 + x7), .ref 45]) (I2 := m13.I) (J2 := m13.J) (fun hT v kk => ?_) ?_
    · refine sh_w (i := (.iload 8)) (len := 2) (pc2 := 118) (lv2 := [(8, .int r3), (0, .ref 45), (1, .int x1), (2, .int x2), (3, .int x3), (4, .int x4), (5, .int x5), (6, .int x6), (7, .int x7)]) (st2 := [.int r3, .int r4, .int (x4 + x7), .ref 45]) (h2 := (sh_rep m13.T m13.I m13.J)) rfl rfl rfl ?_
      refine sh_w (i := (.iload 6)) (len := 2) (pc2 := 120) (lv2 := [(8, .int r3), (0, .ref 45), (1, .int x1), (2, .int x2), (3, .int x3), (4, .int x4), (5, .int x5), (6, .int x6), (7, .int x7)]) (st2 := [.int x6, .int r3, .int r4, .int (x4 + x7), .ref 45]) (h2 := (sh_rep m13.T m13.I m13.J)) rfl rfl rfl ?_
      exact kk
    obtain ⟨r5, m15, e5, e⟩ := sh_bn_e e
    refine sh_Lk_cV (r := (some (.int r5))) (st2 := [.int r5]) (pc2 := 123) (k2 := 180) (a := 44) (as := [.ref 45, .int (x4 + x7), .int r4, .int r3, .int x6]) (rest := []) rfl rfl rfl (fun hT => (sh_s44 hT.st)) rfl rfl ⟨Nat.le_of_ble_eq_true rfl, Nat.le_of_ble_eq_true rfl⟩ (sl_180 e5 ⟨rfl, rfl⟩) rfl rfl (Nat.le_of_ble_eq_true rfl) (Nat.le_of_ble_eq_true rfl) ?_
    refine sh_Lk_lift (T := m15.T) (I := m15.I) (J := m15.J) (s := m15.s) (pc2 := 67) (lv2 := [(7, .int (x7 + 1)), (6, .int r5), (8, .int r3), (0, .ref 45), (1, .int x1), (2, .int x2), (3, .int x3), (4, .int x4), (5, .int x5)]) (st2 := []) (I2 := m15.I) (J2 := m15.J) (fun hT v kk => ?_) ?_
    · refine sh_w (i := (.istore 6)) (len := 2) (pc2 := 125) (lv2 := [(6, .int r5), (8, .int r3), (0, .ref 45), (1, .int x1), (2, .int x2), (3, .int x3), (4, .int x4), (5, .int x5), (7, .int x7)]) (st2 := []) (h2 := (sh_rep m15.T m15.I m15.J)) rfl rfl rfl ?_
      refine sh_w (i := (.iinc 7 1)) (len := 3) (pc2 := 128) (lv2 := [(7, .int (x7 + 1)), (6, .int r5), (8, .int r3), (0, .ref 45), (1, .int x1), (2, .int x2), (3, .int x3), (4, .int x4), (5, .int x5)]) (st2 := []) (h2 := (sh_rep m15.T m15.I m15.J)) rfl rfl rfl ?_
      refine sh_w (i := (.goto (-61))) (len := 3) (pc2 := 67) (lv2 := [(7, .int (x7 + 1)), (6, .int r5), (8, .int r3), (0, .ref 45), (1, .int x1), (2, .int x2), (3, .int x3), (4, .int x4), (5, .int x5)]) (st2 := []) (h2 := (sh_rep m15.T m15.I m15.J)) rfl rfl rfl ?_
      exact kk
    obtain rfl := Option.some.inj e
    exact sh_Lk_sub (sh_sub_c rfl (sh_sub_c rfl (sh_sub_c rfl (sh_sub_c rfl (sh_sub_c rfl (sh_sub_c rfl (sh_sub_c rfl (sh_sub_c rfl (sh_sub_n))))))))) tg
  · refine sh_Lk_lift (T := m.T) (I := m.I) (J := m.J) (s := m.s) (pc2 := 54) (lv2 := [(5, .int (x5 + 1)), (0, .ref 45), (1, .int x1), (2, .int x2), (3, .int x3), (4, .int x4), (6, .int x6), (7, .int x7)]) (st2 := []) (I2 := m.I) (J2 := m.J) (fun hT v kk => ?_) ?_
    · refine sh_jc (c := .ge) (off := (61)) (pc2 := 131) true rfl (sh_Bget c) rfl ?_
      refine sh_w (i := (.iinc 5 1)) (len := 3) (pc2 := 134) (lv2 := [(5, .int (x5 + 1)), (0, .ref 45), (1, .int x1), (2, .int x2), (3, .int x3), (4, .int x4), (6, .int x6), (7, .int x7)]) (st2 := []) (h2 := (sh_rep m.T m.I m.J)) rfl rfl rfl ?_
      refine sh_w (i := (.goto (-80))) (len := 3) (pc2 := 54) (lv2 := [(5, .int (x5 + 1)), (0, .ref 45), (1, .int x1), (2, .int x2), (3, .int x3), (4, .int x4), (6, .int x6), (7, .int x7)]) (st2 := []) (h2 := (sh_rep m.T m.I m.J)) rfl rfl rfl ?_
      exact kk
    obtain rfl := Option.some.inj e
    exact sh_Lk_sub (sh_sub_c rfl (sh_sub_c rfl (sh_sub_c rfl (sh_sub_c rfl (sh_sub_c rfl (sh_sub_c rfl (sh_sub_n))))))) tg
theorem sl_181_67 {x1 : Int32} {x2 : Int32} {x3 : Int32} {x4 : Int32} {x5 : Int32} {x6 : Int32} {x7 : Int32} {m m2 : sh_X} {o : Outcome} {z : ((Int32 × sh_X) ⊕ (Int32 × sh_X))} (e : sf_181_67 x1 x2 x3 x4 x5 x6 x7 m = some z) (tg : (sh_el (fun q => sh_Lk 181 54 [(0, .ref 45), (1, .int x1), (2, .int x2), (3, .int x3), (4, .int x4), (5, .int q.1)] [] q.2 o m2 13 314) (sh_tI o m2)) z) : sh_Lk 181 67 [(0, .ref 45), (1, .int x1), (2, .int x2), (3, .int x3), (4, .int x4), (5, .int x5), (6, .int x6), (7, .int x7)] [] m o m2 13 314 := by
  unfold sf_181_67 at e
  exact sh_while_lk (P := fun q => sh_Lk 181 67 [(0, .ref 45), (1, .int x1), (2, .int x2), (3, .int x3), (4, .int x4), (5, .int x5), (6, .int q.1), (7, .int q.2.1)] [] q.2.2 o m2 13 314) (Q := (sh_el (fun q => sh_Lk 181 54 [(0, .ref 45), (1, .int x1), (2, .int x2), (3, .int x3), (4, .int x4), (5, .int q.1)] [] q.2 o m2 13 314) (sh_tI o m2))) (fun q z e tg => sl_181_67s (x1 := x1) (x2 := x2) (x3 := x3) (x4 := x4) (x5 := x5) (x6 := q.1) (x7 := q.2.1) (m := q.2.2) e tg) (s := (x6, x7, m)) e tg
theorem sl_181_54s {x1 : Int32} {x2 : Int32} {x3 : Int32} {x4 : Int32} {x5 : Int32} {m m2 : sh_X} {o : Outcome} {z : ((Int32 × sh_X) ⊕ (Int32 × sh_X))} (e : sf_181_54s x1 x2 x3 x4 x5 m = some z) (tg : (sh_el (fun q => sh_Lk 181 54 [(0, .ref 45), (1, .int x1), (2, .int x2), (3, .int x3), (4, .int x4), (5, .int q.1)] [] q.2 o m2 13 314) (sh_tI o m2)) z) : sh_Lk 181 54 [(0, .ref 45), (1, .int x1), (2, .int x2), (3, .int x3), (4, .int x4), (5, .int x5)] [] m o m2 13 314 := by
  unfold sf_181_54s at e
  refine sh_Lk_lift (T := m.T) (I := m.I) (J := m.J) (s := m.s) (pc2 := 57) (lv2 := [(0, .ref 45), (1, .int x1), (2, .int x2), (3, .int x3), (4, .int x4), (5, .int x5)]) (st2 := [.int x3, .int x5]) (I2 := m.I) (J2 := m.J) (fun hT v kk => ?_) ?_
  · refine sh_w (i := (.iload 5)) (len := 2) (pc2 := 56) (lv2 := [(0, .ref 45), (1, .int x1), (2, .int x2), (3, .int x3), (4, .int x4), (5, .int x5)]) (st2 := [.int x5]) (h2 := (sh_rep m.T m.I m.J)) rfl rfl rfl ?_
    refine sh_w (i := (.iload_n 3)) (len := 1) (pc2 := 57) (lv2 := [(0, .ref 45), (1, .int x1), (2, .int x2), (3, .int x3), (4, .int x4), (5, .int x5)]) (st2 := [.int x3, .int x5]) (h2 := (sh_rep m.T m.I m.J)) rfl rfl rfl ?_
    exact kk
  rcases sh_ite e with ⟨c, e⟩ | ⟨c, e⟩
  · refine sh_Lk_lift (T := m.T) (I := m.I) (J := m.J) (s := m.s) (pc2 := 67) (lv2 := [(7, .int x5), (6, .int 0), (0, .ref 45), (1, .int x1), (2, .int x2), (3, .int x3), (4, .int x4), (5, .int x5)]) (st2 := []) (I2 := m.I) (J2 := m.J) (fun hT v kk => ?_) ?_
    · refine sh_jc (c := .ge) (off := (80)) (pc2 := 60) false rfl (sh_Bgef c) rfl ?_
      refine sh_w (i := (.iconst 0)) (len := 1) (pc2 := 61) (lv2 := [(0, .ref 45), (1, .int x1), (2, .int x2), (3, .int x3), (4, .int x4), (5, .int x5)]) (st2 := [.int 0]) (h2 := (sh_rep m.T m.I m.J)) rfl rfl rfl ?_
      refine sh_w (i := (.istore 6)) (len := 2) (pc2 := 63) (lv2 := [(6, .int 0), (0, .ref 45), (1, .int x1), (2, .int x2), (3, .int x3), (4, .int x4), (5, .int x5)]) (st2 := []) (h2 := (sh_rep m.T m.I m.J)) rfl rfl rfl ?_
      refine sh_w (i := (.iload 5)) (len := 2) (pc2 := 65) (lv2 := [(6, .int 0), (0, .ref 45), (1, .int x1), (2, .int x2), (3, .int x3), (4, .int x4), (5, .int x5)]) (st2 := [.int x5]) (h2 := (sh_rep m.T m.I m.J)) rfl rfl rfl ?_
      refine sh_w (i := (.istore 7)) (len := 2) (pc2 := 67) (lv2 := [(7, .int x5), (6, .int 0), (0, .ref 45), (1, .int x1), (2, .int x2), (3, .int x3), (4, .int x4), (5, .int x5)]) (st2 := []) (h2 := (sh_rep m.T m.I m.J)) rfl rfl rfl ?_
      exact kk
    exact sh_Lk_sub (sh_sub_c rfl (sh_sub_c rfl (sh_sub_c rfl (sh_sub_c rfl (sh_sub_c rfl (sh_sub_c rfl (sh_sub_c rfl (sh_sub_c rfl (sh_sub_n))))))))) (sl_181_67 e tg)
  · refine sh_Lk_lift (T := m.T) (I := m.I) (J := m.J) (s := m.s) (pc2 := 139) (lv2 := [(0, .ref 45), (1, .int x1), (2, .int x2), (3, .int x3), (4, .int x4), (5, .int x5)]) (st2 := [.int x4]) (I2 := m.I) (J2 := m.J) (fun hT v kk => ?_) ?_
    · refine sh_jc (c := .ge) (off := (80)) (pc2 := 137) true rfl (sh_Bget c) rfl ?_
      refine sh_w (i := (.iload 4)) (len := 2) (pc2 := 139) (lv2 := [(0, .ref 45), (1, .int x1), (2, .int x2), (3, .int x3), (4, .int x4), (5, .int x5)]) (st2 := [.int x4]) (h2 := (sh_rep m.T m.I m.J)) rfl rfl rfl ?_
      exact kk
    obtain rfl := Option.some.inj e
    obtain ⟨rfl, rfl⟩ := tg
    exact sh_Lk_ret (i := .ireturn) rfl rfl rfl (Nat.le_of_ble_eq_true rfl) (Nat.le_of_ble_eq_true rfl)
theorem sl_181_54 {x1 : Int32} {x2 : Int32} {x3 : Int32} {x4 : Int32} {x5 : Int32} {m m2 : sh_X} {o : Outcome} {z : (Int32 × sh_X)} (e : sf_181_54 x1 x2 x3 x4 x5 m = some z) (tg : (sh_tI o m2) z) : sh_Lk 181 54 [(0, .ref 45), (1, .int x1), (2, .int x2), (3, .int x3), (4, .int x4), (5, .int x5)] [] m o m2 13 314 := by
  unfold sf_181_54 at e
  exact sh_while_lk (P := fun q => sh_Lk 181 54 [(0, .ref 45), (1, .int x1), (2, .int x2), (3, .int x3), (4, .int x4), (5, .int q.1)] [] q.2 o m2 13 314) (Q := (sh_tI o m2)) (fun q z e tg => sl_181_54s (x1 := x1) (x2 := x2) (x3 := x3) (x4 := x4) (x5 := q.1) (m := q.2) e tg) (s := (x5, m)) e tg
theorem sl_181_10s {x1 : Int32} {x2 : Int32} {x3 : Int32} {x4 : Int32} {x5 : Int32} {m m2 : sh_X} {o : Outcome} {z : ((Int32 × sh_X) ⊕ (Int32 × sh_X))} (e : sf_181_10s x1 x2 x3 x4 x5 m = some z) (tg : (sh_el (fun q => sh_Lk 181 10 [(0, .ref 45), (1, .int x1), (2, .int x2), (3, .int x3), (4, .int x4), (5, .int q.1)] [] q.2 o m2 13 314) (sh_tI o m2)) z) : sh_Lk 181 10 [(0, .ref 45), (1, .int x1), (2, .int x2), (3, .int x3), (4, .int x4), (5, .int x5)] [] m o m2 13 314 := by
  unfold sf_181_10s at e
  refine sh_Lk_lift (T := m.T) (I := m.I) (J := m.J) (s := m.s) (pc2 := 13) (lv2 := [(0, .ref 45), (1, .int x1), (2, .int x2), (3, .int x3), (4, .int x4), (5, .int x5)]) (st2 := [.int x3, .int x5]) (I2 := m.I) (J2 := m.J) (fun hT v kk => ?_) ?_
  · refine sh_w (i := (.iload 5)) (len := 2) (pc2 := 12) (lv2 := [(0, .ref 45), (1, .int x1), (2, .int x2), (3, .int x3), (4, .int x4), (5, .int x5)]) (st2 := [.int x5]) (h2 := (sh_rep m.T m.I m.J)) rfl rfl rfl ?_
    refine sh_w (i := (.iload_n 3)) (len := 1) (pc2 := 13) (lv2 := [(0, .ref 45), (1, .int x1), (2, .int x2), (3, .int x3), (4, .int x4), (5, .int x5)]) (st2 := [.int x3, .int x5]) (h2 := (sh_rep m.T m.I m.J)) rfl rfl rfl ?_
    exact kk
  rcases sh_ite e with ⟨c, e⟩ | ⟨c, e⟩
  · refine sh_Lk_lift (T := m.T) (I := m.I) (J := m.J) (s := m.s) (pc2 := 31) (lv2 := [(0, .ref 45), (1, .int x1), (2, .int x2), (3, .int x3), (4, .int x4), (5, .int x5)]) (st2 := [.int (x1 + x5), .ref 45, .ref 10, .int (x4 + x5), .ref 45]) (I2 := m.I) (J2 := m.J) (fun hT v kk => ?_) ?_
    · refine sh_jc (c := .ge) (off := (38)) (pc2 := 16) false rfl (sh_Bgef c) rfl ?_
      refine sh_w (i := (.aload_n 0)) (len := 1) (pc2 := 17) (lv2 := [(0, .ref 45), (1, .int x1), (2, .int x2), (3, .int x3), (4, .int x4), (5, .int x5)]) (st2 := [.ref 45]) (h2 := (sh_rep m.T m.I m.J)) rfl rfl rfl ?_
      refine sh_w (i := (.iload 4)) (len := 2) (pc2 := 19) (lv2 := [(0, .ref 45), (1, .int x1), (2, .int x2), (3, .int x3), (4, .int x4), (5, .int x5)]) (st2 := [.int x4, .ref 45]) (h2 := (sh_rep m.T m.I m.J)) rfl rfl rfl ?_
      refine sh_w (i := (.iload 5)) (len := 2) (pc2 := 21) (lv2 := [(0, .ref 45), (1, .int x1), (2, .int x2), (3, .int x3), (4, .int x4), (5, .int x5)]) (st2 := [.int x5, .int x4, .ref 45]) (h2 := (sh_rep m.T m.I m.J)) rfl rfl rfl ?_
      refine sh_w (i := .iadd) (len := 1) (pc2 := 22) (lv2 := [(0, .ref 45), (1, .int x1), (2, .int x2), (3, .int x3), (4, .int x4), (5, .int x5)]) (st2 := [.int (x4 + x5), .ref 45]) (h2 := (sh_rep m.T m.I m.J)) rfl rfl rfl ?_
      refine sh_w (i := (.aload_n 0)) (len := 1) (pc2 := 23) (lv2 := [(0, .ref 45), (1, .int x1), (2, .int x2), (3, .int x3), (4, .int x4), (5, .int x5)]) (st2 := [.ref 45, .int (x4 + x5), .ref 45]) (h2 := (sh_rep m.T m.I m.J)) rfl rfl rfl ?_
      refine sh_gR1 (len := 3) (x := .ref 10) (pc2 := 26) rfl rfl (sh_s44 hT.st) rfl rfl ?_
      refine sh_w (i := (.aload_n 0)) (len := 1) (pc2 := 27) (lv2 := [(0, .ref 45), (1, .int x1), (2, .int x2), (3, .int x3), (4, .int x4), (5, .int x5)]) (st2 := [.ref 45, .ref 10, .int (x4 + x5), .ref 45]) (h2 := (sh_rep m.T m.I m.J)) rfl rfl rfl ?_
      refine sh_w (i := (.iload_n 1)) (len := 1) (pc2 := 28) (lv2 := [(0, .ref 45), (1, .int x1), (2, .int x2), (3, .int x3), (4, .int x4), (5, .int x5)]) (st2 := [.int x1, .ref 45, .ref 10, .int (x4 + x5), .ref 45]) (h2 := (sh_rep m.T m.I m.J)) rfl rfl rfl ?_
      refine sh_w (i := (.iload 5)) (len := 2) (pc2 := 30) (lv2 := [(0, .ref 45), (1, .int x1), (2, .int x2), (3, .int x3), (4, .int x4), (5, .int x5)]) (st2 := [.int x5, .int x1, .ref 45, .ref 10, .int (x4 + x5), .ref 45]) (h2 := (sh_rep m.T m.I m.J)) rfl rfl rfl ?_
      refine sh_w (i := .iadd) (len := 1) (pc2 := 31) (lv2 := [(0, .ref 45), (1, .int x1), (2, .int x2), (3, .int x3), (4, .int x4), (5, .int x5)]) (st2 := [.int (x1 + x5), .ref 45, .ref 10, .int (x4 + x5), .ref 45]) (h2 := (sh_rep m.T m.I m.J)) rfl rfl rfl ?_
      exact kk
    obtain ⟨r1, e1, e⟩ := sh_bc_e e
    refine sh_Lk_cV (r := (some (.int r1))) (st2 := [.int r1, .ref 10, .int (x4 + x5), .ref 45]) (pc2 := 34) (k2 := 103) (a := 44) (as := [.ref 45, .int (x1 + x5)]) (rest := [.ref 10, .int (x4 + x5), .ref 45]) rfl rfl rfl (fun hT => (sh_s44 hT.st)) rfl rfl ⟨Nat.le_of_ble_eq_true rfl, Nat.le_of_ble_eq_true rfl⟩ (sl_103 e1 ⟨rfl, rfl⟩) rfl rfl (Nat.le_of_ble_eq_true rfl) (Nat.le_of_ble_eq_true rfl) ?_
    refine sh_Lk_lift (T := m.T) (I := m.I) (J := m.J) (s := m.s) (pc2 := 36) (lv2 := [(0, .ref 45), (1, .int x1), (2, .int x2), (3, .int x3), (4, .int x4), (5, .int x5)]) (st2 := [.int x2, .ref 45, .int r1, .ref 10, .int (x4 + x5), .ref 45]) (I2 := m.I) (J2 := m.J) (fun hT v kk => ?_) ?_
    · refine sh_w (i := (.aload_n 0)) (len := 1) (pc2 := 35) (lv2 := [(0, .ref 45), (1, .int x1), (2, .int x2), (3, .int x3), (4, .int x4), (5, .int x5)]) (st2 := [.ref 45, .int r1, .ref 10, .int (x4 + x5), .ref 45]) (h2 := (sh_rep m.T m.I m.J)) rfl rfl rfl ?_
      refine sh_w (i := (.iload_n 2)) (len := 1) (pc2 := 36) (lv2 := [(0, .ref 45), (1, .int x1), (2, .int x2), (3, .int x3), (4, .int x4), (5, .int x5)]) (st2 := [.int x2, .ref 45, .int r1, .ref 10, .int (x4 + x5), .ref 45]) (h2 := (sh_rep m.T m.I m.J)) rfl rfl rfl ?_
      exact kk
    obtain ⟨r2, e2, e⟩ := sh_bc_e e
    refine sh_Lk_cV (r := (some (.int r2))) (st2 := [.int r2, .int r1, .ref 10, .int (x4 + x5), .ref 45]) (pc2 := 39) (k2 := 103) (a := 44) (as := [.ref 45, .int x2]) (rest := [.int r1, .ref 10, .int (x4 + x5), .ref 45]) rfl rfl rfl (fun hT => (sh_s44 hT.st)) rfl rfl ⟨Nat.le_of_ble_eq_true rfl, Nat.le_of_ble_eq_true rfl⟩ (sl_103 e2 ⟨rfl, rfl⟩) rfl rfl (Nat.le_of_ble_eq_true rfl) (Nat.le_of_ble_eq_true rfl) ?_
    obtain ⟨r3, m13, e3, e⟩ := sh_bn_e e
    refine sh_Lk_cV (r := (some (.int r3))) (st2 := [.int r3, .int (x4 + x5), .ref 45]) (pc2 := 42) (k2 := 132) (a := 9) (as := [.ref 10, .int r1, .int r2]) (rest := [.int (x4 + x5), .ref 45]) rfl rfl rfl (fun hT => hT.t9) rfl rfl ⟨Nat.le_of_ble_eq_true rfl, Nat.le_of_ble_eq_true rfl⟩ (sl_132 e3 ⟨rfl, rfl⟩) rfl rfl (Nat.le_of_ble_eq_true rfl) (Nat.le_of_ble_eq_true rfl) ?_
    obtain ⟨r4, m14, e4, e⟩ := sh_bn_e e
    refine sh_Lk_cV (r := none) (st2 := []) (pc2 := 45) (k2 := 100) (a := 44) (as := [.ref 45, .int (x4 + x5), .int r3]) (rest := []) rfl rfl rfl (fun hT => (sh_s44 hT.st)) rfl rfl ⟨Nat.le_of_ble_eq_true rfl, Nat.le_of_ble_eq_true rfl⟩ (sl_100 e4 ⟨rfl, rfl⟩) rfl rfl (Nat.le_of_ble_eq_true rfl) (Nat.le_of_ble_eq_true rfl) ?_
    refine sh_Lk_lift (T := m14.T) (I := m14.I) (J := m14.J) (s := m14.s) (pc2 := 10) (lv2 := [(5, .int (x5 + 1)), (0, .ref 45), (1, .int x1), (2, .int x2), (3, .int x3), (4, .int x4)]) (st2 := []) (I2 := m14.I) (J2 := m14.J) (fun hT v kk => ?_) ?_
    · refine sh_w (i := (.iinc 5 1)) (len := 3) (pc2 := 48) (lv2 := [(5, .int (x5 + 1)), (0, .ref 45), (1, .int x1), (2, .int x2), (3, .int x3), (4, .int x4)]) (st2 := []) (h2 := (sh_rep m14.T m14.I m14.J)) rfl rfl rfl ?_
      refine sh_w (i := (.goto (-38))) (len := 3) (pc2 := 10) (lv2 := [(5, .int (x5 + 1)), (0, .ref 45), (1, .int x1), (2, .int x2), (3, .int x3), (4, .int x4)]) (st2 := []) (h2 := (sh_rep m14.T m14.I m14.J)) rfl rfl rfl ?_
      exact kk
    obtain rfl := Option.some.inj e
    exact sh_Lk_sub (sh_sub_c rfl (sh_sub_c rfl (sh_sub_c rfl (sh_sub_c rfl (sh_sub_c rfl (sh_sub_c rfl (sh_sub_n))))))) tg
  · refine sh_Lk_lift (T := m.T) (I := m.I) (J := m.J) (s := m.s) (pc2 := 54) (lv2 := [(5, .int 1), (0, .ref 45), (1, .int x1), (2, .int x2), (3, .int x3), (4, .int x4)]) (st2 := []) (I2 := m.I) (J2 := m.J) (fun hT v kk => ?_) ?_
    · refine sh_jc (c := .ge) (off := (38)) (pc2 := 51) true rfl (sh_Bget c) rfl ?_
      refine sh_w (i := (.iconst 1)) (len := 1) (pc2 := 52) (lv2 := [(0, .ref 45), (1, .int x1), (2, .int x2), (3, .int x3), (4, .int x4), (5, .int x5)]) (st2 := [.int 1]) (h2 := (sh_rep m.T m.I m.J)) rfl rfl rfl ?_
      refine sh_w (i := (.istore 5)) (len := 2) (pc2 := 54) (lv2 := [(5, .int 1), (0, .ref 45), (1, .int x1), (2, .int x2), (3, .int x3), (4, .int x4)]) (st2 := []) (h2 := (sh_rep m.T m.I m.J)) rfl rfl rfl ?_
      exact kk
    obtain ⟨_, eu, rfl⟩ := sh_up_e e
    exact sh_Lk_sub (sh_sub_c rfl (sh_sub_c rfl (sh_sub_c rfl (sh_sub_c rfl (sh_sub_c rfl (sh_sub_c rfl (sh_sub_n))))))) (sl_181_54 eu tg)
theorem sl_181_10 {x1 : Int32} {x2 : Int32} {x3 : Int32} {x4 : Int32} {x5 : Int32} {m m2 : sh_X} {o : Outcome} {z : (Int32 × sh_X)} (e : sf_181_10 x1 x2 x3 x4 x5 m = some z) (tg : (sh_tI o m2) z) : sh_Lk 181 10 [(0, .ref 45), (1, .int x1), (2, .int x2), (3, .int x3), (4, .int x4), (5, .int x5)] [] m o m2 13 314 := by
  unfold sf_181_10 at e
  exact sh_while_lk (P := fun q => sh_Lk 181 10 [(0, .ref 45), (1, .int x1), (2, .int x2), (3, .int x3), (4, .int x4), (5, .int q.1)] [] q.2 o m2 13 314) (Q := (sh_tI o m2)) (fun q z e tg => sl_181_10s (x1 := x1) (x2 := x2) (x3 := x3) (x4 := x4) (x5 := q.1) (m := q.2) e tg) (s := (x5, m)) e tg
theorem sl_181 {x1 : Int32} {x2 : Int32} {x3 : Int32} {m m2 : sh_X} {o : Outcome} {z : (Int32 × sh_X)} (e : sf_181 x1 x2 x3 m = some z) (tg : (sh_tI o m2) z) : sh_Lk 181 0 [(0, .ref 45), (1, .int x1), (2, .int x2), (3, .int x3)] [] m o m2 13 314 := by
  unfold sf_181 at e
  refine sh_Lk_lift (T := m.T) (I := m.I) (J := m.J) (s := m.s) (pc2 := 2) (lv2 := [(0, .ref 45), (1, .int x1), (2, .int x2), (3, .int x3)]) (st2 := [.int x3, .ref 45]) (I2 := m.I) (J2 := m.J) (fun hT v kk => ?_) ?_
  · refine sh_w (i := (.aload_n 0)) (len := 1) (pc2 := 1) (lv2 := [(0, .ref 45), (1, .int x1), (2, .int x2), (3, .int x3)]) (st2 := [.ref 45]) (h2 := (sh_rep m.T m.I m.J)) rfl rfl rfl ?_
    refine sh_w (i := (.iload_n 3)) (len := 1) (pc2 := 2) (lv2 := [(0, .ref 45), (1, .int x1), (2, .int x2), (3, .int x3)]) (st2 := [.int x3, .ref 45]) (h2 := (sh_rep m.T m.I m.J)) rfl rfl rfl ?_
    exact kk
  obtain ⟨r1, m11, e1, e⟩ := sh_bn_e e
  refine sh_Lk_cV (r := (some (.int r1))) (st2 := [.int r1]) (pc2 := 5) (k2 := 98) (a := 44) (as := [.ref 45, .int x3]) (rest := []) rfl rfl rfl (fun hT => (sh_s44 hT.st)) rfl rfl ⟨Nat.le_of_ble_eq_true rfl, Nat.le_of_ble_eq_true rfl⟩ (sl_98 e1 ⟨rfl, rfl⟩) rfl rfl (Nat.le_of_ble_eq_true rfl) (Nat.le_of_ble_eq_true rfl) ?_
  refine sh_Lk_lift (T := m11.T) (I := m11.I) (J := m11.J) (s := m11.s) (pc2 := 10) (lv2 := [(5, .int 0), (4, .int r1), (0, .ref 45), (1, .int x1), (2, .int x2), (3, .int x3)]) (st2 := []) (I2 := m11.I) (J2 := m11.J) (fun hT v kk => ?_) ?_
  · refine sh_w (i := (.istore 4)) (len := 2) (pc2 := 7) (lv2 := [(4, .int r1), (0, .ref 45), (1, .int x1), (2, .int x2), (3, .int x3)]) (st2 := []) (h2 := (sh_rep m11.T m11.I m11.J)) rfl rfl rfl ?_
    refine sh_w (i := (.iconst 0)) (len := 1) (pc2 := 8) (lv2 := [(4, .int r1), (0, .ref 45), (1, .int x1), (2, .int x2), (3, .int x3)]) (st2 := [.int 0]) (h2 := (sh_rep m11.T m11.I m11.J)) rfl rfl rfl ?_
    refine sh_w (i := (.istore 5)) (len := 2) (pc2 := 10) (lv2 := [(5, .int 0), (4, .int r1), (0, .ref 45), (1, .int x1), (2, .int x2), (3, .int x3)]) (st2 := []) (h2 := (sh_rep m11.T m11.I m11.J)) rfl rfl rfl ?_
    exact kk
  exact sh_Lk_sub (sh_sub_c rfl (sh_sub_c rfl (sh_sub_c rfl (sh_sub_c rfl (sh_sub_c rfl (sh_sub_c rfl (sh_sub_n))))))) (sl_181_10 e tg)
theorem sl_185 {x1 : Int32} {x2 : Int32} {m m2 : sh_X} {o : Outcome} {z : (Int32 × sh_X)} (e : sf_185 x1 x2 m = some z) (tg : (sh_tI o m2) z) : sh_Lk 185 0 [(0, .ref 10), (1, .int x1), (2, .int x2)] [] m o m2 11 266 := by
  unfold sf_185 at e
  refine sh_Lk_lift (T := m.T) (I := m.I) (J := m.J) (s := m.s) (pc2 := 2) (lv2 := [(0, .ref 10), (1, .int x1), (2, .int x2)]) (st2 := [.int 1, .int x1]) (I2 := m.I) (J2 := m.J) (fun hT v kk => ?_) ?_
  · refine sh_w (i := (.iload_n 1)) (len := 1) (pc2 := 1) (lv2 := [(0, .ref 10), (1, .int x1), (2, .int x2)]) (st2 := [.int x1]) (h2 := (sh_rep m.T m.I m.J)) rfl rfl rfl ?_
    refine sh_w (i := (.iconst 1)) (len := 1) (pc2 := 2) (lv2 := [(0, .ref 10), (1, .int x1), (2, .int x2)]) (st2 := [.int 1, .int x1]) (h2 := (sh_rep m.T m.I m.J)) rfl rfl rfl ?_
    exact kk
  rcases sh_ite e with ⟨c, e⟩ | ⟨c, e⟩
  · refine sh_Lk_lift (T := m.T) (I := m.I) (J := m.J) (s := m.s) (pc2 := 11) (lv2 := [(0, .ref 10), (1, .int x1), (2, .int x2)]) (st2 := [.int 1]) (I2 := m.I) (J2 := m.J) (fun hT v kk => ?_) ?_
    · refine sh_jc (c := .eq) (off := (8)) (pc2 := 10) true rfl (sh_Beqt c) rfl ?_
      refine sh_w (i := (.iconst 1)) (len := 1) (pc2 := 11) (lv2 := [(0, .ref 10), (1, .int x1), (2, .int x2)]) (st2 := [.int 1]) (h2 := (sh_rep m.T m.I m.J)) rfl rfl rfl ?_
      exact kk
    obtain rfl := Option.some.inj e
    obtain ⟨rfl, rfl⟩ := tg
    exact sh_Lk_ret (i := .ireturn) rfl rfl rfl (Nat.le_of_ble_eq_true rfl) (Nat.le_of_ble_eq_true rfl)
  · refine sh_Lk_lift (T := m.T) (I := m.I) (J := m.J) (s := m.s) (pc2 := 7) (lv2 := [(0, .ref 10), (1, .int x1), (2, .int x2)]) (st2 := [.int 1, .int x2]) (I2 := m.I) (J2 := m.J) (fun hT v kk => ?_) ?_
    · refine sh_jc (c := .eq) (off := (8)) (pc2 := 5) false rfl (sh_Beqf c) rfl ?_
      refine sh_w (i := (.iload_n 2)) (len := 1) (pc2 := 6) (lv2 := [(0, .ref 10), (1, .int x1), (2, .int x2)]) (st2 := [.int x2]) (h2 := (sh_rep m.T m.I m.J)) rfl rfl rfl ?_
      refine sh_w (i := (.iconst 1)) (len := 1) (pc2 := 7) (lv2 := [(0, .ref 10), (1, .int x1), (2, .int x2)]) (st2 := [.int 1, .int x2]) (h2 := (sh_rep m.T m.I m.J)) rfl rfl rfl ?_
      exact kk
    rcases sh_ite e with ⟨c, e⟩ | ⟨c, e⟩
    · refine sh_Lk_lift (T := m.T) (I := m.I) (J := m.J) (s := m.s) (pc2 := 11) (lv2 := [(0, .ref 10), (1, .int x1), (2, .int x2)]) (st2 := [.int 1]) (I2 := m.I) (J2 := m.J) (fun hT v kk => ?_) ?_
      · refine sh_jc (c := .ne) (off := (5)) (pc2 := 10) false rfl (sh_Bnef c) rfl ?_
        refine sh_w (i := (.iconst 1)) (len := 1) (pc2 := 11) (lv2 := [(0, .ref 10), (1, .int x1), (2, .int x2)]) (st2 := [.int 1]) (h2 := (sh_rep m.T m.I m.J)) rfl rfl rfl ?_
        exact kk
      obtain rfl := Option.some.inj e
      obtain ⟨rfl, rfl⟩ := tg
      exact sh_Lk_ret (i := .ireturn) rfl rfl rfl (Nat.le_of_ble_eq_true rfl) (Nat.le_of_ble_eq_true rfl)
    · refine sh_Lk_lift (T := m.T) (I := m.I) (J := m.J) (s := m.s) (pc2 := 13) (lv2 := [(0, .ref 10), (1, .int x1), (2, .int x2)]) (st2 := [.int x1]) (I2 := m.I) (J2 := m.J) (fun hT v kk => ?_) ?_
      · refine sh_jc (c := .ne) (off := (5)) (pc2 := 12) true rfl (sh_Bnet c) rfl ?_
        refine sh_w (i := (.iload_n 1)) (len := 1) (pc2 := 13) (lv2 := [(0, .ref 10), (1, .int x1), (2, .int x2)]) (st2 := [.int x1]) (h2 := (sh_rep m.T m.I m.J)) rfl rfl rfl ?_
        exact kk
      rcases sh_ite e with ⟨c, e⟩ | ⟨c, e⟩
      · refine sh_Lk_lift (T := m.T) (I := m.I) (J := m.J) (s := m.s) (pc2 := 22) (lv2 := [(0, .ref 10), (1, .int x1), (2, .int x2)]) (st2 := [.int x2]) (I2 := m.I) (J2 := m.J) (fun hT v kk => ?_) ?_
        · refine sh_j0 (c := .eq) (off := (8)) (pc2 := 21) true rfl (sh_Beqt c) rfl ?_
          refine sh_w (i := (.iload_n 2)) (len := 1) (pc2 := 22) (lv2 := [(0, .ref 10), (1, .int x1), (2, .int x2)]) (st2 := [.int x2]) (h2 := (sh_rep m.T m.I m.J)) rfl rfl rfl ?_
          exact kk
        obtain rfl := Option.some.inj e
        obtain ⟨rfl, rfl⟩ := tg
        exact sh_Lk_ret (i := .ireturn) rfl rfl rfl (Nat.le_of_ble_eq_true rfl) (Nat.le_of_ble_eq_true rfl)
      · refine sh_Lk_lift (T := m.T) (I := m.I) (J := m.J) (s := m.s) (pc2 := 18) (lv2 := [(0, .ref 10), (1, .int x1), (2, .int x2)]) (st2 := [.int x2, .int x1]) (I2 := m.I) (J2 := m.J) (fun hT v kk => ?_) ?_
        · refine sh_j0 (c := .eq) (off := (8)) (pc2 := 16) false rfl (sh_Beqf c) rfl ?_
          refine sh_w (i := (.iload_n 1)) (len := 1) (pc2 := 17) (lv2 := [(0, .ref 10), (1, .int x1), (2, .int x2)]) (st2 := [.int x1]) (h2 := (sh_rep m.T m.I m.J)) rfl rfl rfl ?_
          refine sh_w (i := (.iload_n 2)) (len := 1) (pc2 := 18) (lv2 := [(0, .ref 10), (1, .int x1), (2, .int x2)]) (st2 := [.int x2, .int x1]) (h2 := (sh_rep m.T m.I m.J)) rfl rfl rfl ?_
          exact kk
        rcases sh_ite e with ⟨c, e⟩ | ⟨c, e⟩
        · refine sh_Lk_lift (T := m.T) (I := m.I) (J := m.J) (s := m.s) (pc2 := 22) (lv2 := [(0, .ref 10), (1, .int x1), (2, .int x2)]) (st2 := [.int x2]) (I2 := m.I) (J2 := m.J) (fun hT v kk => ?_) ?_
          · refine sh_jc (c := .ne) (off := (5)) (pc2 := 21) false rfl (sh_Bnef c) rfl ?_
            refine sh_w (i := (.iload_n 2)) (len := 1) (pc2 := 22) (lv2 := [(0, .ref 10), (1, .int x1), (2, .int x2)]) (st2 := [.int x2]) (h2 := (sh_rep m.T m.I m.J)) rfl rfl rfl ?_
            exact kk
          obtain rfl := Option.some.inj e
          obtain ⟨rfl, rfl⟩ := tg
          exact sh_Lk_ret (i := .ireturn) rfl rfl rfl (Nat.le_of_ble_eq_true rfl) (Nat.le_of_ble_eq_true rfl)
        · refine sh_Lk_lift (T := m.T) (I := m.I) (J := m.J) (s := m.s) (pc2 := 24) (lv2 := [(0, .ref 10), (1, .int x1), (2, .int x2)]) (st2 := [.int x2]) (I2 := m.I) (J2 := m.J) (fun hT v kk => ?_) ?_
          · refine sh_jc (c := .ne) (off := (5)) (pc2 := 23) true rfl (sh_Bnet c) rfl ?_
            refine sh_w (i := (.iload_n 2)) (len := 1) (pc2 := 24) (lv2 := [(0, .ref 10), (1, .int x1), (2, .int x2)]) (st2 := [.int x2]) (h2 := (sh_rep m.T m.I m.J)) rfl rfl rfl ?_
            exact kk
          rcases sh_ite e with ⟨c, e⟩ | ⟨c, e⟩
          · refine sh_Lk_lift (T := m.T) (I := m.I) (J := m.J) (s := m.s) (pc2 := 50) (lv2 := [(0, .ref 10), (1, .int x1), (2, .int x2)]) (st2 := [.int x1]) (I2 := m.I) (J2 := m.J) (fun hT v kk => ?_) ?_
            · refine sh_j0 (c := .ne) (off := (7)) (pc2 := 27) false rfl (sh_Bnef c) rfl ?_
              refine sh_w (i := (.iload_n 1)) (len := 1) (pc2 := 28) (lv2 := [(0, .ref 10), (1, .int x1), (2, .int x2)]) (st2 := [.int x1]) (h2 := (sh_rep m.T m.I m.J)) rfl rfl rfl ?_
              refine sh_w (i := (.goto 22)) (len := 3) (pc2 := 50) (lv2 := [(0, .ref 10), (1, .int x1), (2, .int x2)]) (st2 := [.int x1]) (h2 := (sh_rep m.T m.I m.J)) rfl rfl rfl ?_
              exact kk
            obtain rfl := Option.some.inj e
            obtain ⟨rfl, rfl⟩ := tg
            exact sh_Lk_ret (i := .ireturn) rfl rfl rfl (Nat.le_of_ble_eq_true rfl) (Nat.le_of_ble_eq_true rfl)
          · refine sh_Lk_lift (T := m.T) (I := m.I) (J := m.J) (s := m.s) (pc2 := 37) (lv2 := [(0, .ref 10), (1, .int x1), (2, .int x2)]) (st2 := [.int x2, .int x1, .int 1, .ref 10, .int 1, .ref 10]) (I2 := m.I) (J2 := m.J) (fun hT v kk => ?_) ?_
            · refine sh_j0 (c := .ne) (off := (7)) (pc2 := 31) true rfl (sh_Bnet c) rfl ?_
              refine sh_w (i := (.aload_n 0)) (len := 1) (pc2 := 32) (lv2 := [(0, .ref 10), (1, .int x1), (2, .int x2)]) (st2 := [.ref 10]) (h2 := (sh_rep m.T m.I m.J)) rfl rfl rfl ?_
              refine sh_w (i := (.iconst 1)) (len := 1) (pc2 := 33) (lv2 := [(0, .ref 10), (1, .int x1), (2, .int x2)]) (st2 := [.int 1, .ref 10]) (h2 := (sh_rep m.T m.I m.J)) rfl rfl rfl ?_
              refine sh_w (i := (.aload_n 0)) (len := 1) (pc2 := 34) (lv2 := [(0, .ref 10), (1, .int x1), (2, .int x2)]) (st2 := [.ref 10, .int 1, .ref 10]) (h2 := (sh_rep m.T m.I m.J)) rfl rfl rfl ?_
              refine sh_w (i := (.iconst 1)) (len := 1) (pc2 := 35) (lv2 := [(0, .ref 10), (1, .int x1), (2, .int x2)]) (st2 := [.int 1, .ref 10, .int 1, .ref 10]) (h2 := (sh_rep m.T m.I m.J)) rfl rfl rfl ?_
              refine sh_w (i := (.iload_n 1)) (len := 1) (pc2 := 36) (lv2 := [(0, .ref 10), (1, .int x1), (2, .int x2)]) (st2 := [.int x1, .int 1, .ref 10, .int 1, .ref 10]) (h2 := (sh_rep m.T m.I m.J)) rfl rfl rfl ?_
              refine sh_w (i := (.iload_n 2)) (len := 1) (pc2 := 37) (lv2 := [(0, .ref 10), (1, .int x1), (2, .int x2)]) (st2 := [.int x2, .int x1, .int 1, .ref 10, .int 1, .ref 10]) (h2 := (sh_rep m.T m.I m.J)) rfl rfl rfl ?_
              exact kk
            obtain ⟨r1, m11, e1, e⟩ := sh_bn_e e
            refine sh_Lk_cV (r := (some (.int r1))) (st2 := [.int r1, .int 1, .ref 10]) (pc2 := 40) (k2 := 19) (a := 9) (as := [.ref 10, .int 1, .int x1, .int x2]) (rest := [.int 1, .ref 10]) rfl rfl rfl (fun hT => hT.t9) rfl rfl ⟨Nat.le_of_ble_eq_true rfl, Nat.le_of_ble_eq_true rfl⟩ (sl_19 e1 ⟨rfl, rfl⟩) rfl rfl (Nat.le_of_ble_eq_true rfl) (Nat.le_of_ble_eq_true rfl) ?_
            refine sh_Lk_lift (T := m11.T) (I := m11.I) (J := m11.J) (s := m11.s) (pc2 := 44) (lv2 := [(0, .ref 10), (1, .int x1), (2, .int x2)]) (st2 := [.int x2, .int x1, .int 2, .ref 10, .int r1, .int 1, .ref 10]) (I2 := m11.I) (J2 := m11.J) (fun hT v kk => ?_) ?_
            · refine sh_w (i := (.aload_n 0)) (len := 1) (pc2 := 41) (lv2 := [(0, .ref 10), (1, .int x1), (2, .int x2)]) (st2 := [.ref 10, .int r1, .int 1, .ref 10]) (h2 := (sh_rep m11.T m11.I m11.J)) rfl rfl rfl ?_
              refine sh_w (i := (.iconst 2)) (len := 1) (pc2 := 42) (lv2 := [(0, .ref 10), (1, .int x1), (2, .int x2)]) (st2 := [.int 2, .ref 10, .int r1, .int 1, .ref 10]) (h2 := (sh_rep m11.T m11.I m11.J)) rfl rfl rfl ?_
              refine sh_w (i := (.iload_n 1)) (len := 1) (pc2 := 43) (lv2 := [(0, .ref 10), (1, .int x1), (2, .int x2)]) (st2 := [.int x1, .int 2, .ref 10, .int r1, .int 1, .ref 10]) (h2 := (sh_rep m11.T m11.I m11.J)) rfl rfl rfl ?_
              refine sh_w (i := (.iload_n 2)) (len := 1) (pc2 := 44) (lv2 := [(0, .ref 10), (1, .int x1), (2, .int x2)]) (st2 := [.int x2, .int x1, .int 2, .ref 10, .int r1, .int 1, .ref 10]) (h2 := (sh_rep m11.T m11.I m11.J)) rfl rfl rfl ?_
              exact kk
            obtain ⟨r2, m12, e2, e⟩ := sh_bn_e e
            refine sh_Lk_cV (r := (some (.int r2))) (st2 := [.int r2, .int r1, .int 1, .ref 10]) (pc2 := 47) (k2 := 19) (a := 9) (as := [.ref 10, .int 2, .int x1, .int x2]) (rest := [.int r1, .int 1, .ref 10]) rfl rfl rfl (fun hT => hT.t9) rfl rfl ⟨Nat.le_of_ble_eq_true rfl, Nat.le_of_ble_eq_true rfl⟩ (sl_19 e2 ⟨rfl, rfl⟩) rfl rfl (Nat.le_of_ble_eq_true rfl) (Nat.le_of_ble_eq_true rfl) ?_
            obtain ⟨r3, m13, e3, e⟩ := sh_bn_e e
            refine sh_Lk_cV (r := (some (.int r3))) (st2 := [.int r3]) (pc2 := 50) (k2 := 19) (a := 9) (as := [.ref 10, .int 1, .int r1, .int r2]) (rest := []) rfl rfl rfl (fun hT => hT.t9) rfl rfl ⟨Nat.le_of_ble_eq_true rfl, Nat.le_of_ble_eq_true rfl⟩ (sl_19 e3 ⟨rfl, rfl⟩) rfl rfl (Nat.le_of_ble_eq_true rfl) (Nat.le_of_ble_eq_true rfl) ?_
            obtain rfl := Option.some.inj e
            obtain ⟨rfl, rfl⟩ := tg
            exact sh_Lk_ret (i := .ireturn) rfl rfl rfl (Nat.le_of_ble_eq_true rfl) (Nat.le_of_ble_eq_true rfl)
theorem sl_183_253s {x1 : Int32} {x4 : Bool} {x5 : Int32} {x6 : Int32} {x7 : Int32} {x8 : Int32} {x10 : Int32} {x11 : Int32} {m m2 : sh_X} {o : Outcome} {z : ((Int32 × sh_X) ⊕ ((Int32 × sh_X) ⊕ (Int32 × sh_X)))} (e : sf_183_253s x1 x4 x5 x6 x7 x8 x10 x11 m = some z) (tg : (sh_el (fun q => sh_Lk 183 253 [(0, .ref 45), (1, .int x1), (4, .int (sh_b2 x4)), (5, .int x5), (6, .int x6), (7, .int x7), (8, .int x8), (10, .int x10), (11, .int q.1)] [] q.2 o m2 12 323) (sh_el (fun q => sh_Lk 183 77 [(0, .ref 45), (1, .int x1), (4, .int (sh_b2 x4)), (5, .int x5), (6, .int x6), (7, .int x7), (8, .int q.1)] [] q.2 o m2 12 323) (sh_tI o m2))) z) : sh_Lk 183 253 [(0, .ref 45), (1, .int x1), (4, .int (sh_b2 x4)), (5, .int x5), (6, .int x6), (7, .int x7), (8, .int x8), (10, .int x10), (11, .int x11)] [] m o m2 12 323 := by
  unfold sf_183_253s at e
  refine sh_Lk_lift (T := m.T) (I := m.I) (J := m.J) (s := m.s) (pc2 := 257) (lv2 := [(0, .ref 45), (1, .int x1), (4, .int (sh_b2 x4)), (5, .int x5), (6, .int x6), (7, .int x7), (8, .int x8), (10, .int x10), (11, .int x11)]) (st2 := [.int x7, .int x11]) (I2 := m.I) (J2 := m.J) (fun hT v kk => ?_) ?_
  · refine sh_w (i := (.iload 11)) (len := 2) (pc2 := 255) (lv2 := [(0, .ref 45), (1, .int x1), (4, .int (sh_b2 x4)), (5, .int x5), (6, .int x6), (7, .int x7), (8, .int x8), (10, .int x10), (11, .int x11)]) (st2 := [.int x11]) (h2 := (sh_rep m.T m.I m.J)) rfl rfl rfl ?_
    refine sh_w (i := (.iload 7)) (len := 2) (pc2 := 257) (lv2 := [(0, .ref 45), (1, .int x1), (4, .int (sh_b2 x4)), (5, .int x5), (6, .int x6), (7, .int x7), (8, .int x8), (10, .int x10), (11, .int x11)]) (st2 := [.int x7, .int x11]) (h2 := (sh_rep m.T m.I m.J)) rfl rfl rfl ?_
    exact kk
  rcases sh_ite e with ⟨c, e⟩ | ⟨c, e⟩
  · refine sh_Lk_lift (T := m.T) (I := m.I) (J := m.J) (s := m.s) (pc2 := 276) (lv2 := [(0, .ref 45), (1, .int x1), (4, .int (sh_b2 x4)), (5, .int x5), (6, .int x6), (7, .int x7), (8, .int x8), (10, .int x10), (11, .int x11)]) (st2 := [.int x11, .ref 48, .ref 10, .int x10, .ref 10]) (I2 := m.I) (J2 := m.J) (fun hT v kk => ?_) ?_
    · refine sh_jc (c := .ge) (off := (64)) (pc2 := 260) false rfl (sh_Bgef c) rfl ?_
      refine sh_w (i := (.aload_n 0)) (len := 1) (pc2 := 261) (lv2 := [(0, .ref 45), (1, .int x1), (4, .int (sh_b2 x4)), (5, .int x5), (6, .int x6), (7, .int x7), (8, .int x8), (10, .int x10), (11, .int x11)]) (st2 := [.ref 45]) (h2 := (sh_rep m.T m.I m.J)) rfl rfl rfl ?_
      refine sh_gR1 (len := 3) (x := .ref 10) (pc2 := 264) rfl rfl (sh_s44 hT.st) rfl rfl ?_
      refine sh_w (i := (.iload 10)) (len := 2) (pc2 := 266) (lv2 := [(0, .ref 45), (1, .int x1), (4, .int (sh_b2 x4)), (5, .int x5), (6, .int x6), (7, .int x7), (8, .int x8), (10, .int x10), (11, .int x11)]) (st2 := [.int x10, .ref 10]) (h2 := (sh_rep m.T m.I m.J)) rfl rfl rfl ?_
      refine sh_w (i := (.aload_n 0)) (len := 1) (pc2 := 267) (lv2 := [(0, .ref 45), (1, .int x1), (4, .int (sh_b2 x4)), (5, .int x5), (6, .int x6), (7, .int x7), (8, .int x8), (10, .int x10), (11, .int x11)]) (st2 := [.ref 45, .int x10, .ref 10]) (h2 := (sh_rep m.T m.I m.J)) rfl rfl rfl ?_
      refine sh_gR1 (len := 3) (x := .ref 10) (pc2 := 270) rfl rfl (sh_s44 hT.st) rfl rfl ?_
      refine sh_w (i := (.aload_n 0)) (len := 1) (pc2 := 271) (lv2 := [(0, .ref 45), (1, .int x1), (4, .int (sh_b2 x4)), (5, .int x5), (6, .int x6), (7, .int x7), (8, .int x8), (10, .int x10), (11, .int x11)]) (st2 := [.ref 45, .ref 10, .int x10, .ref 10]) (h2 := (sh_rep m.T m.I m.J)) rfl rfl rfl ?_
      refine sh_gR1 (len := 3) (x := .ref 48) (pc2 := 274) rfl rfl (sh_s44 hT.st) rfl rfl ?_
      refine sh_w (i := (.iload 11)) (len := 2) (pc2 := 276) (lv2 := [(0, .ref 45), (1, .int x1), (4, .int (sh_b2 x4)), (5, .int x5), (6, .int x6), (7, .int x7), (8, .int x8), (10, .int x10), (11, .int x11)]) (st2 := [.int x11, .ref 48, .ref 10, .int x10, .ref 10]) (h2 := (sh_rep m.T m.I m.J)) rfl rfl rfl ?_
      exact kk
    obtain ⟨c, e⟩ := sh_gd e
    refine sh_Lk_lift (T := m.T) (I := m.I) (J := m.J) (s := m.s) (pc2 := 283) (lv2 := [(0, .ref 45), (1, .int x1), (4, .int (sh_b2 x4)), (5, .int x5), (6, .int x6), (7, .int x7), (8, .int x8), (10, .int x10), (11, .int x11)]) (st2 := [.int x11, .ref 47, .int (m.I 47 (Int32.toNatClampNeg x11)), .ref 10, .int x10, .ref 10]) (I2 := m.I) (J2 := m.J) (fun hT v kk => ?_) ?_
    · refine sh_ia1 (x := m.I 47 (Int32.toNatClampNeg x11)) (pc2 := 277) rfl (sh_s47 hT.st) (sh_okb1 c) (sh_okb2 c) rfl rfl ?_
      refine sh_w (i := (.aload_n 0)) (len := 1) (pc2 := 278) (lv2 := [(0, .ref 45), (1, .int x1), (4, .int (sh_b2 x4)), (5, .int x5), (6, .int x6), (7, .int x7), (8, .int x8), (10, .int x10), (11, .int x11)]) (st2 := [.ref 45, .int (m.I 47 (Int32.toNatClampNeg x11)), .ref 10, .int x10, .ref 10]) (h2 := (sh_rep m.T m.I m.J)) rfl rfl rfl ?_
      refine sh_gR1 (len := 3) (x := .ref 47) (pc2 := 281) rfl rfl (sh_s44 hT.st) rfl rfl ?_
      refine sh_w (i := (.iload 11)) (len := 2) (pc2 := 283) (lv2 := [(0, .ref 45), (1, .int x1), (4, .int (sh_b2 x4)), (5, .int x5), (6, .int x6), (7, .int x7), (8, .int x8), (10, .int x10), (11, .int x11)]) (st2 := [.int x11, .ref 47, .int (m.I 47 (Int32.toNatClampNeg x11)), .ref 10, .int x10, .ref 10]) (h2 := (sh_rep m.T m.I m.J)) rfl rfl rfl ?_
      exact kk
    obtain ⟨c, e⟩ := sh_gd e
    refine sh_Lk_lift (T := m.T) (I := m.I) (J := m.J) (s := m.s) (pc2 := 284) (lv2 := [(0, .ref 45), (1, .int x1), (4, .int (sh_b2 x4)), (5, .int x5), (6, .int x6), (7, .int x7), (8, .int x8), (10, .int x10), (11, .int x11)]) (st2 := [.int (m.I 46 (Int32.toNatClampNeg x11)), .int (m.I 47 (Int32.toNatClampNeg x11)), .ref 10, .int x10, .ref 10]) (I2 := m.I) (J2 := m.J) (fun hT v kk => ?_) ?_
    · refine sh_ia1 (x := m.I 46 (Int32.toNatClampNeg x11)) (pc2 := 284) rfl (sh_s46 hT.st) (sh_okb1 c) (sh_okb2 c) rfl rfl ?_
      exact kk
    obtain ⟨r1, m11, e1, e⟩ := sh_bn_e e
    refine sh_Lk_cV (r := (some (.int r1))) (st2 := [.int r1, .int x10, .ref 10]) (pc2 := 287) (k2 := 130) (a := 9) (as := [.ref 10, .int (m.I 47 (Int32.toNatClampNeg x11)), .int (m.I 46 (Int32.toNatClampNeg x11))]) (rest := [.int x10, .ref 10]) rfl rfl rfl (fun hT => hT.t9) rfl rfl ⟨Nat.le_of_ble_eq_true rfl, Nat.le_of_ble_eq_true rfl⟩ (sl_130 e1 ⟨rfl, rfl⟩) rfl rfl (Nat.le_of_ble_eq_true rfl) (Nat.le_of_ble_eq_true rfl) ?_
    obtain ⟨r2, m12, e2, e⟩ := sh_bn_e e
    refine sh_Lk_cV (r := (some (.int r2))) (st2 := [.int r2]) (pc2 := 290) (k2 := 132) (a := 9) (as := [.ref 10, .int x10, .int r1]) (rest := []) rfl rfl rfl (fun hT => hT.t9) rfl rfl ⟨Nat.le_of_ble_eq_true rfl, Nat.le_of_ble_eq_true rfl⟩ (sl_132 e2 ⟨rfl, rfl⟩) rfl rfl (Nat.le_of_ble_eq_true rfl) (Nat.le_of_ble_eq_true rfl) ?_
    refine sh_Lk_lift (T := m12.T) (I := m12.I) (J := m12.J) (s := m12.s) (pc2 := 308) (lv2 := [(12, .int r2), (0, .ref 45), (1, .int x1), (4, .int (sh_b2 x4)), (5, .int x5), (6, .int x6), (7, .int x7), (8, .int x8), (10, .int x10), (11, .int x11)]) (st2 := [.int x11, .ref 47, .ref 10, .int x11, .ref 47]) (I2 := m12.I) (J2 := m12.J) (fun hT v kk => ?_) ?_
    · refine sh_w (i := (.istore 12)) (len := 2) (pc2 := 292) (lv2 := [(12, .int r2), (0, .ref 45), (1, .int x1), (4, .int (sh_b2 x4)), (5, .int x5), (6, .int x6), (7, .int x7), (8, .int x8), (10, .int x10), (11, .int x11)]) (st2 := []) (h2 := (sh_rep m12.T m12.I m12.J)) rfl rfl rfl ?_
      refine sh_w (i := (.aload_n 0)) (len := 1) (pc2 := 293) (lv2 := [(12, .int r2), (0, .ref 45), (1, .int x1), (4, .int (sh_b2 x4)), (5, .int x5), (6, .int x6), (7, .int x7), (8, .int x8), (10, .int x10), (11, .int x11)]) (st2 := [.ref 45]) (h2 := (sh_rep m12.T m12.I m12.J)) rfl rfl rfl ?_
      refine sh_gR1 (len := 3) (x := .ref 47) (pc2 := 296) rfl rfl (sh_s44 hT.st) rfl rfl ?_
      refine sh_w (i := (.iload 11)) (len := 2) (pc2 := 298) (lv2 := [(12, .int r2), (0, .ref 45), (1, .int x1), (4, .int (sh_b2 x4)), (5, .int x5), (6, .int x6), (7, .int x7), (8, .int x8), (10, .int x10), (11, .int x11)]) (st2 := [.int x11, .ref 47]) (h2 := (sh_rep m12.T m12.I m12.J)) rfl rfl rfl ?_
      refine sh_w (i := (.aload_n 0)) (len := 1) (pc2 := 299) (lv2 := [(12, .int r2), (0, .ref 45), (1, .int x1), (4, .int (sh_b2 x4)), (5, .int x5), (6, .int x6), (7, .int x7), (8, .int x8), (10, .int x10), (11, .int x11)]) (st2 := [.ref 45, .int x11, .ref 47]) (h2 := (sh_rep m12.T m12.I m12.J)) rfl rfl rfl ?_
      refine sh_gR1 (len := 3) (x := .ref 10) (pc2 := 302) rfl rfl (sh_s44 hT.st) rfl rfl ?_
      refine sh_w (i := (.aload_n 0)) (len := 1) (pc2 := 303) (lv2 := [(12, .int r2), (0, .ref 45), (1, .int x1), (4, .int (sh_b2 x4)), (5, .int x5), (6, .int x6), (7, .int x7), (8, .int x8), (10, .int x10), (11, .int x11)]) (st2 := [.ref 45, .ref 10, .int x11, .ref 47]) (h2 := (sh_rep m12.T m12.I m12.J)) rfl rfl rfl ?_
      refine sh_gR1 (len := 3) (x := .ref 47) (pc2 := 306) rfl rfl (sh_s44 hT.st) rfl rfl ?_
      refine sh_w (i := (.iload 11)) (len := 2) (pc2 := 308) (lv2 := [(12, .int r2), (0, .ref 45), (1, .int x1), (4, .int (sh_b2 x4)), (5, .int x5), (6, .int x6), (7, .int x7), (8, .int x8), (10, .int x10), (11, .int x11)]) (st2 := [.int x11, .ref 47, .ref 10, .int x11, .ref 47]) (h2 := (sh_rep m12.T m12.I m12.J)) rfl rfl rfl ?_
      exact kk
    obtain ⟨c, e⟩ := sh_gd e
    refine sh_Lk_lift (T := m12.T) (I := m12.I) (J := m12.J) (s := m12.s) (pc2 := 311) (lv2 := [(12, .int r2), (0, .ref 45), (1, .int x1), (4, .int (sh_b2 x4)), (5, .int x5), (6, .int x6), (7, .int x7), (8, .int x8), (10, .int x10), (11, .int x11)]) (st2 := [.int r2, .int (m12.I 46 (Int32.toNatClampNeg x11)), .ref 10, .int x11, .ref 47]) (I2 := m12.I) (J2 := m12.J) (fun hT v kk => ?_) ?_
    · refine sh_ia1 (x := m12.I 46 (Int32.toNatClampNeg x11)) (pc2 := 309) rfl (sh_s46 hT.st) (sh_okb1 c) (sh_okb2 c) rfl rfl ?_
      refine sh_w (i := (.iload 12)) (len := 2) (pc2 := 311) (lv2 := [(12, .int r2), (0, .ref 45), (1, .int x1), (4, .int (sh_b2 x4)), (5, .int x5), (6, .int x6), (7, .int x7), (8, .int x8), (10, .int x10), (11, .int x11)]) (st2 := [.int r2, .int (m12.I 46 (Int32.toNatClampNeg x11)), .ref 10, .int x11, .ref 47]) (h2 := (sh_rep m12.T m12.I m12.J)) rfl rfl rfl ?_
      exact kk
    obtain ⟨r3, m13, e3, e⟩ := sh_bn_e e
    refine sh_Lk_cV (r := (some (.int r3))) (st2 := [.int r3, .int x11, .ref 47]) (pc2 := 314) (k2 := 130) (a := 9) (as := [.ref 10, .int (m12.I 46 (Int32.toNatClampNeg x11)), .int r2]) (rest := [.int x11, .ref 47]) rfl rfl rfl (fun hT => hT.t9) rfl rfl ⟨Nat.le_of_ble_eq_true rfl, Nat.le_of_ble_eq_true rfl⟩ (sl_130 e3 ⟨rfl, rfl⟩) rfl rfl (Nat.le_of_ble_eq_true rfl) (Nat.le_of_ble_eq_true rfl) ?_
    obtain ⟨c, e⟩ := sh_gd e
    refine sh_Lk_lift (T := m13.T) (I := m13.I) (J := m13.J) (s := m13.s) (pc2 := 253) (lv2 := [(11, .int (x11 + 1)), (12, .int r2), (0, .ref 45), (1, .int x1), (4, .int (sh_b2 x4)), (5, .int x5), (6, .int x6), (7, .int x7), (8, .int x8), (10, .int x10)]) (st2 := []) (I2 := sh_u2 m13.I 46 (Int32.toNatClampNeg x11) r3) (J2 := m13.J) (fun hT v kk => ?_) ?_
    · refine sh_is1 (x := r3) (i := x11) (pc2 := 315) rfl (sh_s46 hT.st) (sh_okb1 c) (sh_okb2 c) rfl ?_
      refine sh_w (i := (.iinc 11 1)) (len := 3) (pc2 := 318) (lv2 := [(11, .int (x11 + 1)), (12, .int r2), (0, .ref 45), (1, .int x1), (4, .int (sh_b2 x4)), (5, .int x5), (6, .int x6), (7, .int x7), (8, .int x8), (10, .int x10)]) (st2 := []) (h2 := (sh_rep m13.T (sh_u2 m13.I 46 (Int32.toNatClampNeg x11) r3) m13.J)) rfl rfl rfl ?_
      refine sh_w (i := (.goto (-65))) (len := 3) (pc2 := 253) (lv2 := [(11, .int (x11 + 1)), (12, .int r2), (0, .ref 45), (1, .int x1), (4, .int (sh_b2 x4)), (5, .int x5), (6, .int x6), (7, .int x7), (8, .int x8), (10, .int x10)]) (st2 := []) (h2 := (sh_rep m13.T (sh_u2 m13.I 46 (Int32.toNatClampNeg x11) r3) m13.J)) rfl rfl rfl ?_
      exact kk
    obtain rfl := Option.some.inj e
    exact sh_Lk_sub (sh_sub_c rfl (sh_sub_c rfl (sh_sub_c rfl (sh_sub_c rfl (sh_sub_c rfl (sh_sub_c rfl (sh_sub_c rfl (sh_sub_c rfl (sh_sub_c rfl (sh_sub_n)))))))))) tg
  · refine sh_Lk_lift (T := m.T) (I := m.I) (J := m.J) (s := m.s) (pc2 := 329) (lv2 := [(0, .ref 45), (1, .int x1), (4, .int (sh_b2 x4)), (5, .int x5), (6, .int x6), (7, .int x7), (8, .int x8), (10, .int x10), (11, .int x11)]) (st2 := [.int x10, .int (x5 + x8), .ref 45]) (I2 := m.I) (J2 := m.J) (fun hT v kk => ?_) ?_
    · refine sh_jc (c := .ge) (off := (64)) (pc2 := 321) true rfl (sh_Bget c) rfl ?_
      refine sh_w (i := (.aload_n 0)) (len := 1) (pc2 := 322) (lv2 := [(0, .ref 45), (1, .int x1), (4, .int (sh_b2 x4)), (5, .int x5), (6, .int x6), (7, .int x7), (8, .int x8), (10, .int x10), (11, .int x11)]) (st2 := [.ref 45]) (h2 := (sh_rep m.T m.I m.J)) rfl rfl rfl ?_
      refine sh_w (i := (.iload 5)) (len := 2) (pc2 := 324) (lv2 := [(0, .ref 45), (1, .int x1), (4, .int (sh_b2 x4)), (5, .int x5), (6, .int x6), (7, .int x7), (8, .int x8), (10, .int x10), (11, .int x11)]) (st2 := [.int x5, .ref 45]) (h2 := (sh_rep m.T m.I m.J)) rfl rfl rfl ?_
      refine sh_w (i := (.iload 8)) (len := 2) (pc2 := 326) (lv2 := [(0, .ref 45), (1, .int x1), (4, .int (sh_b2 x4)), (5, .int x5), (6, .int x6), (7, .int x7), (8, .int x8), (10, .int x10), (11, .int x11)]) (st2 := [.int x8, .int x5, .ref 45]) (h2 := (sh_rep m.T m.I m.J)) rfl rfl rfl ?_
      refine sh_w (i := .iadd) (len := 1) (pc2 := 327) (lv2 := [(0, .ref 45), (1, .int x1), (4, .int (sh_b2 x4)), (5, .int x5), (6, .int x6), (7, .int x7), (8, .int x8), (10, .int x10), (11, .int x11)]) (st2 := [.int (x5 + x8), .ref 45]) (h2 := (sh_rep m.T m.I m.J)) rfl rfl rfl ?_
      refine sh_w (i := (.iload 10)) (len := 2) (pc2 := 329) (lv2 := [(0, .ref 45), (1, .int x1), (4, .int (sh_b2 x4)), (5, .int x5), (6, .int x6), (7, .int x7), (8, .int x8), (10, .int x10), (11, .int x11)]) (st2 := [.int x10, .int (x5 + x8), .ref 45]) (h2 := (sh_rep m.T m.I m.J)) rfl rfl rfl ?_
      exact kk
    obtain ⟨r4, m14, e4, e⟩ := sh_bn_e e
    refine sh_Lk_cV (r := none) (st2 := []) (pc2 := 332) (k2 := 100) (a := 44) (as := [.ref 45, .int (x5 + x8), .int x10]) (rest := []) rfl rfl rfl (fun hT => (sh_s44 hT.st)) rfl rfl ⟨Nat.le_of_ble_eq_true rfl, Nat.le_of_ble_eq_true rfl⟩ (sl_100 e4 ⟨rfl, rfl⟩) rfl rfl (Nat.le_of_ble_eq_true rfl) (Nat.le_of_ble_eq_true rfl) ?_
    refine sh_Lk_lift (T := m14.T) (I := m14.I) (J := m14.J) (s := m14.s) (pc2 := 77) (lv2 := [(8, .int (x8 + (-1))), (0, .ref 45), (1, .int x1), (4, .int (sh_b2 x4)), (5, .int x5), (6, .int x6), (7, .int x7), (10, .int x10), (11, .int x11)]) (st2 := []) (I2 := m14.I) (J2 := m14.J) (fun hT v kk => ?_) ?_
    · refine sh_w (i := (.iinc 8 (-1))) (len := 3) (pc2 := 335) (lv2 := [(8, .int (x8 + (-1))), (0, .ref 45), (1, .int x1), (4, .int (sh_b2 x4)), (5, .int x5), (6, .int x6), (7, .int x7), (10, .int x10), (11, .int x11)]) (st2 := []) (h2 := (sh_rep m14.T m14.I m14.J)) rfl rfl rfl ?_
      refine sh_w (i := (.goto (-258))) (len := 3) (pc2 := 77) (lv2 := [(8, .int (x8 + (-1))), (0, .ref 45), (1, .int x1), (4, .int (sh_b2 x4)), (5, .int x5), (6, .int x6), (7, .int x7), (10, .int x10), (11, .int x11)]) (st2 := []) (h2 := (sh_rep m14.T m14.I m14.J)) rfl rfl rfl ?_
      exact kk
    obtain rfl := Option.some.inj e
    exact sh_Lk_sub (sh_sub_c rfl (sh_sub_c rfl (sh_sub_c rfl (sh_sub_c rfl (sh_sub_c rfl (sh_sub_c rfl (sh_sub_c rfl (sh_sub_n)))))))) tg
theorem sl_183_253 {x1 : Int32} {x4 : Bool} {x5 : Int32} {x6 : Int32} {x7 : Int32} {x8 : Int32} {x10 : Int32} {x11 : Int32} {m m2 : sh_X} {o : Outcome} {z : ((Int32 × sh_X) ⊕ (Int32 × sh_X))} (e : sf_183_253 x1 x4 x5 x6 x7 x8 x10 x11 m = some z) (tg : (sh_el (fun q => sh_Lk 183 77 [(0, .ref 45), (1, .int x1), (4, .int (sh_b2 x4)), (5, .int x5), (6, .int x6), (7, .int x7), (8, .int q.1)] [] q.2 o m2 12 323) (sh_tI o m2)) z) : sh_Lk 183 253 [(0, .ref 45), (1, .int x1), (4, .int (sh_b2 x4)), (5, .int x5), (6, .int x6), (7, .int x7), (8, .int x8), (10, .int x10), (11, .int x11)] [] m o m2 12 323 := by
  unfold sf_183_253 at e
  exact sh_while_lk (P := fun q => sh_Lk 183 253 [(0, .ref 45), (1, .int x1), (4, .int (sh_b2 x4)), (5, .int x5), (6, .int x6), (7, .int x7), (8, .int x8), (10, .int x10), (11, .int q.1)] [] q.2 o m2 12 323) (Q := (sh_el (fun q => sh_Lk 183 77 [(0, .ref 45), (1, .int x1), (4, .int (sh_b2 x4)), (5, .int x5), (6, .int x6), (7, .int x7), (8, .int q.1)] [] q.2 o m2 12 323) (sh_tI o m2))) (fun q z e tg => sl_183_253s (x1 := x1) (x4 := x4) (x5 := x5) (x6 := x6) (x7 := x7) (x8 := x8) (x10 := x10) (x11 := q.1) (m := q.2) e tg) (s := (x11, m)) e tg
theorem sl_183_133s {x1 : Int32} {x4 : Bool} {x5 : Int32} {x6 : Int32} {x7 : Int32} {x8 : Int32} {x9 : Int32} {x10 : Int32} {m m2 : sh_X} {o : Outcome} {z : ((Int32 × Int32 × sh_X) ⊕ ((Int32 × sh_X) ⊕ (Int32 × sh_X)))} (e : sf_183_133s x1 x4 x5 x6 x7 x8 x9 x10 m = some z) (tg : (sh_el (fun q => sh_Lk 183 133 [(0, .ref 45), (1, .int x1), (4, .int (sh_b2 x4)), (5, .int x5), (6, .int x6), (7, .int x7), (8, .int x8), (9, .int q.1), (10, .int q.2.1)] [] q.2.2 o m2 12 323) (sh_el (fun q => sh_Lk 183 77 [(0, .ref 45), (1, .int x1), (4, .int (sh_b2 x4)), (5, .int x5), (6, .int x6), (7, .int x7), (8, .int q.1)] [] q.2 o m2 12 323) (sh_tI o m2))) z) : sh_Lk 183 133 [(0, .ref 45), (1, .int x1), (4, .int (sh_b2 x4)), (5, .int x5), (6, .int x6), (7, .int x7), (8, .int x8), (9, .int x9), (10, .int x10)] [] m o m2 12 323 := by
  unfold sf_183_133s at e
  refine sh_Lk_lift (T := m.T) (I := m.I) (J := m.J) (s := m.s) (pc2 := 137) (lv2 := [(0, .ref 45), (1, .int x1), (4, .int (sh_b2 x4)), (5, .int x5), (6, .int x6), (7, .int x7), (8, .int x8), (9, .int x9), (10, .int x10)]) (st2 := [.int x7, .int x10]) (I2 := m.I) (J2 := m.J) (fun hT v kk => ?_) ?_
  · refine sh_w (i := (.iload 10)) (len := 2) (pc2 := 135) (lv2 := [(0, .ref 45), (1, .int x1), (4, .int (sh_b2 x4)), (5, .int x5), (6, .int x6), (7, .int x7), (8, .int x8), (9, .int x9), (10, .int x10)]) (st2 := [.int x10]) (h2 := (sh_rep m.T m.I m.J)) rfl rfl rfl ?_
    refine sh_w (i := (.iload 7)) (len := 2) (pc2 := 137) (lv2 := [(0, .ref 45), (1, .int x1), (4, .int (sh_b2 x4)), (5, .int x5), (6, .int x6), (7, .int x7), (8, .int x8), (9, .int x9), (10, .int x10)]) (st2 := [.int x7, .int x10]) (h2 := (sh_rep m.T m.I m.J)) rfl rfl rfl ?_
    exact kk
  rcases sh_ite e with ⟨c, e⟩ | ⟨c, e⟩
  · refine sh_Lk_lift (T := m.T) (I := m.I) (J := m.J) (s := m.s) (pc2 := 146) (lv2 := [(0, .ref 45), (1, .int x1), (4, .int (sh_b2 x4)), (5, .int x5), (6, .int x6), (7, .int x7), (8, .int x8), (9, .int x9), (10, .int x10)]) (st2 := [.int (x6 + x10), .ref 45]) (I2 := m.I) (J2 := m.J) (fun hT v kk => ?_) ?_
    · refine sh_jc (c := .ge) (off := (91)) (pc2 := 140) false rfl (sh_Bgef c) rfl ?_
      refine sh_w (i := (.aload_n 0)) (len := 1) (pc2 := 141) (lv2 := [(0, .ref 45), (1, .int x1), (4, .int (sh_b2 x4)), (5, .int x5), (6, .int x6), (7, .int x7), (8, .int x8), (9, .int x9), (10, .int x10)]) (st2 := [.ref 45]) (h2 := (sh_rep m.T m.I m.J)) rfl rfl rfl ?_
      refine sh_w (i := (.iload 6)) (len := 2) (pc2 := 143) (lv2 := [(0, .ref 45), (1, .int x1), (4, .int (sh_b2 x4)), (5, .int x5), (6, .int x6), (7, .int x7), (8, .int x8), (9, .int x9), (10, .int x10)]) (st2 := [.int x6, .ref 45]) (h2 := (sh_rep m.T m.I m.J)) rfl rfl rfl ?_
      refine sh_w (i := (.iload 10)) (len := 2) (pc2 := 145) (lv2 := [(0, .ref 45), (1, .int x1), (4, .int (sh_b2 x4)), (5, .int x5), (6, .int x6), (7, .int x7), (8, .int x8), (9, .int x9), (10, .int x10)]) (st2 := [.int x10, .int x6, .ref 45]) (h2 := (sh_rep m.T m.I m.J)) rfl rfl rfl ?_
      refine sh_w (i := .iadd) (len := 1) (pc2 := 146) (lv2 := [(0, .ref 45), (1, .int x1), (4, .int (sh_b2 x4)), (5, .int x5), (6, .int x6), (7, .int x7), (8, .int x8), (9, .int x9), (10, .int x10)]) (st2 := [.int (x6 + x10), .ref 45]) (h2 := (sh_rep m.T m.I m.J)) rfl rfl rfl ?_
      exact kk
    obtain ⟨r1, e1, e⟩ := sh_bc_e e
    refine sh_Lk_cV (r := (some (.int r1))) (st2 := [.int r1]) (pc2 := 149) (k2 := 103) (a := 44) (as := [.ref 45, .int (x6 + x10)]) (rest := []) rfl rfl rfl (fun hT => (sh_s44 hT.st)) rfl rfl ⟨Nat.le_of_ble_eq_true rfl, Nat.le_of_ble_eq_true rfl⟩ (sl_103 e1 ⟨rfl, rfl⟩) rfl rfl (Nat.le_of_ble_eq_true rfl) (Nat.le_of_ble_eq_true rfl) ?_
    refine sh_Lk_lift (T := m.T) (I := m.I) (J := m.J) (s := m.s) (pc2 := 161) (lv2 := [(11, .int r1), (0, .ref 45), (1, .int x1), (4, .int (sh_b2 x4)), (5, .int x5), (6, .int x6), (7, .int x7), (8, .int x8), (9, .int x9), (10, .int x10)]) (st2 := [.int x10, .ref 47, .ref 10]) (I2 := m.I) (J2 := m.J) (fun hT v kk => ?_) ?_
    · refine sh_w (i := (.istore 11)) (len := 2) (pc2 := 151) (lv2 := [(11, .int r1), (0, .ref 45), (1, .int x1), (4, .int (sh_b2 x4)), (5, .int x5), (6, .int x6), (7, .int x7), (8, .int x8), (9, .int x9), (10, .int x10)]) (st2 := []) (h2 := (sh_rep m.T m.I m.J)) rfl rfl rfl ?_
      refine sh_w (i := (.aload_n 0)) (len := 1) (pc2 := 152) (lv2 := [(11, .int r1), (0, .ref 45), (1, .int x1), (4, .int (sh_b2 x4)), (5, .int x5), (6, .int x6), (7, .int x7), (8, .int x8), (9, .int x9), (10, .int x10)]) (st2 := [.ref 45]) (h2 := (sh_rep m.T m.I m.J)) rfl rfl rfl ?_
      refine sh_gR1 (len := 3) (x := .ref 10) (pc2 := 155) rfl rfl (sh_s44 hT.st) rfl rfl ?_
      refine sh_w (i := (.aload_n 0)) (len := 1) (pc2 := 156) (lv2 := [(11, .int r1), (0, .ref 45), (1, .int x1), (4, .int (sh_b2 x4)), (5, .int x5), (6, .int x6), (7, .int x7), (8, .int x8), (9, .int x9), (10, .int x10)]) (st2 := [.ref 45, .ref 10]) (h2 := (sh_rep m.T m.I m.J)) rfl rfl rfl ?_
      refine sh_gR1 (len := 3) (x := .ref 47) (pc2 := 159) rfl rfl (sh_s44 hT.st) rfl rfl ?_
      refine sh_w (i := (.iload 10)) (len := 2) (pc2 := 161) (lv2 := [(11, .int r1), (0, .ref 45), (1, .int x1), (4, .int (sh_b2 x4)), (5, .int x5), (6, .int x6), (7, .int x7), (8, .int x8), (9, .int x9), (10, .int x10)]) (st2 := [.int x10, .ref 47, .ref 10]) (h2 := (sh_rep m.T m.I m.J)) rfl rfl rfl ?_
      exact kk
    obtain ⟨c, e⟩ := sh_gd e
    refine sh_Lk_lift (T := m.T) (I := m.I) (J := m.J) (s := m.s) (pc2 := 164) (lv2 := [(11, .int r1), (0, .ref 45), (1, .int x1), (4, .int (sh_b2 x4)), (5, .int x5), (6, .int x6), (7, .int x7), (8, .int x8), (9, .int x9), (10, .int x10)]) (st2 := [.int x9, .int (m.I 46 (Int32.toNatClampNeg x10)), .ref 10]) (I2 := m.I) (J2 := m.J) (fun hT v kk => ?_) ?_
    · refine sh_ia1 (x := m.I 46 (Int32.toNatClampNeg x10)) (pc2 := 162) rfl (sh_s46 hT.st) (sh_okb1 c) (sh_okb2 c) rfl rfl ?_
      refine sh_w (i := (.iload 9)) (len := 2) (pc2 := 164) (lv2 := [(11, .int r1), (0, .ref 45), (1, .int x1), (4, .int (sh_b2 x4)), (5, .int x5), (6, .int x6), (7, .int x7), (8, .int x8), (9, .int x9), (10, .int x10)]) (st2 := [.int x9, .int (m.I 46 (Int32.toNatClampNeg x10)), .ref 10]) (h2 := (sh_rep m.T m.I m.J)) rfl rfl rfl ?_
      exact kk
    obtain ⟨r2, m12, e2, e⟩ := sh_bn_e e
    refine sh_Lk_cV (r := (some (.int r2))) (st2 := [.int r2]) (pc2 := 167) (k2 := 130) (a := 9) (as := [.ref 10, .int (m.I 46 (Int32.toNatClampNeg x10)), .int x9]) (rest := []) rfl rfl rfl (fun hT => hT.t9) rfl rfl ⟨Nat.le_of_ble_eq_true rfl, Nat.le_of_ble_eq_true rfl⟩ (sl_130 e2 ⟨rfl, rfl⟩) rfl rfl (Nat.le_of_ble_eq_true rfl) (Nat.le_of_ble_eq_true rfl) ?_
    refine sh_Lk_lift (T := m12.T) (I := m12.I) (J := m12.J) (s := m12.s) (pc2 := 177) (lv2 := [(12, .int r2), (11, .int r1), (0, .ref 45), (1, .int x1), (4, .int (sh_b2 x4)), (5, .int x5), (6, .int x6), (7, .int x7), (8, .int x8), (9, .int x9), (10, .int x10)]) (st2 := [.int x9, .int r1, .ref 10]) (I2 := m12.I) (J2 := m12.J) (fun hT v kk => ?_) ?_
    · refine sh_w (i := (.istore 12)) (len := 2) (pc2 := 169) (lv2 := [(12, .int r2), (11, .int r1), (0, .ref 45), (1, .int x1), (4, .int (sh_b2 x4)), (5, .int x5), (6, .int x6), (7, .int x7), (8, .int x8), (9, .int x9), (10, .int x10)]) (st2 := []) (h2 := (sh_rep m12.T m12.I m12.J)) rfl rfl rfl ?_
      refine sh_w (i := (.aload_n 0)) (len := 1) (pc2 := 170) (lv2 := [(12, .int r2), (11, .int r1), (0, .ref 45), (1, .int x1), (4, .int (sh_b2 x4)), (5, .int x5), (6, .int x6), (7, .int x7), (8, .int x8), (9, .int x9), (10, .int x10)]) (st2 := [.ref 45]) (h2 := (sh_rep m12.T m12.I m12.J)) rfl rfl rfl ?_
      refine sh_gR1 (len := 3) (x := .ref 10) (pc2 := 173) rfl rfl (sh_s44 hT.st) rfl rfl ?_
      refine sh_w (i := (.iload 11)) (len := 2) (pc2 := 175) (lv2 := [(12, .int r2), (11, .int r1), (0, .ref 45), (1, .int x1), (4, .int (sh_b2 x4)), (5, .int x5), (6, .int x6), (7, .int x7), (8, .int x8), (9, .int x9), (10, .int x10)]) (st2 := [.int r1, .ref 10]) (h2 := (sh_rep m12.T m12.I m12.J)) rfl rfl rfl ?_
      refine sh_w (i := (.iload 9)) (len := 2) (pc2 := 177) (lv2 := [(12, .int r2), (11, .int r1), (0, .ref 45), (1, .int x1), (4, .int (sh_b2 x4)), (5, .int x5), (6, .int x6), (7, .int x7), (8, .int x8), (9, .int x9), (10, .int x10)]) (st2 := [.int x9, .int r1, .ref 10]) (h2 := (sh_rep m12.T m12.I m12.J)) rfl rfl rfl ?_
      exact kk
    obtain ⟨r3, m13, e3, e⟩ := sh_bn_e e
    refine sh_Lk_cV (r := (some (.int r3))) (st2 := [.int r3]) (pc2 := 180) (k2 := 130) (a := 9) (as := [.ref 10, .int r1, .int x9]) (rest := []) rfl rfl rfl (fun hT => hT.t9) rfl rfl ⟨Nat.le_of_ble_eq_true rfl, Nat.le_of_ble_eq_true rfl⟩ (sl_130 e3 ⟨rfl, rfl⟩) rfl rfl (Nat.le_of_ble_eq_true rfl) (Nat.le_of_ble_eq_true rfl) ?_
    refine sh_Lk_lift (T := m13.T) (I := m13.I) (J := m13.J) (s := m13.s) (pc2 := 196) (lv2 := [(13, .int r3), (12, .int r2), (11, .int r1), (0, .ref 45), (1, .int x1), (4, .int (sh_b2 x4)), (5, .int x5), (6, .int x6), (7, .int x7), (8, .int x8), (9, .int x9), (10, .int x10)]) (st2 := [.int r1, .int r2, .ref 10, .int x10, .ref 48]) (I2 := m13.I) (J2 := m13.J) (fun hT v kk => ?_) ?_
    · refine sh_w (i := (.istore 13)) (len := 2) (pc2 := 182) (lv2 := [(13, .int r3), (12, .int r2), (11, .int r1), (0, .ref 45), (1, .int x1), (4, .int (sh_b2 x4)), (5, .int x5), (6, .int x6), (7, .int x7), (8, .int x8), (9, .int x9), (10, .int x10)]) (st2 := []) (h2 := (sh_rep m13.T m13.I m13.J)) rfl rfl rfl ?_
      refine sh_w (i := (.aload_n 0)) (len := 1) (pc2 := 183) (lv2 := [(13, .int r3), (12, .int r2), (11, .int r1), (0, .ref 45), (1, .int x1), (4, .int (sh_b2 x4)), (5, .int x5), (6, .int x6), (7, .int x7), (8, .int x8), (9, .int x9), (10, .int x10)]) (st2 := [.ref 45]) (h2 := (sh_rep m13.T m13.I m13.J)) rfl rfl rfl ?_
      refine sh_gR1 (len := 3) (x := .ref 48) (pc2 := 186) rfl rfl (sh_s44 hT.st) rfl rfl ?_
      refine sh_w (i := (.iload 10)) (len := 2) (pc2 := 188) (lv2 := [(13, .int r3), (12, .int r2), (11, .int r1), (0, .ref 45), (1, .int x1), (4, .int (sh_b2 x4)), (5, .int x5), (6, .int x6), (7, .int x7), (8, .int x8), (9, .int x9), (10, .int x10)]) (st2 := [.int x10, .ref 48]) (h2 := (sh_rep m13.T m13.I m13.J)) rfl rfl rfl ?_
      refine sh_w (i := (.aload_n 0)) (len := 1) (pc2 := 189) (lv2 := [(13, .int r3), (12, .int r2), (11, .int r1), (0, .ref 45), (1, .int x1), (4, .int (sh_b2 x4)), (5, .int x5), (6, .int x6), (7, .int x7), (8, .int x8), (9, .int x9), (10, .int x10)]) (st2 := [.ref 45, .int x10, .ref 48]) (h2 := (sh_rep m13.T m13.I m13.J)) rfl rfl rfl ?_
      refine sh_gR1 (len := 3) (x := .ref 10) (pc2 := 192) rfl rfl (sh_s44 hT.st) rfl rfl ?_
      refine sh_w (i := (.iload 12)) (len := 2) (pc2 := 194) (lv2 := [(13, .int r3), (12, .int r2), (11, .int r1), (0, .ref 45), (1, .int x1), (4, .int (sh_b2 x4)), (5, .int x5), (6, .int x6), (7, .int x7), (8, .int x8), (9, .int x9), (10, .int x10)]) (st2 := [.int r2, .ref 10, .int x10, .ref 48]) (h2 := (sh_rep m13.T m13.I m13.J)) rfl rfl rfl ?_
      refine sh_w (i := (.iload 11)) (len := 2) (pc2 := 196) (lv2 := [(13, .int r3), (12, .int r2), (11, .int r1), (0, .ref 45), (1, .int x1), (4, .int (sh_b2 x4)), (5, .int x5), (6, .int x6), (7, .int x7), (8, .int x8), (9, .int x9), (10, .int x10)]) (st2 := [.int r1, .int r2, .ref 10, .int x10, .ref 48]) (h2 := (sh_rep m13.T m13.I m13.J)) rfl rfl rfl ?_
      exact kk
    obtain ⟨r4, m14, e4, e⟩ := sh_bn_e e
    refine sh_Lk_cV (r := (some (.int r4))) (st2 := [.int r4, .int x10, .ref 48]) (pc2 := 199) (k2 := 130) (a := 9) (as := [.ref 10, .int r2, .int r1]) (rest := [.int x10, .ref 48]) rfl rfl rfl (fun hT => hT.t9) rfl rfl ⟨Nat.le_of_ble_eq_true rfl, Nat.le_of_ble_eq_true rfl⟩ (sl_130 e4 ⟨rfl, rfl⟩) rfl rfl (Nat.le_of_ble_eq_true rfl) (Nat.le_of_ble_eq_true rfl) ?_
    obtain ⟨c, e⟩ := sh_gd e
    refine sh_Lk_lift (T := m14.T) (I := m14.I) (J := m14.J) (s := m14.s) (pc2 := 212) (lv2 := [(13, .int r3), (12, .int r2), (11, .int r1), (0, .ref 45), (1, .int x1), (4, .int (sh_b2 x4)), (5, .int x5), (6, .int x6), (7, .int x7), (8, .int x8), (9, .int x9), (10, .int x10)]) (st2 := [.int r3, .int r2, .ref 10, .ref 10]) (I2 := sh_u2 m14.I 47 (Int32.toNatClampNeg x10) r4) (J2 := m14.J) (fun hT v kk => ?_) ?_
    · refine sh_is1 (x := r4) (i := x10) (pc2 := 200) rfl (sh_s47 hT.st) (sh_okb1 c) (sh_okb2 c) rfl ?_
      refine sh_w (i := (.aload_n 0)) (len := 1) (pc2 := 201) (lv2 := [(13, .int r3), (12, .int r2), (11, .int r1), (0, .ref 45), (1, .int x1), (4, .int (sh_b2 x4)), (5, .int x5), (6, .int x6), (7, .int x7), (8, .int x8), (9, .int x9), (10, .int x10)]) (st2 := [.ref 45]) (h2 := (sh_rep m14.T (sh_u2 m14.I 47 (Int32.toNatClampNeg x10) r4) m14.J)) rfl rfl rfl ?_
      refine sh_gR1 (len := 3) (x := .ref 10) (pc2 := 204) rfl rfl (sh_s44 hT.st) rfl rfl ?_
      refine sh_w (i := (.aload_n 0)) (len := 1) (pc2 := 205) (lv2 := [(13, .int r3), (12, .int r2), (11, .int r1), (0, .ref 45), (1, .int x1), (4, .int (sh_b2 x4)), (5, .int x5), (6, .int x6), (7, .int x7), (8, .int x8), (9, .int x9), (10, .int x10)]) (st2 := [.ref 45, .ref 10]) (h2 := (sh_rep m14.T (sh_u2 m14.I 47 (Int32.toNatClampNeg x10) r4) m14.J)) rfl rfl rfl ?_
      refine sh_gR1 (len := 3) (x := .ref 10) (pc2 := 208) rfl rfl (sh_s44 hT.st) rfl rfl ?_
      refine sh_w (i := (.iload 12)) (len := 2) (pc2 := 210) (lv2 := [(13, .int r3), (12, .int r2), (11, .int r1), (0, .ref 45), (1, .int x1), (4, .int (sh_b2 x4)), (5, .int x5), (6, .int x6), (7, .int x7), (8, .int x8), (9, .int x9), (10, .int x10)]) (st2 := [.int r2, .ref 10, .ref 10]) (h2 := (sh_rep m14.T (sh_u2 m14.I 47 (Int32.toNatClampNeg x10) r4) m14.J)) rfl rfl rfl ?_
      refine sh_w (i := (.iload 13)) (len := 2) (pc2 := 212) (lv2 := [(13, .int r3), (12, .int r2), (11, .int r1), (0, .ref 45), (1, .int x1), (4, .int (sh_b2 x4)), (5, .int x5), (6, .int x6), (7, .int x7), (8, .int x8), (9, .int x9), (10, .int x10)]) (st2 := [.int r3, .int r2, .ref 10, .ref 10]) (h2 := (sh_rep m14.T (sh_u2 m14.I 47 (Int32.toNatClampNeg x10) r4) m14.J)) rfl rfl rfl ?_
      exact kk
    obtain ⟨r5, m15, e5, e⟩ := sh_bn_e e
    refine sh_Lk_cV (r := (some (.int r5))) (st2 := [.int r5, .ref 10]) (pc2 := 215) (k2 := 132) (a := 9) (as := [.ref 10, .int r2, .int r3]) (rest := [.ref 10]) rfl rfl rfl (fun hT => hT.t9) rfl rfl ⟨Nat.le_of_ble_eq_true rfl, Nat.le_of_ble_eq_true rfl⟩ (sl_132 e5 ⟨rfl, rfl⟩) rfl rfl (Nat.le_of_ble_eq_true rfl) (Nat.le_of_ble_eq_true rfl) ?_
    refine sh_Lk_lift (T := m15.T) (I := m15.I) (J := m15.J) (s := m15.s) (pc2 := 217) (lv2 := [(13, .int r3), (12, .int r2), (11, .int r1), (0, .ref 45), (1, .int x1), (4, .int (sh_b2 x4)), (5, .int x5), (6, .int x6), (7, .int x7), (8, .int x8), (9, .int x9), (10, .int x10)]) (st2 := [.int x9, .int r5, .ref 10]) (I2 := m15.I) (J2 := m15.J) (fun hT v kk => ?_) ?_
    · refine sh_w (i := (.iload 9)) (len := 2) (pc2 := 217) (lv2 := [(13, .int r3), (12, .int r2), (11, .int r1), (0, .ref 45), (1, .int x1), (4, .int (sh_b2 x4)), (5, .int x5), (6, .int x6), (7, .int x7), (8, .int x8), (9, .int x9), (10, .int x10)]) (st2 := [.int x9, .int r5, .ref 10]) (h2 := (sh_rep m15.T m15.I m15.J)) rfl rfl rfl ?_
      exact kk
    obtain ⟨r6, m16, e6, e⟩ := sh_bn_e e
    refine sh_Lk_cV (r := (some (.int r6))) (st2 := [.int r6]) (pc2 := 220) (k2 := 130) (a := 9) (as := [.ref 10, .int r5, .int x9]) (rest := []) rfl rfl rfl (fun hT => hT.t9) rfl rfl ⟨Nat.le_of_ble_eq_true rfl, Nat.le_of_ble_eq_true rfl⟩ (sl_130 e6 ⟨rfl, rfl⟩) rfl rfl (Nat.le_of_ble_eq_true rfl) (Nat.le_of_ble_eq_true rfl) ?_
    refine sh_Lk_lift (T := m16.T) (I := m16.I) (J := m16.J) (s := m16.s) (pc2 := 133) (lv2 := [(10, .int (x10 + 1)), (9, .int r6), (13, .int r3), (12, .int r2), (11, .int r1), (0, .ref 45), (1, .int x1), (4, .int (sh_b2 x4)), (5, .int x5), (6, .int x6), (7, .int x7), (8, .int x8)]) (st2 := []) (I2 := m16.I) (J2 := m16.J) (fun hT v kk => ?_) ?_
    · refine sh_w (i := (.istore 9)) (len := 2) (pc2 := 222) (lv2 := [(9, .int r6), (13, .int r3), (12, .int r2), (11, .int r1), (0, .ref 45), (1, .int x1), (4, .int (sh_b2 x4)), (5, .int x5), (6, .int x6), (7, .int x7), (8, .int x8), (10, .int x10)]) (st2 := []) (h2 := (sh_rep m16.T m16.I m16.J)) rfl rfl rfl ?_
      refine sh_w (i := (.iinc 10 1)) (len := 3) (pc2 := 225) (lv2 := [(10, .int (x10 + 1)), (9, .int r6), (13, .int r3), (12, .int r2), (11, .int r1), (0, .ref 45), (1, .int x1), (4, .int (sh_b2 x4)), (5, .int x5), (6, .int x6), (7, .int x7), (8, .int x8)]) (st2 := []) (h2 := (sh_rep m16.T m16.I m16.J)) rfl rfl rfl ?_
      refine sh_w (i := (.goto (-92))) (len := 3) (pc2 := 133) (lv2 := [(10, .int (x10 + 1)), (9, .int r6), (13, .int r3), (12, .int r2), (11, .int r1), (0, .ref 45), (1, .int x1), (4, .int (sh_b2 x4)), (5, .int x5), (6, .int x6), (7, .int x7), (8, .int x8)]) (st2 := []) (h2 := (sh_rep m16.T m16.I m16.J)) rfl rfl rfl ?_
      exact kk
    obtain rfl := Option.some.inj e
    exact sh_Lk_sub (sh_sub_c rfl (sh_sub_c rfl (sh_sub_c rfl (sh_sub_c rfl (sh_sub_c rfl (sh_sub_c rfl (sh_sub_c rfl (sh_sub_c rfl (sh_sub_c rfl (sh_sub_n)))))))))) tg
  · refine sh_Lk_lift (T := m.T) (I := m.I) (J := m.J) (s := m.s) (pc2 := 239) (lv2 := [(0, .ref 45), (1, .int x1), (4, .int (sh_b2 x4)), (5, .int x5), (6, .int x6), (7, .int x7), (8, .int x8), (9, .int x9), (10, .int x10)]) (st2 := [.int x7, .int 0, .ref 47, .ref 10]) (I2 := m.I) (J2 := m.J) (fun hT v kk => ?_) ?_
    · refine sh_jc (c := .ge) (off := (91)) (pc2 := 228) true rfl (sh_Bget c) rfl ?_
      refine sh_w (i := (.aload_n 0)) (len := 1) (pc2 := 229) (lv2 := [(0, .ref 45), (1, .int x1), (4, .int (sh_b2 x4)), (5, .int x5), (6, .int x6), (7, .int x7), (8, .int x8), (9, .int x9), (10, .int x10)]) (st2 := [.ref 45]) (h2 := (sh_rep m.T m.I m.J)) rfl rfl rfl ?_
      refine sh_gR1 (len := 3) (x := .ref 10) (pc2 := 232) rfl rfl (sh_s44 hT.st) rfl rfl ?_
      refine sh_w (i := (.aload_n 0)) (len := 1) (pc2 := 233) (lv2 := [(0, .ref 45), (1, .int x1), (4, .int (sh_b2 x4)), (5, .int x5), (6, .int x6), (7, .int x7), (8, .int x8), (9, .int x9), (10, .int x10)]) (st2 := [.ref 45, .ref 10]) (h2 := (sh_rep m.T m.I m.J)) rfl rfl rfl ?_
      refine sh_gR1 (len := 3) (x := .ref 47) (pc2 := 236) rfl rfl (sh_s44 hT.st) rfl rfl ?_
      refine sh_w (i := (.iconst 0)) (len := 1) (pc2 := 237) (lv2 := [(0, .ref 45), (1, .int x1), (4, .int (sh_b2 x4)), (5, .int x5), (6, .int x6), (7, .int x7), (8, .int x8), (9, .int x9), (10, .int x10)]) (st2 := [.int 0, .ref 47, .ref 10]) (h2 := (sh_rep m.T m.I m.J)) rfl rfl rfl ?_
      refine sh_w (i := (.iload 7)) (len := 2) (pc2 := 239) (lv2 := [(0, .ref 45), (1, .int x1), (4, .int (sh_b2 x4)), (5, .int x5), (6, .int x6), (7, .int x7), (8, .int x8), (9, .int x9), (10, .int x10)]) (st2 := [.int x7, .int 0, .ref 47, .ref 10]) (h2 := (sh_rep m.T m.I m.J)) rfl rfl rfl ?_
      exact kk
    refine sh_Lk_cS (r := (some (.int (sf_42 0 x7)))) (st2 := [.int (sf_42 0 x7), .ref 47, .ref 10]) (pc2 := 242) (k2 := 42) (as := [.int 0, .int x7]) (rest := [.ref 47, .ref 10]) rfl rfl (by decide) (Nat.le_of_ble_eq_true rfl) rfl rfl ⟨Nat.le_of_ble_eq_true rfl, Nat.le_of_ble_eq_true rfl⟩ (sl_42 (m := m) rfl ⟨rfl, rfl⟩) rfl rfl (Nat.le_of_ble_eq_true rfl) (Nat.le_of_ble_eq_true rfl) ?_
    obtain ⟨c, e⟩ := sh_gd e
    refine sh_Lk_lift (T := m.T) (I := m.I) (J := m.J) (s := m.s) (pc2 := 245) (lv2 := [(0, .ref 45), (1, .int x1), (4, .int (sh_b2 x4)), (5, .int x5), (6, .int x6), (7, .int x7), (8, .int x8), (9, .int x9), (10, .int x10)]) (st2 := [.int x9, .int (m.I 46 (Int32.toNatClampNeg (sf_42 0 x7))), .ref 10]) (I2 := m.I) (J2 := m.J) (fun hT v kk => ?_) ?_
    · refine sh_ia1 (x := m.I 46 (Int32.toNatClampNeg (sf_42 0 x7))) (pc2 := 243) rfl (sh_s46 hT.st) (sh_okb1 c) (sh_okb2 c) rfl rfl ?_
      refine sh_w (i := (.iload 9)) (len := 2) (pc2 := 245) (lv2 := [(0, .ref 45), (1, .int x1), (4, .int (sh_b2 x4)), (5, .int x5), (6, .int x6), (7, .int x7), (8, .int x8), (9, .int x9), (10, .int x10)]) (st2 := [.int x9, .int (m.I 46 (Int32.toNatClampNeg (sf_42 0 x7))), .ref 10]) (h2 := (sh_rep m.T m.I m.J)) rfl rfl rfl ?_
      exact kk
    obtain ⟨r8, m18, e8, e⟩ := sh_bn_e e
    refine sh_Lk_cV (r := (some (.int r8))) (st2 := [.int r8]) (pc2 := 248) (k2 := 185) (a := 9) (as := [.ref 10, .int (m.I 46 (Int32.toNatClampNeg (sf_42 0 x7))), .int x9]) (rest := []) rfl rfl rfl (fun hT => hT.t9) rfl rfl ⟨Nat.le_of_ble_eq_true rfl, Nat.le_of_ble_eq_true rfl⟩ (sl_185 e8 ⟨rfl, rfl⟩) rfl rfl (Nat.le_of_ble_eq_true rfl) (Nat.le_of_ble_eq_true rfl) ?_
    refine sh_Lk_lift (T := m18.T) (I := m18.I) (J := m18.J) (s := m18.s) (pc2 := 253) (lv2 := [(11, .int 0), (10, .int r8), (0, .ref 45), (1, .int x1), (4, .int (sh_b2 x4)), (5, .int x5), (6, .int x6), (7, .int x7), (8, .int x8), (9, .int x9)]) (st2 := []) (I2 := m18.I) (J2 := m18.J) (fun hT v kk => ?_) ?_
    · refine sh_w (i := (.istore 10)) (len := 2) (pc2 := 250) (lv2 := [(10, .int r8), (0, .ref 45), (1, .int x1), (4, .int (sh_b2 x4)), (5, .int x5), (6, .int x6), (7, .int x7), (8, .int x8), (9, .int x9)]) (st2 := []) (h2 := (sh_rep m18.T m18.I m18.J)) rfl rfl rfl ?_
      refine sh_w (i := (.iconst 0)) (len := 1) (pc2 := 251) (lv2 := [(10, .int r8), (0, .ref 45), (1, .int x1), (4, .int (sh_b2 x4)), (5, .int x5), (6, .int x6), (7, .int x7), (8, .int x8), (9, .int x9)]) (st2 := [.int 0]) (h2 := (sh_rep m18.T m18.I m18.J)) rfl rfl rfl ?_
      refine sh_w (i := (.istore 11)) (len := 2) (pc2 := 253) (lv2 := [(11, .int 0), (10, .int r8), (0, .ref 45), (1, .int x1), (4, .int (sh_b2 x4)), (5, .int x5), (6, .int x6), (7, .int x7), (8, .int x8), (9, .int x9)]) (st2 := []) (h2 := (sh_rep m18.T m18.I m18.J)) rfl rfl rfl ?_
      exact kk
    obtain ⟨_, eu, rfl⟩ := sh_up_e e
    exact sh_Lk_sub (sh_sub_c rfl (sh_sub_c rfl (sh_sub_c rfl (sh_sub_c rfl (sh_sub_c rfl (sh_sub_c rfl (sh_sub_c rfl (sh_sub_c rfl (sh_sub_c rfl (sh_sub_n)))))))))) (sl_183_253 eu tg)
theorem sl_183_133 {x1 : Int32} {x4 : Bool} {x5 : Int32} {x6 : Int32} {x7 : Int32} {x8 : Int32} {x9 : Int32} {x10 : Int32} {m m2 : sh_X} {o : Outcome} {z : ((Int32 × sh_X) ⊕ (Int32 × sh_X))} (e : sf_183_133 x1 x4 x5 x6 x7 x8 x9 x10 m = some z) (tg : (sh_el (fun q => sh_Lk 183 77 [(0, .ref 45), (1, .int x1), (4, .int (sh_b2 x4)), (5, .int x5), (6, .int x6), (7, .int x7), (8, .int q.1)] [] q.2 o m2 12 323) (sh_tI o m2)) z) : sh_Lk 183 133 [(0, .ref 45), (1, .int x1), (4, .int (sh_b2 x4)), (5, .int x5), (6, .int x6), (7, .int x7), (8, .int x8), (9, .int x9), (10, .int x10)] [] m o m2 12 323 := by
  unfold sf_183_133 at e
  exact sh_while_lk (P := fun q => sh_Lk 183 133 [(0, .ref 45), (1, .int x1), (4, .int (sh_b2 x4)), (5, .int x5), (6, .int x6), (7, .int x7), (8, .int x8), (9, .int q.1), (10, .int q.2.1)] [] q.2.2 o m2 12 323) (Q := (sh_el (fun q => sh_Lk 183 77 [(0, .ref 45), (1, .int x1), (4, .int (sh_b2 x4)), (5, .int x5), (6, .int x6), (7, .int x7), (8, .int q.1)] [] q.2 o m2 12 323) (sh_tI o m2))) (fun q z e tg => sl_183_133s (x1 := x1) (x4 := x4) (x5 := x5) (x6 := x6) (x7 := x7) (x8 := x8) (x9 := q.1) (x10 := q.2.1) (m := q.2.2) e tg) (s := (x9, x10, m)) e tg
theorem sl_183_86s {x1 : Int32} {x4 : Bool} {x5 : Int32} {x6 : Int32} {x7 : Int32} {x8 : Int32} {x9 : Int32} {m m2 : sh_X} {o : Outcome} {z : ((Int32 × sh_X) ⊕ ((Int32 × sh_X) ⊕ (Int32 × sh_X)))} (e : sf_183_86s x1 x4 x5 x6 x7 x8 x9 m = some z) (tg : (sh_el (fun q => sh_Lk 183 86 [(0, .ref 45), (1, .int x1), (4, .int (sh_b2 x4)), (5, .int x5), (6, .int x6), (7, .int x7), (8, .int x8), (9, .int q.1)] [] q.2 o m2 12 323) (sh_el (fun q => sh_Lk 183 77 [(0, .ref 45), (1, .int x1), (4, .int (sh_b2 x4)), (5, .int x5), (6, .int x6), (7, .int x7), (8, .int q.1)] [] q.2 o m2 12 323) (sh_tI o m2))) z) : sh_Lk 183 86 [(0, .ref 45), (1, .int x1), (4, .int (sh_b2 x4)), (5, .int x5), (6, .int x6), (7, .int x7), (8, .int x8), (9, .int x9)] [] m o m2 12 323 := by
  unfold sf_183_86s at e
  refine sh_Lk_lift (T := m.T) (I := m.I) (J := m.J) (s := m.s) (pc2 := 88) (lv2 := [(0, .ref 45), (1, .int x1), (4, .int (sh_b2 x4)), (5, .int x5), (6, .int x6), (7, .int x7), (8, .int x8), (9, .int x9)]) (st2 := [.int x9]) (I2 := m.I) (J2 := m.J) (fun hT v kk => ?_) ?_
  · refine sh_w (i := (.iload 9)) (len := 2) (pc2 := 88) (lv2 := [(0, .ref 45), (1, .int x1), (4, .int (sh_b2 x4)), (5, .int x5), (6, .int x6), (7, .int x7), (8, .int x8), (9, .int x9)]) (st2 := [.int x9]) (h2 := (sh_rep m.T m.I m.J)) rfl rfl rfl ?_
    exact kk
  rcases sh_ite e with ⟨c, e⟩ | ⟨c, e⟩
  · refine sh_Lk_lift (T := m.T) (I := m.I) (J := m.J) (s := m.s) (pc2 := 105) (lv2 := [(0, .ref 45), (1, .int x1), (4, .int (sh_b2 x4)), (5, .int x5), (6, .int x6), (7, .int x7), (8, .int x8), (9, .int x9)]) (st2 := [.int (x9 - 1), .ref 47, .int x9, .ref 47]) (I2 := m.I) (J2 := m.J) (fun hT v kk => ?_) ?_
    · refine sh_j0 (c := .le) (off := (25)) (pc2 := 91) false rfl (sh_Blef c) rfl ?_
      refine sh_w (i := (.aload_n 0)) (len := 1) (pc2 := 92) (lv2 := [(0, .ref 45), (1, .int x1), (4, .int (sh_b2 x4)), (5, .int x5), (6, .int x6), (7, .int x7), (8, .int x8), (9, .int x9)]) (st2 := [.ref 45]) (h2 := (sh_rep m.T m.I m.J)) rfl rfl rfl ?_
      refine sh_gR1 (len := 3) (x := .ref 47) (pc2 := 95) rfl rfl (sh_s44 hT.st) rfl rfl ?_
      refine sh_w (i := (.iload 9)) (len := 2) (pc2 := 97) (lv2 := [(0, .ref 45), (1, .int x1), (4, .int (sh_b2 x4)), (5, .int x5), (6, .int x6), (7, .int x7), (8, .int x8), (9, .int x9)]) (st2 := [.int x9, .ref 47]) (h2 := (sh_rep m.T m.I m.J)) rfl rfl rfl ?_
      refine sh_w (i := (.aload_n 0)) (len := 1) (pc2 := 98) (lv2 := [(0, .ref 45), (1, .int x1), (4, .int (sh_b2 x4)), (5, .int x5), (6, .int x6), (7, .int x7), (8, .int x8), (9, .int x9)]) (st2 := [.ref 45, .int x9, .ref 47]) (h2 := (sh_rep m.T m.I m.J)) rfl rfl rfl ?_
      refine sh_gR1 (len := 3) (x := .ref 47) (pc2 := 101) rfl rfl (sh_s44 hT.st) rfl rfl ?_
      refine sh_w (i := (.iload 9)) (len := 2) (pc2 := 103) (lv2 := [(0, .ref 45), (1, .int x1), (4, .int (sh_b2 x4)), (5, .int x5), (6, .int x6), (7, .int x7), (8, .int x8), (9, .int x9)]) (st2 := [.int x9, .ref 47, .int x9, .ref 47]) (h2 := (sh_rep m.T m.I m.J)) rfl rfl rfl ?_
      refine sh_w (i := (.iconst 1)) (len := 1) (pc2 := 104) (lv2 := [(0, .ref 45), (1, .int x1), (4, .int (sh_b2 x4)), (5, .int x5), (6, .int x6), (7, .int x7), (8, .int x8), (9, .int x9)]) (st2 := [.int 1, .int x9, .ref 47, .int x9, .ref 47]) (h2 := (sh_rep m.T m.I m.J)) rfl rfl rfl ?_
      refine sh_w (i := .isub) (len := 1) (pc2 := 105) (lv2 := [(0, .ref 45), (1, .int x1), (4, .int (sh_b2 x4)), (5, .int x5), (6, .int x6), (7, .int x7), (8, .int x8), (9, .int x9)]) (st2 := [.int (x9 - 1), .ref 47, .int x9, .ref 47]) (h2 := (sh_rep m.T m.I m.J)) rfl rfl rfl ?_
      exact kk
    obtain ⟨c, e⟩ := sh_gd e
    refine sh_Lk_lift (T := m.T) (I := m.I) (J := m.J) (s := m.s) (pc2 := 106) (lv2 := [(0, .ref 45), (1, .int x1), (4, .int (sh_b2 x4)), (5, .int x5), (6, .int x6), (7, .int x7), (8, .int x8), (9, .int x9)]) (st2 := [.int (m.I 46 (Int32.toNatClampNeg (x9 - 1))), .int x9, .ref 47]) (I2 := m.I) (J2 := m.J) (fun hT v kk => ?_) ?_
    · refine sh_ia1 (x := m.I 46 (Int32.toNatClampNeg (x9 - 1))) (pc2 := 106) rfl (sh_s46 hT.st) (sh_okb1 c) (sh_okb2 c) rfl rfl ?_
      exact kk
    obtain ⟨c, e⟩ := sh_gd e
    refine sh_Lk_lift (T := m.T) (I := m.I) (J := m.J) (s := m.s) (pc2 := 86) (lv2 := [(9, .int (x9 + (-1))), (0, .ref 45), (1, .int x1), (4, .int (sh_b2 x4)), (5, .int x5), (6, .int x6), (7, .int x7), (8, .int x8)]) (st2 := []) (I2 := sh_u2 m.I 46 (Int32.toNatClampNeg x9) (m.I 46 (Int32.toNatClampNeg (x9 - 1)))) (J2 := m.J) (fun hT v kk => ?_) ?_
    · refine sh_is1 (x := m.I 46 (Int32.toNatClampNeg (x9 - 1))) (i := x9) (pc2 := 107) rfl (sh_s46 hT.st) (sh_okb1 c) (sh_okb2 c) rfl ?_
      refine sh_w (i := (.iinc 9 (-1))) (len := 3) (pc2 := 110) (lv2 := [(9, .int (x9 + (-1))), (0, .ref 45), (1, .int x1), (4, .int (sh_b2 x4)), (5, .int x5), (6, .int x6), (7, .int x7), (8, .int x8)]) (st2 := []) (h2 := (sh_rep m.T (sh_u2 m.I 46 (Int32.toNatClampNeg x9) (m.I 46 (Int32.toNatClampNeg (x9 - 1)))) m.J)) rfl rfl rfl ?_
      refine sh_w (i := (.goto (-24))) (len := 3) (pc2 := 86) (lv2 := [(9, .int (x9 + (-1))), (0, .ref 45), (1, .int x1), (4, .int (sh_b2 x4)), (5, .int x5), (6, .int x6), (7, .int x7), (8, .int x8)]) (st2 := []) (h2 := (sh_rep m.T (sh_u2 m.I 46 (Int32.toNatClampNeg x9) (m.I 46 (Int32.toNatClampNeg (x9 - 1)))) m.J)) rfl rfl rfl ?_
      exact kk
    obtain rfl := Option.some.inj e
    exact sh_Lk_sub (sh_sub_c rfl (sh_sub_c rfl (sh_sub_c rfl (sh_sub_c rfl (sh_sub_c rfl (sh_sub_c rfl (sh_sub_c rfl (sh_sub_c rfl (sh_sub_n))))))))) tg
  · refine sh_Lk_lift (T := m.T) (I := m.I) (J := m.J) (s := m.s) (pc2 := 123) (lv2 := [(0, .ref 45), (1, .int x1), (4, .int (sh_b2 x4)), (5, .int x5), (6, .int x6), (7, .int x7), (8, .int x8), (9, .int x9)]) (st2 := [.int (x1 + x8), .ref 45, .int 0, .ref 47]) (I2 := m.I) (J2 := m.J) (fun hT v kk => ?_) ?_
    · refine sh_j0 (c := .le) (off := (25)) (pc2 := 113) true rfl (sh_Blet c) rfl ?_
      refine sh_w (i := (.aload_n 0)) (len := 1) (pc2 := 114) (lv2 := [(0, .ref 45), (1, .int x1), (4, .int (sh_b2 x4)), (5, .int x5), (6, .int x6), (7, .int x7), (8, .int x8), (9, .int x9)]) (st2 := [.ref 45]) (h2 := (sh_rep m.T m.I m.J)) rfl rfl rfl ?_
      refine sh_gR1 (len := 3) (x := .ref 47) (pc2 := 117) rfl rfl (sh_s44 hT.st) rfl rfl ?_
      refine sh_w (i := (.iconst 0)) (len := 1) (pc2 := 118) (lv2 := [(0, .ref 45), (1, .int x1), (4, .int (sh_b2 x4)), (5, .int x5), (6, .int x6), (7, .int x7), (8, .int x8), (9, .int x9)]) (st2 := [.int 0, .ref 47]) (h2 := (sh_rep m.T m.I m.J)) rfl rfl rfl ?_
      refine sh_w (i := (.aload_n 0)) (len := 1) (pc2 := 119) (lv2 := [(0, .ref 45), (1, .int x1), (4, .int (sh_b2 x4)), (5, .int x5), (6, .int x6), (7, .int x7), (8, .int x8), (9, .int x9)]) (st2 := [.ref 45, .int 0, .ref 47]) (h2 := (sh_rep m.T m.I m.J)) rfl rfl rfl ?_
      refine sh_w (i := (.iload_n 1)) (len := 1) (pc2 := 120) (lv2 := [(0, .ref 45), (1, .int x1), (4, .int (sh_b2 x4)), (5, .int x5), (6, .int x6), (7, .int x7), (8, .int x8), (9, .int x9)]) (st2 := [.int x1, .ref 45, .int 0, .ref 47]) (h2 := (sh_rep m.T m.I m.J)) rfl rfl rfl ?_
      refine sh_w (i := (.iload 8)) (len := 2) (pc2 := 122) (lv2 := [(0, .ref 45), (1, .int x1), (4, .int (sh_b2 x4)), (5, .int x5), (6, .int x6), (7, .int x7), (8, .int x8), (9, .int x9)]) (st2 := [.int x8, .int x1, .ref 45, .int 0, .ref 47]) (h2 := (sh_rep m.T m.I m.J)) rfl rfl rfl ?_
      refine sh_w (i := .iadd) (len := 1) (pc2 := 123) (lv2 := [(0, .ref 45), (1, .int x1), (4, .int (sh_b2 x4)), (5, .int x5), (6, .int x6), (7, .int x7), (8, .int x8), (9, .int x9)]) (st2 := [.int (x1 + x8), .ref 45, .int 0, .ref 47]) (h2 := (sh_rep m.T m.I m.J)) rfl rfl rfl ?_
      exact kk
    obtain ⟨r1, e1, e⟩ := sh_bc_e e
    refine sh_Lk_cV (r := (some (.int r1))) (st2 := [.int r1, .int 0, .ref 47]) (pc2 := 126) (k2 := 103) (a := 44) (as := [.ref 45, .int (x1 + x8)]) (rest := [.int 0, .ref 47]) rfl rfl rfl (fun hT => (sh_s44 hT.st)) rfl rfl ⟨Nat.le_of_ble_eq_true rfl, Nat.le_of_ble_eq_true rfl⟩ (sl_103 e1 ⟨rfl, rfl⟩) rfl rfl (Nat.le_of_ble_eq_true rfl) (Nat.le_of_ble_eq_true rfl) ?_
    refine sh_Lk_lift (T := m.T) (I := m.I) (J := m.J) (s := m.s) (pc2 := 133) (lv2 := [(10, .int 0), (9, .int 1), (0, .ref 45), (1, .int x1), (4, .int (sh_b2 x4)), (5, .int x5), (6, .int x6), (7, .int x7), (8, .int x8)]) (st2 := []) (I2 := sh_u2 m.I 46 0 r1) (J2 := m.J) (fun hT v kk => ?_) ?_
    · refine sh_is1 (x := r1) (i := 0) (pc2 := 127) rfl (sh_s46 hT.st) (by decide) (by decide) rfl ?_
      refine sh_w (i := (.iconst 1)) (len := 1) (pc2 := 128) (lv2 := [(0, .ref 45), (1, .int x1), (4, .int (sh_b2 x4)), (5, .int x5), (6, .int x6), (7, .int x7), (8, .int x8), (9, .int x9)]) (st2 := [.int 1]) (h2 := (sh_rep m.T (sh_u2 m.I 46 0 r1) m.J)) rfl rfl rfl ?_
      refine sh_w (i := (.istore 9)) (len := 2) (pc2 := 130) (lv2 := [(9, .int 1), (0, .ref 45), (1, .int x1), (4, .int (sh_b2 x4)), (5, .int x5), (6, .int x6), (7, .int x7), (8, .int x8)]) (st2 := []) (h2 := (sh_rep m.T (sh_u2 m.I 46 0 r1) m.J)) rfl rfl rfl ?_
      refine sh_w (i := (.iconst 0)) (len := 1) (pc2 := 131) (lv2 := [(9, .int 1), (0, .ref 45), (1, .int x1), (4, .int (sh_b2 x4)), (5, .int x5), (6, .int x6), (7, .int x7), (8, .int x8)]) (st2 := [.int 0]) (h2 := (sh_rep m.T (sh_u2 m.I 46 0 r1) m.J)) rfl rfl rfl ?_
      refine sh_w (i := (.istore 10)) (len := 2) (pc2 := 133) (lv2 := [(10, .int 0), (9, .int 1), (0, .ref 45), (1, .int x1), (4, .int (sh_b2 x4)), (5, .int x5), (6, .int x6), (7, .int x7), (8, .int x8)]) (st2 := []) (h2 := (sh_rep m.T (sh_u2 m.I 46 0 r1) m.J)) rfl rfl rfl ?_
      exact kk
    obtain ⟨_, eu, rfl⟩ := sh_up_e e
    exact sh_Lk_sub (sh_sub_c rfl (sh_sub_c rfl (sh_sub_c rfl (sh_sub_c rfl (sh_sub_c rfl (sh_sub_c rfl (sh_sub_c rfl (sh_sub_c rfl (sh_sub_c rfl (sh_sub_n)))))))))) (sl_183_133 eu tg)
theorem sl_183_86 {x1 : Int32} {x4 : Bool} {x5 : Int32} {x6 : Int32} {x7 : Int32} {x8 : Int32} {x9 : Int32} {m m2 : sh_X} {o : Outcome} {z : ((Int32 × sh_X) ⊕ (Int32 × sh_X))} (e : sf_183_86 x1 x4 x5 x6 x7 x8 x9 m = some z) (tg : (sh_el (fun q => sh_Lk 183 77 [(0, .ref 45), (1, .int x1), (4, .int (sh_b2 x4)), (5, .int x5), (6, .int x6), (7, .int x7), (8, .int q.1)] [] q.2 o m2 12 323) (sh_tI o m2)) z) : sh_Lk 183 86 [(0, .ref 45), (1, .int x1), (4, .int (sh_b2 x4)), (5, .int x5), (6, .int x6), (7, .int x7), (8, .int x8), (9, .int x9)] [] m o m2 12 323 := by
  unfold sf_183_86 at e
  exact sh_while_lk (P := fun q => sh_Lk 183 86 [(0, .ref 45), (1, .int x1), (4, .int (sh_b2 x4)), (5, .int x5), (6, .int x6), (7, .int x7), (8, .int x8), (9, .int q.1)] [] q.2 o m2 12 323) (Q := (sh_el (fun q => sh_Lk 183 77 [(0, .ref 45), (1, .int x1), (4, .int (sh_b2 x4)), (5, .int x5), (6, .int x6), (7, .int x7), (8, .int q.1)] [] q.2 o m2 12 323) (sh_tI o m2))) (fun q z e tg => sl_183_86s (x1 := x1) (x4 := x4) (x5 := x5) (x6 := x6) (x7 := x7) (x8 := x8) (x9 := q.1) (m := q.2) e tg) (s := (x9, m)) e tg
theorem sl_183_341s {x4 : Bool} {x5 : Int32} {x7 : Int32} {x8 : Int32} {m m2 : sh_X} {o : Outcome} {z : ((Int32 × sh_X) ⊕ (Int32 × sh_X))} (e : sf_183_341s x4 x5 x7 x8 m = some z) (tg : (sh_el (fun q => sh_Lk 183 341 [(0, .ref 45), (4, .int (sh_b2 x4)), (5, .int x5), (7, .int x7), (8, .int q.1)] [] q.2 o m2 12 323) (sh_tI o m2)) z) : sh_Lk 183 341 [(0, .ref 45), (4, .int (sh_b2 x4)), (5, .int x5), (7, .int x7), (8, .int x8)] [] m o m2 12 323 := by
  unfold sf_183_341s at e
  refine sh_Lk_lift (T := m.T) (I := m.I) (J := m.J) (s := m.s) (pc2 := 343) (lv2 := [(0, .ref 45), (4, .int (sh_b2 x4)), (5, .int x5), (7, .int x7), (8, .int x8)]) (st2 := [.int (sh_b2 x4)]) (I2 := m.I) (J2 := m.J) (fun hT v kk => ?_) ?_
  · refine sh_w (i := (.iload 4)) (len := 2) (pc2 := 343) (lv2 := [(0, .ref 45), (4, .int (sh_b2 x4)), (5, .int x5), (7, .int x7), (8, .int x8)]) (st2 := [.int (sh_b2 x4)]) (h2 := (sh_rep m.T m.I m.J)) rfl rfl rfl ?_
    exact kk
  rcases sh_ite e with ⟨c, e⟩ | ⟨c, e⟩
  · refine sh_Lk_lift (T := m.T) (I := m.I) (J := m.J) (s := m.s) (pc2 := 350) (lv2 := [(0, .ref 45), (4, .int (sh_b2 x4)), (5, .int x5), (7, .int x7), (8, .int x8)]) (st2 := [.int x7, .int x8]) (I2 := m.I) (J2 := m.J) (fun hT v kk => ?_) ?_
    · refine sh_j0 (c := .eq) (off := (32)) (pc2 := 346) false rfl (sh_Zeqf c) rfl ?_
      refine sh_w (i := (.iload 8)) (len := 2) (pc2 := 348) (lv2 := [(0, .ref 45), (4, .int (sh_b2 x4)), (5, .int x5), (7, .int x7), (8, .int x8)]) (st2 := [.int x8]) (h2 := (sh_rep m.T m.I m.J)) rfl rfl rfl ?_
      refine sh_w (i := (.iload 7)) (len := 2) (pc2 := 350) (lv2 := [(0, .ref 45), (4, .int (sh_b2 x4)), (5, .int x5), (7, .int x7), (8, .int x8)]) (st2 := [.int x7, .int x8]) (h2 := (sh_rep m.T m.I m.J)) rfl rfl rfl ?_
      exact kk
    rcases sh_ite e with ⟨c, e⟩ | ⟨c, e⟩
    · refine sh_Lk_lift (T := m.T) (I := m.I) (J := m.J) (s := m.s) (pc2 := 365) (lv2 := [(0, .ref 45), (4, .int (sh_b2 x4)), (5, .int x5), (7, .int x7), (8, .int x8)]) (st2 := [.int x8, .ref 47, .int (x5 + x8), .ref 45]) (I2 := m.I) (J2 := m.J) (fun hT v kk => ?_) ?_
      · refine sh_jc (c := .ge) (off := (25)) (pc2 := 353) false rfl (sh_Bgef c) rfl ?_
        refine sh_w (i := (.aload_n 0)) (len := 1) (pc2 := 354) (lv2 := [(0, .ref 45), (4, .int (sh_b2 x4)), (5, .int x5), (7, .int x7), (8, .int x8)]) (st2 := [.ref 45]) (h2 := (sh_rep m.T m.I m.J)) rfl rfl rfl ?_
        refine sh_w (i := (.iload 5)) (len := 2) (pc2 := 356) (lv2 := [(0, .ref 45), (4, .int (sh_b2 x4)), (5, .int x5), (7, .int x7), (8, .int x8)]) (st2 := [.int x5, .ref 45]) (h2 := (sh_rep m.T m.I m.J)) rfl rfl rfl ?_
        refine sh_w (i := (.iload 8)) (len := 2) (pc2 := 358) (lv2 := [(0, .ref 45), (4, .int (sh_b2 x4)), (5, .int x5), (7, .int x7), (8, .int x8)]) (st2 := [.int x8, .int x5, .ref 45]) (h2 := (sh_rep m.T m.I m.J)) rfl rfl rfl ?_
        refine sh_w (i := .iadd) (len := 1) (pc2 := 359) (lv2 := [(0, .ref 45), (4, .int (sh_b2 x4)), (5, .int x5), (7, .int x7), (8, .int x8)]) (st2 := [.int (x5 + x8), .ref 45]) (h2 := (sh_rep m.T m.I m.J)) rfl rfl rfl ?_
        refine sh_w (i := (.aload_n 0)) (len := 1) (pc2 := 360) (lv2 := [(0, .ref 45), (4, .int (sh_b2 x4)), (5, .int x5), (7, .int x7), (8, .int x8)]) (st2 := [.ref 45, .int (x5 + x8), .ref 45]) (h2 := (sh_rep m.T m.I m.J)) rfl rfl rfl ?_
        refine sh_gR1 (len := 3) (x := .ref 47) (pc2 := 363) rfl rfl (sh_s44 hT.st) rfl rfl ?_
        refine sh_w (i := (.iload 8)) (len := 2) (pc2 := 365) (lv2 := [(0, .ref 45), (4, .int (sh_b2 x4)), (5, .int x5), (7, .int x7), (8, .int x8)]) (st2 := [.int x8, .ref 47, .int (x5 + x8), .ref 45]) (h2 := (sh_rep m.T m.I m.J)) rfl rfl rfl ?_
        exact kk
      obtain ⟨c, e⟩ := sh_gd e
      refine sh_Lk_lift (T := m.T) (I := m.I) (J := m.J) (s := m.s) (pc2 := 366) (lv2 := [(0, .ref 45), (4, .int (sh_b2 x4)), (5, .int x5), (7, .int x7), (8, .int x8)]) (st2 := [.int (m.I 46 (Int32.toNatClampNeg x8)), .int (x5 + x8), .ref 45]) (I2 := m.I) (J2 := m.J) (fun hT v kk => ?_) ?_
      · refine sh_ia1 (x := m.I 46 (Int32.toNatClampNeg x8)) (pc2 := 366) rfl (sh_s46 hT.st) (sh_okb1 c) (sh_okb2 c) rfl rfl ?_
        exact kk
      obtain ⟨r1, m11, e1, e⟩ := sh_bn_e e
      refine sh_Lk_cV (r := none) (st2 := []) (pc2 := 369) (k2 := 100) (a := 44) (as := [.ref 45, .int (x5 + x8), .int (m.I 46 (Int32.toNatClampNeg x8))]) (rest := []) rfl rfl rfl (fun hT => (sh_s44 hT.st)) rfl rfl ⟨Nat.le_of_ble_eq_true rfl, Nat.le_of_ble_eq_true rfl⟩ (sl_100 e1 ⟨rfl, rfl⟩) rfl rfl (Nat.le_of_ble_eq_true rfl) (Nat.le_of_ble_eq_true rfl) ?_
      refine sh_Lk_lift (T := m11.T) (I := m11.I) (J := m11.J) (s := m11.s) (pc2 := 341) (lv2 := [(8, .int (x8 + 1)), (0, .ref 45), (4, .int (sh_b2 x4)), (5, .int x5), (7, .int x7)]) (st2 := []) (I2 := m11.I) (J2 := m11.J) (fun hT v kk => ?_) ?_
      · refine sh_w (i := (.iinc 8 1)) (len := 3) (pc2 := 372) (lv2 := [(8, .int (x8 + 1)), (0, .ref 45), (4, .int (sh_b2 x4)), (5, .int x5), (7, .int x7)]) (st2 := []) (h2 := (sh_rep m11.T m11.I m11.J)) rfl rfl rfl ?_
        refine sh_w (i := (.goto (-31))) (len := 3) (pc2 := 341) (lv2 := [(8, .int (x8 + 1)), (0, .ref 45), (4, .int (sh_b2 x4)), (5, .int x5), (7, .int x7)]) (st2 := []) (h2 := (sh_rep m11.T m11.I m11.J)) rfl rfl rfl ?_
        exact kk
      obtain rfl := Option.some.inj e
      exact sh_Lk_sub (sh_sub_c rfl (sh_sub_c rfl (sh_sub_c rfl (sh_sub_c rfl (sh_sub_c rfl (sh_sub_n)))))) tg
    · refine sh_Lk_lift (T := m.T) (I := m.I) (J := m.J) (s := m.s) (pc2 := 377) (lv2 := [(0, .ref 45), (4, .int (sh_b2 x4)), (5, .int x5), (7, .int x7), (8, .int x8)]) (st2 := [.int x5]) (I2 := m.I) (J2 := m.J) (fun hT v kk => ?_) ?_
      · refine sh_jc (c := .ge) (off := (25)) (pc2 := 375) true rfl (sh_Bget c) rfl ?_
        refine sh_w (i := (.iload 5)) (len := 2) (pc2 := 377) (lv2 := [(0, .ref 45), (4, .int (sh_b2 x4)), (5, .int x5), (7, .int x7), (8, .int x8)]) (st2 := [.int x5]) (h2 := (sh_rep m.T m.I m.J)) rfl rfl rfl ?_
        exact kk
      obtain rfl := Option.some.inj e
      obtain ⟨rfl, rfl⟩ := tg
      exact sh_Lk_ret (i := .ireturn) rfl rfl rfl (Nat.le_of_ble_eq_true rfl) (Nat.le_of_ble_eq_true rfl)
  · refine sh_Lk_lift (T := m.T) (I := m.I) (J := m.J) (s := m.s) (pc2 := 377) (lv2 := [(0, .ref 45), (4, .int (sh_b2 x4)), (5, .int x5), (7, .int x7), (8, .int x8)]) (st2 := [.int x5]) (I2 := m.I) (J2 := m.J) (fun hT v kk => ?_) ?_
    · refine sh_j0 (c := .eq) (off := (32)) (pc2 := 375) true rfl (sh_Zeqt c) rfl ?_
      refine sh_w (i := (.iload 5)) (len := 2) (pc2 := 377) (lv2 := [(0, .ref 45), (4, .int (sh_b2 x4)), (5, .int x5), (7, .int x7), (8, .int x8)]) (st2 := [.int x5]) (h2 := (sh_rep m.T m.I m.J)) rfl rfl rfl ?_
      exact kk
    obtain rfl := Option.some.inj e
    obtain ⟨rfl, rfl⟩ := tg
    exact sh_Lk_ret (i := .ireturn) rfl rfl rfl (Nat.le_of_ble_eq_true rfl) (Nat.le_of_ble_eq_true rfl)
theorem sl_183_341 {x4 : Bool} {x5 : Int32} {x7 : Int32} {x8 : Int32} {m m2 : sh_X} {o : Outcome} {z : (Int32 × sh_X)} (e : sf_183_341 x4 x5 x7 x8 m = some z) (tg : (sh_tI o m2) z) : sh_Lk 183 341 [(0, .ref 45), (4, .int (sh_b2 x4)), (5, .int x5), (7, .int x7), (8, .int x8)] [] m o m2 12 323 := by
  unfold sf_183_341 at e
  exact sh_while_lk (P := fun q => sh_Lk 183 341 [(0, .ref 45), (4, .int (sh_b2 x4)), (5, .int x5), (7, .int x7), (8, .int q.1)] [] q.2 o m2 12 323) (Q := (sh_tI o m2)) (fun q z e tg => sl_183_341s (x4 := x4) (x5 := x5) (x7 := x7) (x8 := q.1) (m := q.2) e tg) (s := (x8, m)) e tg
theorem sl_183_77s {x1 : Int32} {x4 : Bool} {x5 : Int32} {x6 : Int32} {x7 : Int32} {x8 : Int32} {m m2 : sh_X} {o : Outcome} {z : ((Int32 × sh_X) ⊕ (Int32 × sh_X))} (e : sf_183_77s x1 x4 x5 x6 x7 x8 m = some z) (tg : (sh_el (fun q => sh_Lk 183 77 [(0, .ref 45), (1, .int x1), (4, .int (sh_b2 x4)), (5, .int x5), (6, .int x6), (7, .int x7), (8, .int q.1)] [] q.2 o m2 12 323) (sh_tI o m2)) z) : sh_Lk 183 77 [(0, .ref 45), (1, .int x1), (4, .int (sh_b2 x4)), (5, .int x5), (6, .int x6), (7, .int x7), (8, .int x8)] [] m o m2 12 323 := by
  unfold sf_183_77s at e
  refine sh_Lk_lift (T := m.T) (I := m.I) (J := m.J) (s := m.s) (pc2 := 79) (lv2 := [(0, .ref 45), (1, .int x1), (4, .int (sh_b2 x4)), (5, .int x5), (6, .int x6), (7, .int x7), (8, .int x8)]) (st2 := [.int x8]) (I2 := m.I) (J2 := m.J) (fun hT v kk => ?_) ?_
  · refine sh_w (i := (.iload 8)) (len := 2) (pc2 := 79) (lv2 := [(0, .ref 45), (1, .int x1), (4, .int (sh_b2 x4)), (5, .int x5), (6, .int x6), (7, .int x7), (8, .int x8)]) (st2 := [.int x8]) (h2 := (sh_rep m.T m.I m.J)) rfl rfl rfl ?_
    exact kk
  rcases sh_ite e with ⟨c, e⟩ | ⟨c, e⟩
  · refine sh_Lk_lift (T := m.T) (I := m.I) (J := m.J) (s := m.s) (pc2 := 341) (lv2 := [(8, .int 0), (0, .ref 45), (1, .int x1), (4, .int (sh_b2 x4)), (5, .int x5), (6, .int x6), (7, .int x7)]) (st2 := []) (I2 := m.I) (J2 := m.J) (fun hT v kk => ?_) ?_
    · refine sh_j0 (c := .lt) (off := (259)) (pc2 := 338) true rfl (sh_Bltt c) rfl ?_
      refine sh_w (i := (.iconst 0)) (len := 1) (pc2 := 339) (lv2 := [(0, .ref 45), (1, .int x1), (4, .int (sh_b2 x4)), (5, .int x5), (6, .int x6), (7, .int x7), (8, .int x8)]) (st2 := [.int 0]) (h2 := (sh_rep m.T m.I m.J)) rfl rfl rfl ?_
      refine sh_w (i := (.istore 8)) (len := 2) (pc2 := 341) (lv2 := [(8, .int 0), (0, .ref 45), (1, .int x1), (4, .int (sh_b2 x4)), (5, .int x5), (6, .int x6), (7, .int x7)]) (st2 := []) (h2 := (sh_rep m.T m.I m.J)) rfl rfl rfl ?_
      exact kk
    obtain ⟨_, eu, rfl⟩ := sh_up_e e
    exact sh_Lk_sub (sh_sub_c rfl (sh_sub_c rfl (sh_sub_c rfl (sh_sub_c rfl (sh_sub_c rfl (sh_sub_n)))))) (sl_183_341 eu tg)
  · refine sh_Lk_lift (T := m.T) (I := m.I) (J := m.J) (s := m.s) (pc2 := 86) (lv2 := [(9, .int x7), (0, .ref 45), (1, .int x1), (4, .int (sh_b2 x4)), (5, .int x5), (6, .int x6), (7, .int x7), (8, .int x8)]) (st2 := []) (I2 := m.I) (J2 := m.J) (fun hT v kk => ?_) ?_
    · refine sh_j0 (c := .lt) (off := (259)) (pc2 := 82) false rfl (sh_Bltf c) rfl ?_
      refine sh_w (i := (.iload 7)) (len := 2) (pc2 := 84) (lv2 := [(0, .ref 45), (1, .int x1), (4, .int (sh_b2 x4)), (5, .int x5), (6, .int x6), (7, .int x7), (8, .int x8)]) (st2 := [.int x7]) (h2 := (sh_rep m.T m.I m.J)) rfl rfl rfl ?_
      refine sh_w (i := (.istore 9)) (len := 2) (pc2 := 86) (lv2 := [(9, .int x7), (0, .ref 45), (1, .int x1), (4, .int (sh_b2 x4)), (5, .int x5), (6, .int x6), (7, .int x7), (8, .int x8)]) (st2 := []) (h2 := (sh_rep m.T m.I m.J)) rfl rfl rfl ?_
      exact kk
    exact sh_Lk_sub (sh_sub_c rfl (sh_sub_c rfl (sh_sub_c rfl (sh_sub_c rfl (sh_sub_c rfl (sh_sub_c rfl (sh_sub_c rfl (sh_sub_c rfl (sh_sub_n))))))))) (sl_183_86 e tg)
theorem sl_183_77 {x1 : Int32} {x4 : Bool} {x5 : Int32} {x6 : Int32} {x7 : Int32} {x8 : Int32} {m m2 : sh_X} {o : Outcome} {z : (Int32 × sh_X)} (e : sf_183_77 x1 x4 x5 x6 x7 x8 m = some z) (tg : (sh_tI o m2) z) : sh_Lk 183 77 [(0, .ref 45), (1, .int x1), (4, .int (sh_b2 x4)), (5, .int x5), (6, .int x6), (7, .int x7), (8, .int x8)] [] m o m2 12 323 := by
  unfold sf_183_77 at e
  exact sh_while_lk (P := fun q => sh_Lk 183 77 [(0, .ref 45), (1, .int x1), (4, .int (sh_b2 x4)), (5, .int x5), (6, .int x6), (7, .int x7), (8, .int q.1)] [] q.2 o m2 12 323) (Q := (sh_tI o m2)) (fun q z e tg => sl_183_77s (x1 := x1) (x4 := x4) (x5 := x5) (x6 := x6) (x7 := x7) (x8 := q.1) (m := q.2) e tg) (s := (x8, m)) e tg
theorem sl_183_33s {x1 : Int32} {x2 : Int32} {x4 : Bool} {x5 : Int32} {x6 : Int32} {x7 : Int32} {x8 : Int32} {m m2 : sh_X} {o : Outcome} {z : ((Int32 × sh_X) ⊕ (Int32 × sh_X))} (e : sf_183_33s x1 x2 x4 x5 x6 x7 x8 m = some z) (tg : (sh_el (fun q => sh_Lk 183 33 [(0, .ref 45), (1, .int x1), (2, .int x2), (4, .int (sh_b2 x4)), (5, .int x5), (6, .int x6), (7, .int x7), (8, .int q.1)] [] q.2 o m2 12 323) (sh_tI o m2)) z) : sh_Lk 183 33 [(0, .ref 45), (1, .int x1), (2, .int x2), (4, .int (sh_b2 x4)), (5, .int x5), (6, .int x6), (7, .int x7), (8, .int x8)] [] m o m2 12 323 := by
  unfold sf_183_33s at e
  refine sh_Lk_lift (T := m.T) (I := m.I) (J := m.J) (s := m.s) (pc2 := 37) (lv2 := [(0, .ref 45), (1, .int x1), (2, .int x2), (4, .int (sh_b2 x4)), (5, .int x5), (6, .int x6), (7, .int x7), (8, .int x8)]) (st2 := [.int x7, .int x8]) (I2 := m.I) (J2 := m.J) (fun hT v kk => ?_) ?_
  · refine sh_w (i := (.iload 8)) (len := 2) (pc2 := 35) (lv2 := [(0, .ref 45), (1, .int x1), (2, .int x2), (4, .int (sh_b2 x4)), (5, .int x5), (6, .int x6), (7, .int x7), (8, .int x8)]) (st2 := [.int x8]) (h2 := (sh_rep m.T m.I m.J)) rfl rfl rfl ?_
    refine sh_w (i := (.iload 7)) (len := 2) (pc2 := 37) (lv2 := [(0, .ref 45), (1, .int x1), (2, .int x2), (4, .int (sh_b2 x4)), (5, .int x5), (6, .int x6), (7, .int x7), (8, .int x8)]) (st2 := [.int x7, .int x8]) (h2 := (sh_rep m.T m.I m.J)) rfl rfl rfl ?_
    exact kk
  rcases sh_ite e with ⟨c, e⟩ | ⟨c, e⟩
  · refine sh_Lk_lift (T := m.T) (I := m.I) (J := m.J) (s := m.s) (pc2 := 55) (lv2 := [(0, .ref 45), (1, .int x1), (2, .int x2), (4, .int (sh_b2 x4)), (5, .int x5), (6, .int x6), (7, .int x7), (8, .int x8)]) (st2 := [.int (x2 + x8), .ref 45, .ref 10, .int (x6 + x8), .ref 45]) (I2 := m.I) (J2 := m.J) (fun hT v kk => ?_) ?_
    · refine sh_jc (c := .ge) (off := (34)) (pc2 := 40) false rfl (sh_Bgef c) rfl ?_
      refine sh_w (i := (.aload_n 0)) (len := 1) (pc2 := 41) (lv2 := [(0, .ref 45), (1, .int x1), (2, .int x2), (4, .int (sh_b2 x4)), (5, .int x5), (6, .int x6), (7, .int x7), (8, .int x8)]) (st2 := [.ref 45]) (h2 := (sh_rep m.T m.I m.J)) rfl rfl rfl ?_
      refine sh_w (i := (.iload 6)) (len := 2) (pc2 := 43) (lv2 := [(0, .ref 45), (1, .int x1), (2, .int x2), (4, .int (sh_b2 x4)), (5, .int x5), (6, .int x6), (7, .int x7), (8, .int x8)]) (st2 := [.int x6, .ref 45]) (h2 := (sh_rep m.T m.I m.J)) rfl rfl rfl ?_
      refine sh_w (i := (.iload 8)) (len := 2) (pc2 := 45) (lv2 := [(0, .ref 45), (1, .int x1), (2, .int x2), (4, .int (sh_b2 x4)), (5, .int x5), (6, .int x6), (7, .int x7), (8, .int x8)]) (st2 := [.int x8, .int x6, .ref 45]) (h2 := (sh_rep m.T m.I m.J)) rfl rfl rfl ?_
      refine sh_w (i := .iadd) (len := 1) (pc2 := 46) (lv2 := [(0, .ref 45), (1, .int x1), (2, .int x2), (4, .int (sh_b2 x4)), (5, .int x5), (6, .int x6), (7, .int x7), (8, .int x8)]) (st2 := [.int (x6 + x8), .ref 45]) (h2 := (sh_rep m.T m.I m.J)) rfl rfl rfl ?_
      refine sh_w (i := (.aload_n 0)) (len := 1) (pc2 := 47) (lv2 := [(0, .ref 45), (1, .int x1), (2, .int x2), (4, .int (sh_b2 x4)), (5, .int x5), (6, .int x6), (7, .int x7), (8, .int x8)]) (st2 := [.ref 45, .int (x6 + x8), .ref 45]) (h2 := (sh_rep m.T m.I m.J)) rfl rfl rfl ?_
      refine sh_gR1 (len := 3) (x := .ref 10) (pc2 := 50) rfl rfl (sh_s44 hT.st) rfl rfl ?_
      refine sh_w (i := (.aload_n 0)) (len := 1) (pc2 := 51) (lv2 := [(0, .ref 45), (1, .int x1), (2, .int x2), (4, .int (sh_b2 x4)), (5, .int x5), (6, .int x6), (7, .int x7), (8, .int x8)]) (st2 := [.ref 45, .ref 10, .int (x6 + x8), .ref 45]) (h2 := (sh_rep m.T m.I m.J)) rfl rfl rfl ?_
      refine sh_w (i := (.iload_n 2)) (len := 1) (pc2 := 52) (lv2 := [(0, .ref 45), (1, .int x1), (2, .int x2), (4, .int (sh_b2 x4)), (5, .int x5), (6, .int x6), (7, .int x7), (8, .int x8)]) (st2 := [.int x2, .ref 45, .ref 10, .int (x6 + x8), .ref 45]) (h2 := (sh_rep m.T m.I m.J)) rfl rfl rfl ?_
      refine sh_w (i := (.iload 8)) (len := 2) (pc2 := 54) (lv2 := [(0, .ref 45), (1, .int x1), (2, .int x2), (4, .int (sh_b2 x4)), (5, .int x5), (6, .int x6), (7, .int x7), (8, .int x8)]) (st2 := [.int x8, .int x2, .ref 45, .ref 10, .int (x6 + x8), .ref 45]) (h2 := (sh_rep m.T m.I m.J)) rfl rfl rfl ?_
      refine sh_w (i := .iadd) (len := 1) (pc2 := 55) (lv2 := [(0, .ref 45), (1, .int x1), (2, .int x2), (4, .int (sh_b2 x4)), (5, .int x5), (6, .int x6), (7, .int x7), (8, .int x8)]) (st2 := [.int (x2 + x8), .ref 45, .ref 10, .int (x6 + x8), .ref 45]) (h2 := (sh_rep m.T m.I m.J)) rfl rfl rfl ?_
      exact kk
    obtain ⟨r1, e1, e⟩ := sh_bc_e e
    refine sh_Lk_cV (r := (some (.int r1))) (st2 := [.int r1, .ref 10, .int (x6 + x8), .ref 45]) (pc2 := 58) (k2 := 103) (a := 44) (as := [.ref 45, .int (x2 + x8)]) (rest := [.ref 10, .int (x6 + x8), .ref 45]) rfl rfl rfl (fun hT => (sh_s44 hT.st)) rfl rfl ⟨Nat.le_of_ble_eq_true rfl, Nat.le_of_ble_eq_true rfl⟩ (sl_103 e1 ⟨rfl, rfl⟩) rfl rfl (Nat.le_of_ble_eq_true rfl) (Nat.le_of_ble_eq_true rfl) ?_
    refine sh_Lk_lift (T := m.T) (I := m.I) (J := m.J) (s := m.s) (pc2 := 59) (lv2 := [(0, .ref 45), (1, .int x1), (2, .int x2), (4, .int (sh_b2 x4)), (5, .int x5), (6, .int x6), (7, .int x7), (8, .int x8)]) (st2 := [.int 1, .int r1, .ref 10, .int (x6 + x8), .ref 45]) (I2 := m.I) (J2 := m.J) (fun hT v kk => ?_) ?_
    · refine sh_w (i := (.iconst 1)) (len := 1) (pc2 := 59) (lv2 := [(0, .ref 45), (1, .int x1), (2, .int x2), (4, .int (sh_b2 x4)), (5, .int x5), (6, .int x6), (7, .int x7), (8, .int x8)]) (st2 := [.int 1, .int r1, .ref 10, .int (x6 + x8), .ref 45]) (h2 := (sh_rep m.T m.I m.J)) rfl rfl rfl ?_
      exact kk
    obtain ⟨r2, m12, e2, e⟩ := sh_bn_e e
    refine sh_Lk_cV (r := (some (.int r2))) (st2 := [.int r2, .int (x6 + x8), .ref 45]) (pc2 := 62) (k2 := 130) (a := 9) (as := [.ref 10, .int r1, .int 1]) (rest := [.int (x6 + x8), .ref 45]) rfl rfl rfl (fun hT => hT.t9) rfl rfl ⟨Nat.le_of_ble_eq_true rfl, Nat.le_of_ble_eq_true rfl⟩ (sl_130 e2 ⟨rfl, rfl⟩) rfl rfl (Nat.le_of_ble_eq_true rfl) (Nat.le_of_ble_eq_true rfl) ?_
    obtain ⟨r3, m13, e3, e⟩ := sh_bn_e e
    refine sh_Lk_cV (r := none) (st2 := []) (pc2 := 65) (k2 := 100) (a := 44) (as := [.ref 45, .int (x6 + x8), .int r2]) (rest := []) rfl rfl rfl (fun hT => (sh_s44 hT.st)) rfl rfl ⟨Nat.le_of_ble_eq_true rfl, Nat.le_of_ble_eq_true rfl⟩ (sl_100 e3 ⟨rfl, rfl⟩) rfl rfl (Nat.le_of_ble_eq_true rfl) (Nat.le_of_ble_eq_true rfl) ?_
    refine sh_Lk_lift (T := m13.T) (I := m13.I) (J := m13.J) (s := m13.s) (pc2 := 33) (lv2 := [(8, .int (x8 + 1)), (0, .ref 45), (1, .int x1), (2, .int x2), (4, .int (sh_b2 x4)), (5, .int x5), (6, .int x6), (7, .int x7)]) (st2 := []) (I2 := m13.I) (J2 := m13.J) (fun hT v kk => ?_) ?_
    · refine sh_w (i := (.iinc 8 1)) (len := 3) (pc2 := 68) (lv2 := [(8, .int (x8 + 1)), (0, .ref 45), (1, .int x1), (2, .int x2), (4, .int (sh_b2 x4)), (5, .int x5), (6, .int x6), (7, .int x7)]) (st2 := []) (h2 := (sh_rep m13.T m13.I m13.J)) rfl rfl rfl ?_
      refine sh_w (i := (.goto (-35))) (len := 3) (pc2 := 33) (lv2 := [(8, .int (x8 + 1)), (0, .ref 45), (1, .int x1), (2, .int x2), (4, .int (sh_b2 x4)), (5, .int x5), (6, .int x6), (7, .int x7)]) (st2 := []) (h2 := (sh_rep m13.T m13.I m13.J)) rfl rfl rfl ?_
      exact kk
    obtain rfl := Option.some.inj e
    exact sh_Lk_sub (sh_sub_c rfl (sh_sub_c rfl (sh_sub_c rfl (sh_sub_c rfl (sh_sub_c rfl (sh_sub_c rfl (sh_sub_c rfl (sh_sub_c rfl (sh_sub_n))))))))) tg
  · refine sh_Lk_lift (T := m.T) (I := m.I) (J := m.J) (s := m.s) (pc2 := 77) (lv2 := [(8, .int (x7 - 1)), (0, .ref 45), (1, .int x1), (2, .int x2), (4, .int (sh_b2 x4)), (5, .int x5), (6, .int x6), (7, .int x7)]) (st2 := []) (I2 := m.I) (J2 := m.J) (fun hT v kk => ?_) ?_
    · refine sh_jc (c := .ge) (off := (34)) (pc2 := 71) true rfl (sh_Bget c) rfl ?_
      refine sh_w (i := (.iload 7)) (len := 2) (pc2 := 73) (lv2 := [(0, .ref 45), (1, .int x1), (2, .int x2), (4, .int (sh_b2 x4)), (5, .int x5), (6, .int x6), (7, .int x7), (8, .int x8)]) (st2 := [.int x7]) (h2 := (sh_rep m.T m.I m.J)) rfl rfl rfl ?_
      refine sh_w (i := (.iconst 1)) (len := 1) (pc2 := 74) (lv2 := [(0, .ref 45), (1, .int x1), (2, .int x2), (4, .int (sh_b2 x4)), (5, .int x5), (6, .int x6), (7, .int x7), (8, .int x8)]) (st2 := [.int 1, .int x7]) (h2 := (sh_rep m.T m.I m.J)) rfl rfl rfl ?_
      refine sh_w (i := .isub) (len := 1) (pc2 := 75) (lv2 := [(0, .ref 45), (1, .int x1), (2, .int x2), (4, .int (sh_b2 x4)), (5, .int x5), (6, .int x6), (7, .int x7), (8, .int x8)]) (st2 := [.int (x7 - 1)]) (h2 := (sh_rep m.T m.I m.J)) rfl rfl rfl ?_
      refine sh_w (i := (.istore 8)) (len := 2) (pc2 := 77) (lv2 := [(8, .int (x7 - 1)), (0, .ref 45), (1, .int x1), (2, .int x2), (4, .int (sh_b2 x4)), (5, .int x5), (6, .int x6), (7, .int x7)]) (st2 := []) (h2 := (sh_rep m.T m.I m.J)) rfl rfl rfl ?_
      exact kk
    obtain ⟨_, eu, rfl⟩ := sh_up_e e
    exact sh_Lk_sub (sh_sub_c rfl (sh_sub_c rfl (sh_sub_c rfl (sh_sub_c rfl (sh_sub_c rfl (sh_sub_c rfl (sh_sub_c rfl (sh_sub_n)))))))) (sl_183_77 eu tg)
theorem sl_183_33 {x1 : Int32} {x2 : Int32} {x4 : Bool} {x5 : Int32} {x6 : Int32} {x7 : Int32} {x8 : Int32} {m m2 : sh_X} {o : Outcome} {z : (Int32 × sh_X)} (e : sf_183_33 x1 x2 x4 x5 x6 x7 x8 m = some z) (tg : (sh_tI o m2) z) : sh_Lk 183 33 [(0, .ref 45), (1, .int x1), (2, .int x2), (4, .int (sh_b2 x4)), (5, .int x5), (6, .int x6), (7, .int x7), (8, .int x8)] [] m o m2 12 323 := by
  unfold sf_183_33 at e
  exact sh_while_lk (P := fun q => sh_Lk 183 33 [(0, .ref 45), (1, .int x1), (2, .int x2), (4, .int (sh_b2 x4)), (5, .int x5), (6, .int x6), (7, .int x7), (8, .int q.1)] [] q.2 o m2 12 323) (Q := (sh_tI o m2)) (fun q z e tg => sl_183_33s (x1 := x1) (x2 := x2) (x4 := x4) (x5 := x5) (x6 := x6) (x7 := x7) (x8 := q.1) (m := q.2) e tg) (s := (x8, m)) e tg
theorem sl_183 {x1 : Int32} {x2 : Int32} {x3 : Int32} {x4 : Bool} {m m2 : sh_X} {o : Outcome} {z : (Int32 × sh_X)} (e : sf_183 x1 x2 x3 x4 m = some z) (tg : (sh_tI o m2) z) : sh_Lk 183 0 [(0, .ref 45), (1, .int x1), (2, .int x2), (3, .int x3), (4, .int (sh_b2 x4))] [] m o m2 12 323 := by
  unfold sf_183 at e
  refine sh_Lk_lift (T := m.T) (I := m.I) (J := m.J) (s := m.s) (pc2 := 2) (lv2 := [(0, .ref 45), (1, .int x1), (2, .int x2), (3, .int x3), (4, .int (sh_b2 x4))]) (st2 := [.int x3, .ref 45]) (I2 := m.I) (J2 := m.J) (fun hT v kk => ?_) ?_
  · refine sh_w (i := (.aload_n 0)) (len := 1) (pc2 := 1) (lv2 := [(0, .ref 45), (1, .int x1), (2, .int x2), (3, .int x3), (4, .int (sh_b2 x4))]) (st2 := [.ref 45]) (h2 := (sh_rep m.T m.I m.J)) rfl rfl rfl ?_
    refine sh_w (i := (.iload_n 3)) (len := 1) (pc2 := 2) (lv2 := [(0, .ref 45), (1, .int x1), (2, .int x2), (3, .int x3), (4, .int (sh_b2 x4))]) (st2 := [.int x3, .ref 45]) (h2 := (sh_rep m.T m.I m.J)) rfl rfl rfl ?_
    exact kk
  obtain ⟨r1, m11, e1, e⟩ := sh_bn_e e
  refine sh_Lk_cV (r := (some (.int r1))) (st2 := [.int r1]) (pc2 := 5) (k2 := 98) (a := 44) (as := [.ref 45, .int x3]) (rest := []) rfl rfl rfl (fun hT => (sh_s44 hT.st)) rfl rfl ⟨Nat.le_of_ble_eq_true rfl, Nat.le_of_ble_eq_true rfl⟩ (sl_98 e1 ⟨rfl, rfl⟩) rfl rfl (Nat.le_of_ble_eq_true rfl) (Nat.le_of_ble_eq_true rfl) ?_
  refine sh_Lk_lift (T := m11.T) (I := m11.I) (J := m11.J) (s := m11.s) (pc2 := 9) (lv2 := [(5, .int r1), (0, .ref 45), (1, .int x1), (2, .int x2), (3, .int x3), (4, .int (sh_b2 x4))]) (st2 := [.int x3, .ref 45]) (I2 := m11.I) (J2 := m11.J) (fun hT v kk => ?_) ?_
  · refine sh_w (i := (.istore 5)) (len := 2) (pc2 := 7) (lv2 := [(5, .int r1), (0, .ref 45), (1, .int x1), (2, .int x2), (3, .int x3), (4, .int (sh_b2 x4))]) (st2 := []) (h2 := (sh_rep m11.T m11.I m11.J)) rfl rfl rfl ?_
    refine sh_w (i := (.aload_n 0)) (len := 1) (pc2 := 8) (lv2 := [(5, .int r1), (0, .ref 45), (1, .int x1), (2, .int x2), (3, .int x3), (4, .int (sh_b2 x4))]) (st2 := [.ref 45]) (h2 := (sh_rep m11.T m11.I m11.J)) rfl rfl rfl ?_
    refine sh_w (i := (.iload_n 3)) (len := 1) (pc2 := 9) (lv2 := [(5, .int r1), (0, .ref 45), (1, .int x1), (2, .int x2), (3, .int x3), (4, .int (sh_b2 x4))]) (st2 := [.int x3, .ref 45]) (h2 := (sh_rep m11.T m11.I m11.J)) rfl rfl rfl ?_
    exact kk
  obtain ⟨r2, m12, e2, e⟩ := sh_bn_e e
  refine sh_Lk_cV (r := (some (.int r2))) (st2 := [.int r2]) (pc2 := 12) (k2 := 98) (a := 44) (as := [.ref 45, .int x3]) (rest := []) rfl rfl rfl (fun hT => (sh_s44 hT.st)) rfl rfl ⟨Nat.le_of_ble_eq_true rfl, Nat.le_of_ble_eq_true rfl⟩ (sl_98 e2 ⟨rfl, rfl⟩) rfl rfl (Nat.le_of_ble_eq_true rfl) (Nat.le_of_ble_eq_true rfl) ?_
  refine sh_Lk_lift (T := m12.T) (I := m12.I) (J := m12.J) (s := m12.s) (pc2 := 17) (lv2 := [(6, .int r2), (5, .int r1), (0, .ref 45), (1, .int x1), (2, .int x2), (3, .int x3), (4, .int (sh_b2 x4))]) (st2 := [.int 64, .int x3]) (I2 := m12.I) (J2 := m12.J) (fun hT v kk => ?_) ?_
  · refine sh_w (i := (.istore 6)) (len := 2) (pc2 := 14) (lv2 := [(6, .int r2), (5, .int r1), (0, .ref 45), (1, .int x1), (2, .int x2), (3, .int x3), (4, .int (sh_b2 x4))]) (st2 := []) (h2 := (sh_rep m12.T m12.I m12.J)) rfl rfl rfl ?_
    refine sh_w (i := (.iload_n 3)) (len := 1) (pc2 := 15) (lv2 := [(6, .int r2), (5, .int r1), (0, .ref 45), (1, .int x1), (2, .int x2), (3, .int x3), (4, .int (sh_b2 x4))]) (st2 := [.int x3]) (h2 := (sh_rep m12.T m12.I m12.J)) rfl rfl rfl ?_
    refine sh_w (i := (.bipush 64)) (len := 2) (pc2 := 17) (lv2 := [(6, .int r2), (5, .int r1), (0, .ref 45), (1, .int x1), (2, .int x2), (3, .int x3), (4, .int (sh_b2 x4))]) (st2 := [.int 64, .int x3]) (h2 := (sh_rep m12.T m12.I m12.J)) rfl rfl rfl ?_
    exact kk
  refine sh_Lk_cS (r := (some (.int (sf_21 x3 64)))) (st2 := [.int (sf_21 x3 64)]) (pc2 := 20) (k2 := 21) (as := [.int x3, .int 64]) (rest := []) rfl rfl (by decide) (Nat.le_of_ble_eq_true rfl) rfl rfl ⟨Nat.le_of_ble_eq_true rfl, Nat.le_of_ble_eq_true rfl⟩ (sl_21 (m := m12) rfl ⟨rfl, rfl⟩) rfl rfl (Nat.le_of_ble_eq_true rfl) (Nat.le_of_ble_eq_true rfl) ?_
  refine sh_Lk_lift (T := m12.T) (I := m12.I) (J := m12.J) (s := m12.s) (pc2 := 27) (lv2 := [(7, .int (sf_21 x3 64)), (6, .int r2), (5, .int r1), (0, .ref 45), (1, .int x1), (2, .int x2), (3, .int x3), (4, .int (sh_b2 x4))]) (st2 := [.int 0, .ref 47]) (I2 := m12.I) (J2 := m12.J) (fun hT v kk => ?_) ?_
  · refine sh_w (i := (.istore 7)) (len := 2) (pc2 := 22) (lv2 := [(7, .int (sf_21 x3 64)), (6, .int r2), (5, .int r1), (0, .ref 45), (1, .int x1), (2, .int x2), (3, .int x3), (4, .int (sh_b2 x4))]) (st2 := []) (h2 := (sh_rep m12.T m12.I m12.J)) rfl rfl rfl ?_
    refine sh_w (i := (.aload_n 0)) (len := 1) (pc2 := 23) (lv2 := [(7, .int (sf_21 x3 64)), (6, .int r2), (5, .int r1), (0, .ref 45), (1, .int x1), (2, .int x2), (3, .int x3), (4, .int (sh_b2 x4))]) (st2 := [.ref 45]) (h2 := (sh_rep m12.T m12.I m12.J)) rfl rfl rfl ?_
    refine sh_gR1 (len := 3) (x := .ref 47) (pc2 := 26) rfl rfl (sh_s44 hT.st) rfl rfl ?_
    refine sh_w (i := (.iconst 0)) (len := 1) (pc2 := 27) (lv2 := [(7, .int (sf_21 x3 64)), (6, .int r2), (5, .int r1), (0, .ref 45), (1, .int x1), (2, .int x2), (3, .int x3), (4, .int (sh_b2 x4))]) (st2 := [.int 0, .ref 47]) (h2 := (sh_rep m12.T m12.I m12.J)) rfl rfl rfl ?_
    exact kk
  obtain ⟨r4, m14, e4, e⟩ := sh_bn_e e
  refine sh_Lk_cS (r := none) (st2 := []) (pc2 := 30) (k2 := 184) (as := [.ref 47, .int 0]) (rest := []) rfl rfl (by decide) (Nat.le_of_ble_eq_true rfl) rfl rfl ⟨Nat.le_of_ble_eq_true rfl, Nat.le_of_ble_eq_true rfl⟩ (sl_184 (fun hT => (sh_s46 hT.st)) (by decide) e4 ⟨rfl, rfl⟩) rfl rfl (Nat.le_of_ble_eq_true rfl) (Nat.le_of_ble_eq_true rfl) ?_
  refine sh_Lk_lift (T := m14.T) (I := m14.I) (J := m14.J) (s := m14.s) (pc2 := 33) (lv2 := [(8, .int 0), (7, .int (sf_21 x3 64)), (6, .int r2), (5, .int r1), (0, .ref 45), (1, .int x1), (2, .int x2), (3, .int x3), (4, .int (sh_b2 x4))]) (st2 := []) (I2 := m14.I) (J2 := m14.J) (fun hT v kk => ?_) ?_
  · refine sh_w (i := (.iconst 0)) (len := 1) (pc2 := 31) (lv2 := [(7, .int (sf_21 x3 64)), (6, .int r2), (5, .int r1), (0, .ref 45), (1, .int x1), (2, .int x2), (3, .int x3), (4, .int (sh_b2 x4))]) (st2 := [.int 0]) (h2 := (sh_rep m14.T m14.I m14.J)) rfl rfl rfl ?_
    refine sh_w (i := (.istore 8)) (len := 2) (pc2 := 33) (lv2 := [(8, .int 0), (7, .int (sf_21 x3 64)), (6, .int r2), (5, .int r1), (0, .ref 45), (1, .int x1), (2, .int x2), (3, .int x3), (4, .int (sh_b2 x4))]) (st2 := []) (h2 := (sh_rep m14.T m14.I m14.J)) rfl rfl rfl ?_
    exact kk
  exact sh_Lk_sub (sh_sub_c rfl (sh_sub_c rfl (sh_sub_c rfl (sh_sub_c rfl (sh_sub_c rfl (sh_sub_c rfl (sh_sub_c rfl (sh_sub_c rfl (sh_sub_n))))))))) (sl_183_33 e tg)
