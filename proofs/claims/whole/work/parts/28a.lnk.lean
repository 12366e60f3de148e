/-! LINKS, printed by gen27.py -/
theorem sl_14_3s {x1 : Int32} {x2 : Int32} {m m2 : sh_X} {o : Outcome} {z : ((Int32 × sh_X) ⊕ (Unit × sh_X))} (e : sf_14_3s x1 x2 m = some z) (tg : (sh_el (fun q => sh_Lk 14 3 [(0, .ref 1), (1, .int x1), (2, .int q.1)] [] q.2 o m2 8 200) (sh_tV o m2)) z) : sh_Lk 14 3 [(0, .ref 1), (1, .int x1), (2, .int x2)] [] m o m2 8 200 := by
  unfold sf_14_3s at e
  refine sh_Lk_lift (T := m.T) (I := m.I) (J := m.J) (s := m.s) (pc2 := 4) (lv2 := [(0, .ref 1), (1, .int x1), (2, .int x2)]) (st2 := [.int x2]) (I2 := m.I) (J2 := m.J) (fun hT v kk => ?_) ?_
  · refine sh_w (i := (.iload_n 2)) (len := 1) (pc2 := 4) (lv2 := [(0, .ref 1), (1, .int x1), (2, .int x2)]) (st2 := [.int x2]) (h2 := (sh_rep m.T m.I m.J)) rfl rfl rfl ?_
    exact kk
  rcases sh_ite e with ⟨c, e⟩ | ⟨c, e⟩
  · refine sh_Lk_lift (T := m.T) (I := m.I) (J := m.J) (s := m.s) (pc2 := 46) (lv2 := [(0, .ref 1), (1, .int x1), (2, .int x2)]) (st2 := []) (I2 := m.I) (J2 := m.J) (fun hT v kk => ?_) ?_
    · refine sh_j0 (c := .lt) (off := (42)) (pc2 := 46) true rfl (sh_Bltt c) rfl ?_
      exact kk
    obtain rfl := Option.some.inj e
    obtain ⟨rfl, rfl⟩ := tg
    exact sh_Lk_ret (i := .return_) rfl rfl rfl (Nat.le_of_ble_eq_true rfl) (Nat.le_of_ble_eq_true rfl)
  · refine sh_Lk_lift (T := m.T) (I := m.I) (J := m.J) (s := m.s) (pc2 := 14) (lv2 := [(0, .ref 1), (1, .int x1), (2, .int x2)]) (st2 := [.int 4000, .int (m.I 0 10)]) (I2 := m.I) (J2 := m.J) (fun hT v kk => ?_) ?_
    · refine sh_j0 (c := .lt) (off := (42)) (pc2 := 7) false rfl (sh_Bltf c) rfl ?_
      refine sh_w (i := (.aload_n 0)) (len := 1) (pc2 := 8) (lv2 := [(0, .ref 1), (1, .int x1), (2, .int x2)]) (st2 := [.ref 1]) (h2 := (sh_rep m.T m.I m.J)) rfl rfl rfl ?_
      refine sh_gI1 (len := 3) (x := m.I 0 10) (pc2 := 11) rfl rfl (sh_s0 hT.st) rfl rfl rfl ?_
      refine sh_w (i := (.sipush 4000)) (len := 3) (pc2 := 14) (lv2 := [(0, .ref 1), (1, .int x1), (2, .int x2)]) (st2 := [.int 4000, .int (m.I 0 10)]) (h2 := (sh_rep m.T m.I m.J)) rfl rfl rfl ?_
      exact kk
    rcases sh_ite e with ⟨c, e⟩ | ⟨c, e⟩
    · refine sh_Lk_lift (T := m.T) (I := m.I) (J := m.J) (s := m.s) (pc2 := 29) (lv2 := [(0, .ref 1), (1, .int x1), (2, .int x2)]) (st2 := [.int ((Int32.toInt8 ((x1.toUInt32 >>> (Int32.toUInt32 x2 &&& Int32.toUInt32 31)).toInt32)).toInt32), .int (m.I 0 10), .ref 2]) (I2 := m.I) (J2 := m.J) (fun hT v kk => ?_) ?_
      · refine sh_jc (c := .ge) (off := (32)) (pc2 := 17) false rfl (sh_Bgef c) rfl ?_
        refine sh_w (i := (.aload_n 0)) (len := 1) (pc2 := 18) (lv2 := [(0, .ref 1), (1, .int x1), (2, .int x2)]) (st2 := [.ref 1]) (h2 := (sh_rep m.T m.I m.J)) rfl rfl rfl ?_
        refine sh_gR1 (len := 3) (x := .ref 2) (pc2 := 21) rfl rfl (sh_s0 hT.st) rfl rfl ?_
        refine sh_w (i := (.aload_n 0)) (len := 1) (pc2 := 22) (lv2 := [(0, .ref 1), (1, .int x1), (2, .int x2)]) (st2 := [.ref 1, .ref 2]) (h2 := (sh_rep m.T m.I m.J)) rfl rfl rfl ?_
        refine sh_gI1 (len := 3) (x := m.I 0 10) (pc2 := 25) rfl rfl (sh_s0 hT.st) rfl rfl rfl ?_
        refine sh_w (i := (.iload_n 1)) (len := 1) (pc2 := 26) (lv2 := [(0, .ref 1), (1, .int x1), (2, .int x2)]) (st2 := [.int x1, .int (m.I 0 10), .ref 2]) (h2 := (sh_rep m.T m.I m.J)) rfl rfl rfl ?_
        refine sh_w (i := (.iload_n 2)) (len := 1) (pc2 := 27) (lv2 := [(0, .ref 1), (1, .int x1), (2, .int x2)]) (st2 := [.int x2, .int x1, .int (m.I 0 10), .ref 2]) (h2 := (sh_rep m.T m.I m.J)) rfl rfl rfl ?_
        refine sh_w (i := .iushr) (len := 1) (pc2 := 28) (lv2 := [(0, .ref 1), (1, .int x1), (2, .int x2)]) (st2 := [.int ((x1.toUInt32 >>> (Int32.toUInt32 x2 &&& Int32.toUInt32 31)).toInt32), .int (m.I 0 10), .ref 2]) (h2 := (sh_rep m.T m.I m.J)) rfl rfl rfl ?_
        refine sh_w (i := .i2b) (len := 1) (pc2 := 29) (lv2 := [(0, .ref 1), (1, .int x1), (2, .int x2)]) (st2 := [.int ((Int32.toInt8 ((x1.toUInt32 >>> (Int32.toUInt32 x2 &&& Int32.toUInt32 31)).toInt32)).toInt32), .int (m.I 0 10), .ref 2]) (h2 := (sh_rep m.T m.I m.J)) rfl rfl rfl ?_
        exact kk
      obtain ⟨c, e⟩ := sh_gd e
      refine sh_Lk_lift (T := m.T) (I := m.I) (J := m.J) (s := m.s) (pc2 := 3) (lv2 := [(2, .int (x2 + (-8))), (0, .ref 1), (1, .int x1)]) (st2 := []) (I2 := sh_u2 (sh_u2 m.I 1 (Int32.toNatClampNeg (m.I 0 10)) (vp_nar .byte ((Int32.toInt8 ((x1.toUInt32 >>> (Int32.toUInt32 x2 &&& Int32.toUInt32 31)).toInt32)).toInt32))) 0 10 ((m.I 0 10) + 1)) (J2 := m.J) (fun hT v kk => ?_) ?_
      · refine sh_bs1 (x := (Int32.toInt8 ((x1.toUInt32 >>> (Int32.toUInt32 x2 &&& Int32.toUInt32 31)).toInt32)).toInt32) (y := vp_nar .byte ((Int32.toInt8 ((x1.toUInt32 >>> (Int32.toUInt32 x2 &&& Int32.toUInt32 31)).toInt32)).toInt32)) (i := m.I 0 10) (pc2 := 30) rfl (sh_s1 hT.st) (sh_okb1 c) (sh_okb2 c) rfl rfl ?_
        refine sh_w (i := (.aload_n 0)) (len := 1) (pc2 := 31) (lv2 := [(0, .ref 1), (1, .int x1), (2, .int x2)]) (st2 := [.ref 1]) (h2 := (sh_rep m.T (sh_u2 m.I 1 (Int32.toNatClampNeg (m.I 0 10)) (vp_nar .byte ((Int32.toInt8 ((x1.toUInt32 >>> (Int32.toUInt32 x2 &&& Int32.toUInt32 31)).toInt32)).toInt32))) m.J)) rfl rfl rfl ?_
        refine sh_w (i := .dup) (len := 1) (pc2 := 32) (lv2 := [(0, .ref 1), (1, .int x1), (2, .int x2)]) (st2 := [.ref 1, .ref 1]) (h2 := (sh_rep m.T (sh_u2 m.I 1 (Int32.toNatClampNeg (m.I 0 10)) (vp_nar .byte ((Int32.toInt8 ((x1.toUInt32 >>> (Int32.toUInt32 x2 &&& Int32.toUInt32 31)).toInt32)).toInt32))) m.J)) rfl rfl rfl ?_
        refine sh_gI1 (len := 3) (x := m.I 0 10) (pc2 := 35) rfl rfl (sh_s0 hT.st) rfl rfl rfl ?_
        refine sh_w (i := (.iconst 1)) (len := 1) (pc2 := 36) (lv2 := [(0, .ref 1), (1, .int x1), (2, .int x2)]) (st2 := [.int 1, .int (m.I 0 10), .ref 1]) (h2 := (sh_rep m.T (sh_u2 m.I 1 (Int32.toNatClampNeg (m.I 0 10)) (vp_nar .byte ((Int32.toInt8 ((x1.toUInt32 >>> (Int32.toUInt32 x2 &&& Int32.toUInt32 31)).toInt32)).toInt32))) m.J)) rfl rfl rfl ?_
        refine sh_w (i := .iadd) (len := 1) (pc2 := 37) (lv2 := [(0, .ref 1), (1, .int x1), (2, .int x2)]) (st2 := [.int ((m.I 0 10) + 1), .ref 1]) (h2 := (sh_rep m.T (sh_u2 m.I 1 (Int32.toNatClampNeg (m.I 0 10)) (vp_nar .byte ((Int32.toInt8 ((x1.toUInt32 >>> (Int32.toUInt32 x2 &&& Int32.toUInt32 31)).toInt32)).toInt32))) m.J)) rfl rfl rfl ?_
        refine sh_pI1 (x := (m.I 0 10) + 1) (pc2 := 40) rfl rfl (sh_s0 hT.st) rfl rfl rfl rfl ?_
        refine sh_w (i := (.iinc 2 (-8))) (len := 3) (pc2 := 43) (lv2 := [(2, .int (x2 + (-8))), (0, .ref 1), (1, .int x1)]) (st2 := []) (h2 := (sh_rep m.T (sh_u2 (sh_u2 m.I 1 (Int32.toNatClampNeg (m.I 0 10)) (vp_nar .byte ((Int32.toInt8 ((x1.toUInt32 >>> (Int32.toUInt32 x2 &&& Int32.toUInt32 31)).toInt32)).toInt32))) 0 10 ((m.I 0 10) + 1)) m.J)) rfl rfl rfl ?_
        refine sh_w (i := (.goto (-40))) (len := 3) (pc2 := 3) (lv2 := [(2, .int (x2 + (-8))), (0, .ref 1), (1, .int x1)]) (st2 := []) (h2 := (sh_rep m.T (sh_u2 (sh_u2 m.I 1 (Int32.toNatClampNeg (m.I 0 10)) (vp_nar .byte ((Int32.toInt8 ((x1.toUInt32 >>> (Int32.toUInt32 x2 &&& Int32.toUInt32 31)).toInt32)).toInt32))) 0 10 ((m.I 0 10) + 1)) m.J)) rfl rfl rfl ?_
        exact kk
      obtain rfl := Option.some.inj e
      exact sh_Lk_sub (sh_sub_c rfl (sh_sub_c rfl (sh_sub_c rfl (sh_sub_n)))) tg
    · refine sh_Lk_lift (T := m.T) (I := m.I) (J := m.J) (s := m.s) (pc2 := 46) (lv2 := [(0, .ref 1), (1, .int x1), (2, .int x2)]) (st2 := []) (I2 := m.I) (J2 := m.J) (fun hT v kk => ?_) ?_
      · refine sh_jc (c := .ge) (off := (32)) (pc2 := 46) true rfl (sh_Bget c) rfl ?_
        exact kk
      obtain rfl := Option.some.inj e
      obtain ⟨rfl, rfl⟩ := tg
      exact sh_Lk_ret (i := .return_) rfl rfl rfl (Nat.le_of_ble_eq_true rfl) (Nat.le_of_ble_eq_true rfl)
theorem sl_14_3 {x1 : Int32} {x2 : Int32} {m m2 : sh_X} {o : Outcome} {z : (Unit × sh_X)} (e : sf_14_3 x1 x2 m = some z) (tg : (sh_tV o m2) z) : sh_Lk 14 3 [(0, .ref 1), (1, .int x1), (2, .int x2)] [] m o m2 8 200 := by
  unfold sf_14_3 at e
  exact sh_while_lk (P := fun q => sh_Lk 14 3 [(0, .ref 1), (1, .int x1), (2, .int q.1)] [] q.2 o m2 8 200) (Q := (sh_tV o m2)) (fun q z e tg => sl_14_3s (x1 := x1) (x2 := q.1) (m := q.2) e tg) (s := (x2, m)) e tg
theorem sl_14 {x1 : Int32} {m m2 : sh_X} {o : Outcome} {z : (Unit × sh_X)} (e : sf_14 x1 m = some z) (tg : (sh_tV o m2) z) : sh_Lk 14 0 [(0, .ref 1), (1, .int x1)] [] m o m2 8 200 := by
  unfold sf_14 at e
  refine sh_Lk_lift (T := m.T) (I := m.I) (J := m.J) (s := m.s) (pc2 := 3) (lv2 := [(2, .int 24), (0, .ref 1), (1, .int x1)]) (st2 := []) (I2 := m.I) (J2 := m.J) (fun hT v kk => ?_) ?_
  · refine sh_w (i := (.bipush 24)) (len := 2) (pc2 := 2) (lv2 := [(0, .ref 1), (1, .int x1)]) (st2 := [.int 24]) (h2 := (sh_rep m.T m.I m.J)) rfl rfl rfl ?_
    refine sh_w (i := (.istore_n 2)) (len := 1) (pc2 := 3) (lv2 := [(2, .int 24), (0, .ref 1), (1, .int x1)]) (st2 := []) (h2 := (sh_rep m.T m.I m.J)) rfl rfl rfl ?_
    exact kk
  exact sh_Lk_sub (sh_sub_c rfl (sh_sub_c rfl (sh_sub_c rfl (sh_sub_n)))) (sl_14_3 e tg)
theorem sl_13 {x1 : Int32} {x2 : Int32} {x3 : Int32} {x4 : Int32} {x5 : Int32} {m m2 : sh_X} {o : Outcome} {z : (Bool × sh_X)} (e : sf_13 x1 x2 x3 x4 x5 m = some z) (tg : (sh_tZ o m2) z) : sh_Lk 13 0 [(0, .ref 1), (1, .int x1), (2, .int x2), (3, .int x3), (4, .int x4), (5, .int x5)] [] m o m2 9 222 := by
  unfold sf_13 at e
  refine sh_Lk_lift (T := m.T) (I := m.I) (J := m.J) (s := m.s) (pc2 := 7) (lv2 := [(0, .ref 1), (1, .int x1), (2, .int x2), (3, .int x3), (4, .int x4), (5, .int x5)]) (st2 := [.int 3980, .int (m.I 0 10)]) (I2 := m.I) (J2 := m.J) (fun hT v kk => ?_) ?_
  · refine sh_w (i := (.aload_n 0)) (len := 1) (pc2 := 1) (lv2 := [(0, .ref 1), (1, .int x1), (2, .int x2), (3, .int x3), (4, .int x4), (5, .int x5)]) (st2 := [.ref 1]) (h2 := (sh_rep m.T m.I m.J)) rfl rfl rfl ?_
    refine sh_gI1 (len := 3) (x := m.I 0 10) (pc2 := 4) rfl rfl (sh_s0 hT.st) rfl rfl rfl ?_
    refine sh_w (i := (.sipush 3980)) (len := 3) (pc2 := 7) (lv2 := [(0, .ref 1), (1, .int x1), (2, .int x2), (3, .int x3), (4, .int x4), (5, .int x5)]) (st2 := [.int 3980, .int (m.I 0 10)]) (h2 := (sh_rep m.T m.I m.J)) rfl rfl rfl ?_
    exact kk
  rcases sh_ite e with ⟨c, e⟩ | ⟨c, e⟩
  · refine sh_Lk_lift (T := m.T) (I := m.I) (J := m.J) (s := m.s) (pc2 := 11) (lv2 := [(0, .ref 1), (1, .int x1), (2, .int x2), (3, .int x3), (4, .int x4), (5, .int x5)]) (st2 := [.int 0]) (I2 := m.I) (J2 := m.J) (fun hT v kk => ?_) ?_
    · refine sh_jc (c := .le) (off := (5)) (pc2 := 10) false rfl (sh_Blef c) rfl ?_
      refine sh_w (i := (.iconst 0)) (len := 1) (pc2 := 11) (lv2 := [(0, .ref 1), (1, .int x1), (2, .int x2), (3, .int x3), (4, .int x4), (5, .int x5)]) (st2 := [.int 0]) (h2 := (sh_rep m.T m.I m.J)) rfl rfl rfl ?_
      exact kk
    obtain rfl := Option.some.inj e
    obtain ⟨rfl, rfl⟩ := tg
    exact sh_Lk_ret (i := .ireturn) rfl rfl rfl (Nat.le_of_ble_eq_true rfl) (Nat.le_of_ble_eq_true rfl)
  · refine sh_Lk_lift (T := m.T) (I := m.I) (J := m.J) (s := m.s) (pc2 := 14) (lv2 := [(0, .ref 1), (1, .int x1), (2, .int x2), (3, .int x3), (4, .int x4), (5, .int x5)]) (st2 := [.int x1, .ref 1]) (I2 := m.I) (J2 := m.J) (fun hT v kk => ?_) ?_
    · refine sh_jc (c := .le) (off := (5)) (pc2 := 12) true rfl (sh_Blet c) rfl ?_
      refine sh_w (i := (.aload_n 0)) (len := 1) (pc2 := 13) (lv2 := [(0, .ref 1), (1, .int x1), (2, .int x2), (3, .int x3), (4, .int x4), (5, .int x5)]) (st2 := [.ref 1]) (h2 := (sh_rep m.T m.I m.J)) rfl rfl rfl ?_
      refine sh_w (i := (.iload_n 1)) (len := 1) (pc2 := 14) (lv2 := [(0, .ref 1), (1, .int x1), (2, .int x2), (3, .int x3), (4, .int x4), (5, .int x5)]) (st2 := [.int x1, .ref 1]) (h2 := (sh_rep m.T m.I m.J)) rfl rfl rfl ?_
      exact kk
    obtain ⟨r1, m11, e1, e⟩ := sh_bn_e e
    refine sh_Lk_cV (r := none) (st2 := []) (pc2 := 17) (k2 := 14) (a := 0) (as := [.ref 1, .int x1]) (rest := []) rfl rfl rfl (fun hT => (sh_s0 hT.st)) rfl rfl ⟨Nat.le_of_ble_eq_true rfl, Nat.le_of_ble_eq_true rfl⟩ (sl_14 e1 ⟨rfl, rfl⟩) rfl rfl (Nat.le_of_ble_eq_true rfl) (Nat.le_of_ble_eq_true rfl) ?_
    refine sh_Lk_lift (T := m11.T) (I := m11.I) (J := m11.J) (s := m11.s) (pc2 := 19) (lv2 := [(0, .ref 1), (1, .int x1), (2, .int x2), (3, .int x3), (4, .int x4), (5, .int x5)]) (st2 := [.int x2, .ref 1]) (I2 := m11.I) (J2 := m11.J) (fun hT v kk => ?_) ?_
    · refine sh_w (i := (.aload_n 0)) (len := 1) (pc2 := 18) (lv2 := [(0, .ref 1), (1, .int x1), (2, .int x2), (3, .int x3), (4, .int x4), (5, .int x5)]) (st2 := [.ref 1]) (h2 := (sh_rep m11.T m11.I m11.J)) rfl rfl rfl ?_
      refine sh_w (i := (.iload_n 2)) (len := 1) (pc2 := 19) (lv2 := [(0, .ref 1), (1, .int x1), (2, .int x2), (3, .int x3), (4, .int x4), (5, .int x5)]) (st2 := [.int x2, .ref 1]) (h2 := (sh_rep m11.T m11.I m11.J)) rfl rfl rfl ?_
      exact kk
    obtain ⟨r2, m12, e2, e⟩ := sh_bn_e e
    refine sh_Lk_cV (r := none) (st2 := []) (pc2 := 22) (k2 := 14) (a := 0) (as := [.ref 1, .int x2]) (rest := []) rfl rfl rfl (fun hT => (sh_s0 hT.st)) rfl rfl ⟨Nat.le_of_ble_eq_true rfl, Nat.le_of_ble_eq_true rfl⟩ (sl_14 e2 ⟨rfl, rfl⟩) rfl rfl (Nat.le_of_ble_eq_true rfl) (Nat.le_of_ble_eq_true rfl) ?_
    refine sh_Lk_lift (T := m12.T) (I := m12.I) (J := m12.J) (s := m12.s) (pc2 := 24) (lv2 := [(0, .ref 1), (1, .int x1), (2, .int x2), (3, .int x3), (4, .int x4), (5, .int x5)]) (st2 := [.int x3, .ref 1]) (I2 := m12.I) (J2 := m12.J) (fun hT v kk => ?_) ?_
    · refine sh_w (i := (.aload_n 0)) (len := 1) (pc2 := 23) (lv2 := [(0, .ref 1), (1, .int x1), (2, .int x2), (3, .int x3), (4, .int x4), (5, .int x5)]) (st2 := [.ref 1]) (h2 := (sh_rep m12.T m12.I m12.J)) rfl rfl rfl ?_
      refine sh_w (i := (.iload_n 3)) (len := 1) (pc2 := 24) (lv2 := [(0, .ref 1), (1, .int x1), (2, .int x2), (3, .int x3), (4, .int x4), (5, .int x5)]) (st2 := [.int x3, .ref 1]) (h2 := (sh_rep m12.T m12.I m12.J)) rfl rfl rfl ?_
      exact kk
    obtain ⟨r3, m13, e3, e⟩ := sh_bn_e e
    refine sh_Lk_cV (r := none) (st2 := []) (pc2 := 27) (k2 := 14) (a := 0) (as := [.ref 1, .int x3]) (rest := []) rfl rfl rfl (fun hT => (sh_s0 hT.st)) rfl rfl ⟨Nat.le_of_ble_eq_true rfl, Nat.le_of_ble_eq_true rfl⟩ (sl_14 e3 ⟨rfl, rfl⟩) rfl rfl (Nat.le_of_ble_eq_true rfl) (Nat.le_of_ble_eq_true rfl) ?_
    refine sh_Lk_lift (T := m13.T) (I := m13.I) (J := m13.J) (s := m13.s) (pc2 := 30) (lv2 := [(0, .ref 1), (1, .int x1), (2, .int x2), (3, .int x3), (4, .int x4), (5, .int x5)]) (st2 := [.int x4, .ref 1]) (I2 := m13.I) (J2 := m13.J) (fun hT v kk => ?_) ?_
    · refine sh_w (i := (.aload_n 0)) (len := 1) (pc2 := 28) (lv2 := [(0, .ref 1), (1, .int x1), (2, .int x2), (3, .int x3), (4, .int x4), (5, .int x5)]) (st2 := [.ref 1]) (h2 := (sh_rep m13.T m13.I m13.J)) rfl rfl rfl ?_
      refine sh_w (i := (.iload 4)) (len := 2) (pc2 := 30) (lv2 := [(0, .ref 1), (1, .int x1), (2, .int x2), (3, .int x3), (4, .int x4), (5, .int x5)]) (st2 := [.int x4, .ref 1]) (h2 := (sh_rep m13.T m13.I m13.J)) rfl rfl rfl ?_
      exact kk
    obtain ⟨r4, m14, e4, e⟩ := sh_bn_e e
    refine sh_Lk_cV (r := none) (st2 := []) (pc2 := 33) (k2 := 14) (a := 0) (as := [.ref 1, .int x4]) (rest := []) rfl rfl rfl (fun hT => (sh_s0 hT.st)) rfl rfl ⟨Nat.le_of_ble_eq_true rfl, Nat.le_of_ble_eq_true rfl⟩ (sl_14 e4 ⟨rfl, rfl⟩) rfl rfl (Nat.le_of_ble_eq_true rfl) (Nat.le_of_ble_eq_true rfl) ?_
    refine sh_Lk_lift (T := m14.T) (I := m14.I) (J := m14.J) (s := m14.s) (pc2 := 36) (lv2 := [(0, .ref 1), (1, .int x1), (2, .int x2), (3, .int x3), (4, .int x4), (5, .int x5)]) (st2 := [.int x5, .ref 1]) (I2 := m14.I) (J2 := m14.J) (fun hT v kk => ?_) ?_
    · refine sh_w (i := (.aload_n 0)) (len := 1) (pc2 := 34) (lv2 := [(0, .ref 1), (1, .int x1), (2, .int x2), (3, .int x3), (4, .int x4), (5, .int x5)]) (st2 := [.ref 1]) (h2 := (sh_rep m14.T m14.I m14.J)) rfl rfl rfl ?_
      refine sh_w (i := (.iload 5)) (len := 2) (pc2 := 36) (lv2 := [(0, .ref 1), (1, .int x1), (2, .int x2), (3, .int x3), (4, .int x4), (5, .int x5)]) (st2 := [.int x5, .ref 1]) (h2 := (sh_rep m14.T m14.I m14.J)) rfl rfl rfl ?_
      exact kk
    obtain ⟨r5, m15, e5, e⟩ := sh_bn_e e
    refine sh_Lk_cV (r := none) (st2 := []) (pc2 := 39) (k2 := 14) (a := 0) (as := [.ref 1, .int x5]) (rest := []) rfl rfl rfl (fun hT => (sh_s0 hT.st)) rfl rfl ⟨Nat.le_of_ble_eq_true rfl, Nat.le_of_ble_eq_true rfl⟩ (sl_14 e5 ⟨rfl, rfl⟩) rfl rfl (Nat.le_of_ble_eq_true rfl) (Nat.le_of_ble_eq_true rfl) ?_
    refine sh_Lk_lift (T := m15.T) (I := m15.I) (J := m15.J) (s := m15.s) (pc2 := 40) (lv2 := [(0, .ref 1), (1, .int x1), (2, .int x2), (3, .int x3), (4, .int x4), (5, .int x5)]) (st2 := [.int 1]) (I2 := m15.I) (J2 := m15.J) (fun hT v kk => ?_) ?_
    · refine sh_w (i := (.iconst 1)) (len := 1) (pc2 := 40) (lv2 := [(0, .ref 1), (1, .int x1), (2, .int x2), (3, .int x3), (4, .int x4), (5, .int x5)]) (st2 := [.int 1]) (h2 := (sh_rep m15.T m15.I m15.J)) rfl rfl rfl ?_
      exact kk
    obtain rfl := Option.some.inj e
    obtain ⟨rfl, rfl⟩ := tg
    exact sh_Lk_ret (i := .ireturn) rfl rfl rfl (Nat.le_of_ble_eq_true rfl) (Nat.le_of_ble_eq_true rfl)
theorem sl_15 {x1 : Int32} {m m2 : sh_X} {o : Outcome} {z : (Bool × sh_X)} (e : sf_15 x1 m = some z) (tg : (sh_tZ o m2) z) : sh_Lk 15 0 [(0, .ref 1), (1, .int x1)] [] m o m2 8 200 := by
  unfold sf_15 at e
  refine sh_Lk_lift (T := m.T) (I := m.I) (J := m.J) (s := m.s) (pc2 := 1) (lv2 := [(0, .ref 1), (1, .int x1)]) (st2 := [.int x1]) (I2 := m.I) (J2 := m.J) (fun hT v kk => ?_) ?_
  · refine sh_w (i := (.iload_n 1)) (len := 1) (pc2 := 1) (lv2 := [(0, .ref 1), (1, .int x1)]) (st2 := [.int x1]) (h2 := (sh_rep m.T m.I m.J)) rfl rfl rfl ?_
    exact kk
  rcases sh_ite e with ⟨c, e⟩ | ⟨c, e⟩
  · refine sh_Lk_lift (T := m.T) (I := m.I) (J := m.J) (s := m.s) (pc2 := 13) (lv2 := [(0, .ref 1), (1, .int x1)]) (st2 := [.int 0]) (I2 := m.I) (J2 := m.J) (fun hT v kk => ?_) ?_
    · refine sh_j0 (c := .lt) (off := (11)) (pc2 := 12) true rfl (sh_Bltt c) rfl ?_
      refine sh_w (i := (.iconst 0)) (len := 1) (pc2 := 13) (lv2 := [(0, .ref 1), (1, .int x1)]) (st2 := [.int 0]) (h2 := (sh_rep m.T m.I m.J)) rfl rfl rfl ?_
      exact kk
    obtain rfl := Option.some.inj e
    obtain ⟨rfl, rfl⟩ := tg
    exact sh_Lk_ret (i := .ireturn) rfl rfl rfl (Nat.le_of_ble_eq_true rfl) (Nat.le_of_ble_eq_true rfl)
  · refine sh_Lk_lift (T := m.T) (I := m.I) (J := m.J) (s := m.s) (pc2 := 9) (lv2 := [(0, .ref 1), (1, .int x1)]) (st2 := [.int (m.I 0 10), .int x1]) (I2 := m.I) (J2 := m.J) (fun hT v kk => ?_) ?_
    · refine sh_j0 (c := .lt) (off := (11)) (pc2 := 4) false rfl (sh_Bltf c) rfl ?_
      refine sh_w (i := (.iload_n 1)) (len := 1) (pc2 := 5) (lv2 := [(0, .ref 1), (1, .int x1)]) (st2 := [.int x1]) (h2 := (sh_rep m.T m.I m.J)) rfl rfl rfl ?_
      refine sh_w (i := (.aload_n 0)) (len := 1) (pc2 := 6) (lv2 := [(0, .ref 1), (1, .int x1)]) (st2 := [.ref 1, .int x1]) (h2 := (sh_rep m.T m.I m.J)) rfl rfl rfl ?_
      refine sh_gI1 (len := 3) (x := m.I 0 10) (pc2 := 9) rfl rfl (sh_s0 hT.st) rfl rfl rfl ?_
      exact kk
    rcases sh_ite e with ⟨c, e⟩ | ⟨c, e⟩
    · refine sh_Lk_lift (T := m.T) (I := m.I) (J := m.J) (s := m.s) (pc2 := 13) (lv2 := [(0, .ref 1), (1, .int x1)]) (st2 := [.int 0]) (I2 := m.I) (J2 := m.J) (fun hT v kk => ?_) ?_
      · refine sh_jc (c := .le) (off := (5)) (pc2 := 12) false rfl (sh_Blef c) rfl ?_
        refine sh_w (i := (.iconst 0)) (len := 1) (pc2 := 13) (lv2 := [(0, .ref 1), (1, .int x1)]) (st2 := [.int 0]) (h2 := (sh_rep m.T m.I m.J)) rfl rfl rfl ?_
        exact kk
      obtain rfl := Option.some.inj e
      obtain ⟨rfl, rfl⟩ := tg
      exact sh_Lk_ret (i := .ireturn) rfl rfl rfl (Nat.le_of_ble_eq_true rfl) (Nat.le_of_ble_eq_true rfl)
    · refine sh_Lk_lift (T := m.T) (I := m.I) (J := m.J) (s := m.s) (pc2 := 20) (lv2 := [(0, .ref 1), (1, .int x1)]) (st2 := [.int 1]) (I2 := sh_u2 m.I 0 10 x1) (J2 := m.J) (fun hT v kk => ?_) ?_
      · refine sh_jc (c := .le) (off := (5)) (pc2 := 14) true rfl (sh_Blet c) rfl ?_
        refine sh_w (i := (.aload_n 0)) (len := 1) (pc2 := 15) (lv2 := [(0, .ref 1), (1, .int x1)]) (st2 := [.ref 1]) (h2 := (sh_rep m.T m.I m.J)) rfl rfl rfl ?_
        refine sh_w (i := (.iload_n 1)) (len := 1) (pc2 := 16) (lv2 := [(0, .ref 1), (1, .int x1)]) (st2 := [.int x1, .ref 1]) (h2 := (sh_rep m.T m.I m.J)) rfl rfl rfl ?_
        refine sh_pI1 (x := x1) (pc2 := 19) rfl rfl (sh_s0 hT.st) rfl rfl rfl rfl ?_
        refine sh_w (i := (.iconst 1)) (len := 1) (pc2 := 20) (lv2 := [(0, .ref 1), (1, .int x1)]) (st2 := [.int 1]) (h2 := (sh_rep m.T (sh_u2 m.I 0 10 x1) m.J)) rfl rfl rfl ?_
        exact kk
      obtain rfl := Option.some.inj e
      obtain ⟨rfl, rfl⟩ := tg
      exact sh_Lk_ret (i := .ireturn) rfl rfl rfl (Nat.le_of_ble_eq_true rfl) (Nat.le_of_ble_eq_true rfl)
theorem sl_21 {x0 : Int32} {x1 : Int32} {m m2 : sh_X} {o : Outcome} {z : Int32} (e : sf_21 x0 x1 = z) (tg : (sh_tIc m o m2) z) : sh_Lk 21 0 [(0, .int x0), (1, .int x1)] [] m o m2 8 200 := by
  unfold sf_21 at e
  refine sh_Lk_lift (T := m.T) (I := m.I) (J := m.J) (s := m.s) (pc2 := 2) (lv2 := [(0, .int x0), (1, .int x1)]) (st2 := [.int x1, .int x0]) (I2 := m.I) (J2 := m.J) (fun hT v kk => ?_) ?_
  · refine sh_w (i := (.iload_n 0)) (len := 1) (pc2 := 1) (lv2 := [(0, .int x0), (1, .int x1)]) (st2 := [.int x0]) (h2 := (sh_rep m.T m.I m.J)) rfl rfl rfl ?_
    refine sh_w (i := (.iload_n 1)) (len := 1) (pc2 := 2) (lv2 := [(0, .int x0), (1, .int x1)]) (st2 := [.int x1, .int x0]) (h2 := (sh_rep m.T m.I m.J)) rfl rfl rfl ?_
    exact kk
  rcases sh_ite e with ⟨c, e⟩ | ⟨c, e⟩
  · refine sh_Lk_lift (T := m.T) (I := m.I) (J := m.J) (s := m.s) (pc2 := 10) (lv2 := [(0, .int x0), (1, .int x1)]) (st2 := [.int x1]) (I2 := m.I) (J2 := m.J) (fun hT v kk => ?_) ?_
    · refine sh_jc (c := .gt) (off := (7)) (pc2 := 9) true rfl (sh_Bgtt c) rfl ?_
      refine sh_w (i := (.iload_n 1)) (len := 1) (pc2 := 10) (lv2 := [(0, .int x0), (1, .int x1)]) (st2 := [.int x1]) (h2 := (sh_rep m.T m.I m.J)) rfl rfl rfl ?_
      exact kk
    obtain rfl := e
    obtain ⟨rfl, rfl⟩ := tg
    exact sh_Lk_ret (i := .ireturn) rfl rfl rfl (Nat.le_of_ble_eq_true rfl) (Nat.le_of_ble_eq_true rfl)
  · refine sh_Lk_lift (T := m.T) (I := m.I) (J := m.J) (s := m.s) (pc2 := 10) (lv2 := [(0, .int x0), (1, .int x1)]) (st2 := [.int x0]) (I2 := m.I) (J2 := m.J) (fun hT v kk => ?_) ?_
    · refine sh_jc (c := .gt) (off := (7)) (pc2 := 5) false rfl (sh_Bgtf c) rfl ?_
      refine sh_w (i := (.iload_n 0)) (len := 1) (pc2 := 6) (lv2 := [(0, .int x0), (1, .int x1)]) (st2 := [.int x0]) (h2 := (sh_rep m.T m.I m.J)) rfl rfl rfl ?_
      refine sh_w (i := (.goto 4)) (len := 3) (pc2 := 10) (lv2 := [(0, .int x0), (1, .int x1)]) (st2 := [.int x0]) (h2 := (sh_rep m.T m.I m.J)) rfl rfl rfl ?_
      exact kk
    obtain rfl := e
    obtain ⟨rfl, rfl⟩ := tg
    exact sh_Lk_ret (i := .ireturn) rfl rfl rfl (Nat.le_of_ble_eq_true rfl) (Nat.le_of_ble_eq_true rfl)
theorem sl_18 {m m2 : sh_X} {o : Outcome} {z : (Unit × sh_X)} (e : sf_18 m = some z) (tg : (sh_tV o m2) z) : sh_Lk 18 0 [(0, .ref 10)] [] m o m2 11 266 := by
  unfold sf_18 at e
  refine sh_Lk_lift (T := m.T) (I := m.I) (J := m.J) (s := m.s) (pc2 := 9) (lv2 := [(0, .ref 10)]) (st2 := [.int 0, .int 0, .int 0, .ref 10]) (I2 := sh_u2 m.I 9 3 0) (J2 := m.J) (fun hT v kk => ?_) ?_
  · refine sh_w (i := (.aload_n 0)) (len := 1) (pc2 := 1) (lv2 := [(0, .ref 10)]) (st2 := [.ref 10]) (h2 := (sh_rep m.T m.I m.J)) rfl rfl rfl ?_
    refine sh_w (i := (.iconst 0)) (len := 1) (pc2 := 2) (lv2 := [(0, .ref 10)]) (st2 := [.int 0, .ref 10]) (h2 := (sh_rep m.T m.I m.J)) rfl rfl rfl ?_
    refine sh_pI1 (x := 0) (pc2 := 5) rfl rfl hT.t9 rfl rfl rfl rfl ?_
    refine sh_w (i := (.aload_n 0)) (len := 1) (pc2 := 6) (lv2 := [(0, .ref 10)]) (st2 := [.ref 10]) (h2 := (sh_rep m.T (sh_u2 m.I 9 3 0) m.J)) rfl rfl rfl ?_
    refine sh_w (i := (.iconst 0)) (len := 1) (pc2 := 7) (lv2 := [(0, .ref 10)]) (st2 := [.int 0, .ref 10]) (h2 := (sh_rep m.T (sh_u2 m.I 9 3 0) m.J)) rfl rfl rfl ?_
    refine sh_w (i := (.iconst 0)) (len := 1) (pc2 := 8) (lv2 := [(0, .ref 10)]) (st2 := [.int 0, .int 0, .ref 10]) (h2 := (sh_rep m.T (sh_u2 m.I 9 3 0) m.J)) rfl rfl rfl ?_
    refine sh_w (i := (.iconst 0)) (len := 1) (pc2 := 9) (lv2 := [(0, .ref 10)]) (st2 := [.int 0, .int 0, .int 0, .ref 10]) (h2 := (sh_rep m.T (sh_u2 m.I 9 3 0) m.J)) rfl rfl rfl ?_
    exact kk
  obtain ⟨r1, m11, e1, e⟩ := sh_bn_e e
  refine sh_Lk_cV (r := (some (.int r1))) (st2 := [.int r1]) (pc2 := 12) (k2 := 19) (a := 9) (as := [.ref 10, .int 0, .int 0, .int 0]) (rest := []) rfl rfl rfl (fun hT => hT.t9) rfl rfl ⟨Nat.le_of_ble_eq_true rfl, Nat.le_of_ble_eq_true rfl⟩ (sl_19 e1 ⟨rfl, rfl⟩) rfl rfl (Nat.le_of_ble_eq_true rfl) (Nat.le_of_ble_eq_true rfl) ?_
  refine sh_Lk_lift (T := m11.T) (I := m11.I) (J := m11.J) (s := m11.s) (pc2 := 17) (lv2 := [(0, .ref 10)]) (st2 := [.int 0, .int 0, .int 0, .ref 10]) (I2 := m11.I) (J2 := m11.J) (fun hT v kk => ?_) ?_
  · refine sh_w (i := .pop) (len := 1) (pc2 := 13) (lv2 := [(0, .ref 10)]) (st2 := []) (h2 := (sh_rep m11.T m11.I m11.J)) rfl rfl rfl ?_
    refine sh_w (i := (.aload_n 0)) (len := 1) (pc2 := 14) (lv2 := [(0, .ref 10)]) (st2 := [.ref 10]) (h2 := (sh_rep m11.T m11.I m11.J)) rfl rfl rfl ?_
    refine sh_w (i := (.iconst 0)) (len := 1) (pc2 := 15) (lv2 := [(0, .ref 10)]) (st2 := [.int 0, .ref 10]) (h2 := (sh_rep m11.T m11.I m11.J)) rfl rfl rfl ?_
    refine sh_w (i := (.iconst 0)) (len := 1) (pc2 := 16) (lv2 := [(0, .ref 10)]) (st2 := [.int 0, .int 0, .ref 10]) (h2 := (sh_rep m11.T m11.I m11.J)) rfl rfl rfl ?_
    refine sh_w (i := (.iconst 0)) (len := 1) (pc2 := 17) (lv2 := [(0, .ref 10)]) (st2 := [.int 0, .int 0, .int 0, .ref 10]) (h2 := (sh_rep m11.T m11.I m11.J)) rfl rfl rfl ?_
    exact kk
  obtain ⟨r2, m12, e2, e⟩ := sh_bn_e e
  refine sh_Lk_cV (r := (some (.int r2))) (st2 := [.int r2]) (pc2 := 20) (k2 := 19) (a := 9) (as := [.ref 10, .int 0, .int 0, .int 0]) (rest := []) rfl rfl rfl (fun hT => hT.t9) rfl rfl ⟨Nat.le_of_ble_eq_true rfl, Nat.le_of_ble_eq_true rfl⟩ (sl_19 e2 ⟨rfl, rfl⟩) rfl rfl (Nat.le_of_ble_eq_true rfl) (Nat.le_of_ble_eq_true rfl) ?_
  refine sh_Lk_lift (T := m12.T) (I := m12.I) (J := m12.J) (s := m12.s) (pc2 := 21) (lv2 := [(0, .ref 10)]) (st2 := []) (I2 := m12.I) (J2 := m12.J) (fun hT v kk => ?_) ?_
  · refine sh_w (i := .pop) (len := 1) (pc2 := 21) (lv2 := [(0, .ref 10)]) (st2 := []) (h2 := (sh_rep m12.T m12.I m12.J)) rfl rfl rfl ?_
    exact kk
  obtain rfl := Option.some.inj e
  obtain ⟨rfl, rfl⟩ := tg
  exact sh_Lk_ret (i := .return_) rfl rfl rfl (Nat.le_of_ble_eq_true rfl) (Nat.le_of_ble_eq_true rfl)
theorem sl_23 {x0 : Nat} {m m2 : sh_X} {o : Outcome} {z : (Unit × sh_X)} (hx0 : sh_isE x0) (e : sf_23 x0 m = some z) (tg : (sh_tV o m2) z) : sh_Lk 23 0 [(0, .ref (x0 + 1))] [] m o m2 8 200 := by
  unfold sf_23 at e
  rcases hx0 with rfl | rfl | rfl
  · refine sh_Lk_lift (T := m.T) (I := m.I) (J := m.J) (s := m.s) (pc2 := 10) (lv2 := [(0, .ref 14)]) (st2 := []) (I2 := sh_u2 (sh_u2 m.I 13 4 0) 13 5 0) (J2 := m.J) (fun hT v kk => ?_) ?_
    · refine sh_w (i := (.aload_n 0)) (len := 1) (pc2 := 1) (lv2 := [(0, .ref 14)]) (st2 := [.ref 14]) (h2 := (sh_rep m.T m.I m.J)) rfl rfl rfl ?_
      refine sh_w (i := (.iconst 0)) (len := 1) (pc2 := 2) (lv2 := [(0, .ref 14)]) (st2 := [.int 0, .ref 14]) (h2 := (sh_rep m.T m.I m.J)) rfl rfl rfl ?_
      refine sh_pI1 (x := 0) (pc2 := 5) rfl rfl (sh_s13 hT.st) rfl rfl rfl rfl ?_
      refine sh_w (i := (.aload_n 0)) (len := 1) (pc2 := 6) (lv2 := [(0, .ref 14)]) (st2 := [.ref 14]) (h2 := (sh_rep m.T (sh_u2 m.I 13 4 0) m.J)) rfl rfl rfl ?_
      refine sh_w (i := (.iconst 0)) (len := 1) (pc2 := 7) (lv2 := [(0, .ref 14)]) (st2 := [.int 0, .ref 14]) (h2 := (sh_rep m.T (sh_u2 m.I 13 4 0) m.J)) rfl rfl rfl ?_
      refine sh_pI1 (x := 0) (pc2 := 10) rfl rfl (sh_s13 hT.st) rfl rfl rfl rfl ?_
      exact kk
    obtain rfl := Option.some.inj e
    obtain ⟨rfl, rfl⟩ := tg
    exact sh_Lk_ret (i := .return_) rfl rfl rfl (Nat.le_of_ble_eq_true rfl) (Nat.le_of_ble_eq_true rfl)
  · refine sh_Lk_lift (T := m.T) (I := m.I) (J := m.J) (s := m.s) (pc2 := 10) (lv2 := [(0, .ref 19)]) (st2 := []) (I2 := sh_u2 (sh_u2 m.I 18 4 0) 18 5 0) (J2 := m.J) (fun hT v kk => ?_) ?_
    · refine sh_w (i := (.aload_n 0)) (len := 1) (pc2 := 1) (lv2 := [(0, .ref 19)]) (st2 := [.ref 19]) (h2 := (sh_rep m.T m.I m.J)) rfl rfl rfl ?_
      refine sh_w (i := (.iconst 0)) (len := 1) (pc2 := 2) (lv2 := [(0, .ref 19)]) (st2 := [.int 0, .ref 19]) (h2 := (sh_rep m.T m.I m.J)) rfl rfl rfl ?_
      refine sh_pI1 (x := 0) (pc2 := 5) rfl rfl (sh_s18 hT.st) rfl rfl rfl rfl ?_
      refine sh_w (i := (.aload_n 0)) (len := 1) (pc2 := 6) (lv2 := [(0, .ref 19)]) (st2 := [.ref 19]) (h2 := (sh_rep m.T (sh_u2 m.I 18 4 0) m.J)) rfl rfl rfl ?_
      refine sh_w (i := (.iconst 0)) (len := 1) (pc2 := 7) (lv2 := [(0, .ref 19)]) (st2 := [.int 0, .ref 19]) (h2 := (sh_rep m.T (sh_u2 m.I 18 4 0) m.J)) rfl rfl rfl ?_
      refine sh_pI1 (x := 0) (pc2 := 10) rfl rfl (sh_s18 hT.st) rfl rfl rfl rfl ?_
      exact kk
    obtain rfl := Option.some.inj e
    obtain ⟨rfl, rfl⟩ := tg
    exact sh_Lk_ret (i := .return_) rfl rfl rfl (Nat.le_of_ble_eq_true rfl) (Nat.le_of_ble_eq_true rfl)
  · refine sh_Lk_lift (T := m.T) (I := m.I) (J := m.J) (s := m.s) (pc2 := 10) (lv2 := [(0, .ref 24)]) (st2 := []) (I2 := sh_u2 (sh_u2 m.I 23 4 0) 23 5 0) (J2 := m.J) (fun hT v kk => ?_) ?_
    · refine sh_w (i := (.aload_n 0)) (len := 1) (pc2 := 1) (lv2 := [(0, .ref 24)]) (st2 := [.ref 24]) (h2 := (sh_rep m.T m.I m.J)) rfl rfl rfl ?_
      refine sh_w (i := (.iconst 0)) (len := 1) (pc2 := 2) (lv2 := [(0, .ref 24)]) (st2 := [.int 0, .ref 24]) (h2 := (sh_rep m.T m.I m.J)) rfl rfl rfl ?_
      refine sh_pI1 (x := 0) (pc2 := 5) rfl rfl (sh_s23 hT.st) rfl rfl rfl rfl ?_
      refine sh_w (i := (.aload_n 0)) (len := 1) (pc2 := 6) (lv2 := [(0, .ref 24)]) (st2 := [.ref 24]) (h2 := (sh_rep m.T (sh_u2 m.I 23 4 0) m.J)) rfl rfl rfl ?_
      refine sh_w (i := (.iconst 0)) (len := 1) (pc2 := 7) (lv2 := [(0, .ref 24)]) (st2 := [.int 0, .ref 24]) (h2 := (sh_rep m.T (sh_u2 m.I 23 4 0) m.J)) rfl rfl rfl ?_
      refine sh_pI1 (x := 0) (pc2 := 10) rfl rfl (sh_s23 hT.st) rfl rfl rfl rfl ?_
      exact kk
    obtain rfl := Option.some.inj e
    obtain ⟨rfl, rfl⟩ := tg
    exact sh_Lk_ret (i := .return_) rfl rfl rfl (Nat.le_of_ble_eq_true rfl) (Nat.le_of_ble_eq_true rfl)
theorem sl_17 {m m2 : sh_X} {o : Outcome} {z : (Unit × sh_X)} (e : sf_17 m = some z) (tg : (sh_tV o m2) z) : sh_Lk 17 0 [(0, .ref 1)] [] m o m2 12 286 := by
  unfold sf_17 at e
  refine sh_Lk_lift (T := m.T) (I := m.I) (J := m.J) (s := m.s) (pc2 := 29) (lv2 := [(0, .ref 1)]) (st2 := [.ref 10]) (I2 := sh_u2 (sh_u2 (sh_u2 (sh_u2 m.I 0 11 ((m.I 0 11) + 1)) 0 13 0) 0 14 0) 0 12 (-1)) (J2 := m.J) (fun hT v kk => ?_) ?_
  · refine sh_w (i := (.aload_n 0)) (len := 1) (pc2 := 1) (lv2 := [(0, .ref 1)]) (st2 := [.ref 1]) (h2 := (sh_rep m.T m.I m.J)) rfl rfl rfl ?_
    refine sh_w (i := .dup) (len := 1) (pc2 := 2) (lv2 := [(0, .ref 1)]) (st2 := [.ref 1, .ref 1]) (h2 := (sh_rep m.T m.I m.J)) rfl rfl rfl ?_
    refine sh_gI1 (len := 3) (x := m.I 0 11) (pc2 := 5) rfl rfl (sh_s0 hT.st) rfl rfl rfl ?_
    refine sh_w (i := (.iconst 1)) (len := 1) (pc2 := 6) (lv2 := [(0, .ref 1)]) (st2 := [.int 1, .int (m.I 0 11), .ref 1]) (h2 := (sh_rep m.T m.I m.J)) rfl rfl rfl ?_
    refine sh_w (i := .iadd) (len := 1) (pc2 := 7) (lv2 := [(0, .ref 1)]) (st2 := [.int ((m.I 0 11) + 1), .ref 1]) (h2 := (sh_rep m.T m.I m.J)) rfl rfl rfl ?_
    refine sh_pI1 (x := (m.I 0 11) + 1) (pc2 := 10) rfl rfl (sh_s0 hT.st) rfl rfl rfl rfl ?_
    refine sh_w (i := (.aload_n 0)) (len := 1) (pc2 := 11) (lv2 := [(0, .ref 1)]) (st2 := [.ref 1]) (h2 := (sh_rep m.T (sh_u2 m.I 0 11 ((m.I 0 11) + 1)) m.J)) rfl rfl rfl ?_
    refine sh_w (i := (.iconst 0)) (len := 1) (pc2 := 12) (lv2 := [(0, .ref 1)]) (st2 := [.int 0, .ref 1]) (h2 := (sh_rep m.T (sh_u2 m.I 0 11 ((m.I 0 11) + 1)) m.J)) rfl rfl rfl ?_
    refine sh_pI1 (x := 0) (pc2 := 15) rfl rfl (sh_s0 hT.st) rfl rfl rfl rfl ?_
    refine sh_w (i := (.aload_n 0)) (len := 1) (pc2 := 16) (lv2 := [(0, .ref 1)]) (st2 := [.ref 1]) (h2 := (sh_rep m.T (sh_u2 (sh_u2 m.I 0 11 ((m.I 0 11) + 1)) 0 13 0) m.J)) rfl rfl rfl ?_
    refine sh_w (i := (.iconst 0)) (len := 1) (pc2 := 17) (lv2 := [(0, .ref 1)]) (st2 := [.int 0, .ref 1]) (h2 := (sh_rep m.T (sh_u2 (sh_u2 m.I 0 11 ((m.I 0 11) + 1)) 0 13 0) m.J)) rfl rfl rfl ?_
    refine sh_pI1 (x := 0) (pc2 := 20) rfl rfl (sh_s0 hT.st) rfl rfl rfl rfl ?_
    refine sh_w (i := (.aload_n 0)) (len := 1) (pc2 := 21) (lv2 := [(0, .ref 1)]) (st2 := [.ref 1]) (h2 := (sh_rep m.T (sh_u2 (sh_u2 (sh_u2 m.I 0 11 ((m.I 0 11) + 1)) 0 13 0) 0 14 0) m.J)) rfl rfl rfl ?_
    refine sh_w (i := (.iconst (-1))) (len := 1) (pc2 := 22) (lv2 := [(0, .ref 1)]) (st2 := [.int (-1), .ref 1]) (h2 := (sh_rep m.T (sh_u2 (sh_u2 (sh_u2 m.I 0 11 ((m.I 0 11) + 1)) 0 13 0) 0 14 0) m.J)) rfl rfl rfl ?_
    refine sh_pI1 (x := (-1)) (pc2 := 25) rfl rfl (sh_s0 hT.st) rfl rfl rfl rfl ?_
    refine sh_w (i := (.aload_n 0)) (len := 1) (pc2 := 26) (lv2 := [(0, .ref 1)]) (st2 := [.ref 1]) (h2 := (sh_rep m.T (sh_u2 (sh_u2 (sh_u2 (sh_u2 m.I 0 11 ((m.I 0 11) + 1)) 0 13 0) 0 14 0) 0 12 (-1)) m.J)) rfl rfl rfl ?_
    refine sh_gR1 (len := 3) (x := .ref 10) (pc2 := 29) rfl rfl (sh_s0 hT.st) rfl rfl ?_
    exact kk
  obtain ⟨r1, m11, e1, e⟩ := sh_bn_e e
  refine sh_Lk_cV (r := none) (st2 := []) (pc2 := 32) (k2 := 18) (a := 9) (as := [.ref 10]) (rest := []) rfl rfl rfl (fun hT => hT.t9) rfl rfl ⟨Nat.le_of_ble_eq_true rfl, Nat.le_of_ble_eq_true rfl⟩ (sl_18 e1 ⟨rfl, rfl⟩) rfl rfl (Nat.le_of_ble_eq_true rfl) (Nat.le_of_ble_eq_true rfl) ?_
  refine sh_Lk_lift (T := m11.T) (I := m11.I) (J := m11.J) (s := m11.s) (pc2 := 36) (lv2 := [(0, .ref 1)]) (st2 := [.ref 14]) (I2 := m11.I) (J2 := m11.J) (fun hT v kk => ?_) ?_
  · refine sh_w (i := (.aload_n 0)) (len := 1) (pc2 := 33) (lv2 := [(0, .ref 1)]) (st2 := [.ref 1]) (h2 := (sh_rep m11.T m11.I m11.J)) rfl rfl rfl ?_
    refine sh_gR1 (len := 3) (x := .ref 14) (pc2 := 36) rfl rfl (sh_s0 hT.st) rfl rfl ?_
    exact kk
  obtain ⟨r2, m12, e2, e⟩ := sh_bn_e e
  refine sh_Lk_cV (r := none) (st2 := []) (pc2 := 39) (k2 := 23) (a := 13) (as := [.ref 14]) (rest := []) rfl rfl rfl (fun hT => (sh_s13 hT.st)) rfl rfl ⟨Nat.le_of_ble_eq_true rfl, Nat.le_of_ble_eq_true rfl⟩ (sl_23 (by decide) e2 ⟨rfl, rfl⟩) rfl rfl (Nat.le_of_ble_eq_true rfl) (Nat.le_of_ble_eq_true rfl) ?_
  refine sh_Lk_lift (T := m12.T) (I := m12.I) (J := m12.J) (s := m12.s) (pc2 := 43) (lv2 := [(0, .ref 1)]) (st2 := [.ref 19]) (I2 := m12.I) (J2 := m12.J) (fun hT v kk => ?_) ?_
  · refine sh_w (i := (.aload_n 0)) (len := 1) (pc2 := 40) (lv2 := [(0, .ref 1)]) (st2 := [.ref 1]) (h2 := (sh_rep m12.T m12.I m12.J)) rfl rfl rfl ?_
    refine sh_gR1 (len := 3) (x := .ref 19) (pc2 := 43) rfl rfl (sh_s0 hT.st) rfl rfl ?_
    exact kk
  obtain ⟨r3, m13, e3, e⟩ := sh_bn_e e
  refine sh_Lk_cV (r := none) (st2 := []) (pc2 := 46) (k2 := 23) (a := 18) (as := [.ref 19]) (rest := []) rfl rfl rfl (fun hT => (sh_s18 hT.st)) rfl rfl ⟨Nat.le_of_ble_eq_true rfl, Nat.le_of_ble_eq_true rfl⟩ (sl_23 (by decide) e3 ⟨rfl, rfl⟩) rfl rfl (Nat.le_of_ble_eq_true rfl) (Nat.le_of_ble_eq_true rfl) ?_
  refine sh_Lk_lift (T := m13.T) (I := m13.I) (J := m13.J) (s := m13.s) (pc2 := 50) (lv2 := [(0, .ref 1)]) (st2 := [.ref 24]) (I2 := m13.I) (J2 := m13.J) (fun hT v kk => ?_) ?_
  · refine sh_w (i := (.aload_n 0)) (len := 1) (pc2 := 47) (lv2 := [(0, .ref 1)]) (st2 := [.ref 1]) (h2 := (sh_rep m13.T m13.I m13.J)) rfl rfl rfl ?_
    refine sh_gR1 (len := 3) (x := .ref 24) (pc2 := 50) rfl rfl (sh_s0 hT.st) rfl rfl ?_
    exact kk
  obtain ⟨r4, m14, e4, e⟩ := sh_bn_e e
  refine sh_Lk_cV (r := none) (st2 := []) (pc2 := 53) (k2 := 23) (a := 23) (as := [.ref 24]) (rest := []) rfl rfl rfl (fun hT => (sh_s23 hT.st)) rfl rfl ⟨Nat.le_of_ble_eq_true rfl, Nat.le_of_ble_eq_true rfl⟩ (sl_23 (by decide) e4 ⟨rfl, rfl⟩) rfl rfl (Nat.le_of_ble_eq_true rfl) (Nat.le_of_ble_eq_true rfl) ?_
  obtain rfl := Option.some.inj e
  obtain ⟨rfl, rfl⟩ := tg
  exact sh_Lk_ret (i := .return_) rfl rfl rfl (Nat.le_of_ble_eq_true rfl) (Nat.le_of_ble_eq_true rfl)
theorem sl_26 {x1 : Int32} {m m2 : sh_X} {o : Outcome} {z : Int32} (e : sf_26 x1 m = some z) (tg : (sh_tIc m o m2) z) : sh_Lk 26 0 [(0, .ref 3), (1, .int x1)] [] m o m2 8 200 := by
  unfold sf_26 at e
  refine sh_Lk_lift (T := m.T) (I := m.I) (J := m.J) (s := m.s) (pc2 := 1) (lv2 := [(0, .ref 3), (1, .int x1)]) (st2 := [.int x1]) (I2 := m.I) (J2 := m.J) (fun hT v kk => ?_) ?_
  · refine sh_w (i := (.iload_n 1)) (len := 1) (pc2 := 1) (lv2 := [(0, .ref 3), (1, .int x1)]) (st2 := [.int x1]) (h2 := (sh_rep m.T m.I m.J)) rfl rfl rfl ?_
    exact kk
  rcases sh_ite e with ⟨c, e⟩ | ⟨c, e⟩
  · refine sh_Lk_lift (T := m.T) (I := m.I) (J := m.J) (s := m.s) (pc2 := 35) (lv2 := [(0, .ref 3), (1, .int x1)]) (st2 := [.int (-1)]) (I2 := m.I) (J2 := m.J) (fun hT v kk => ?_) ?_
    · refine sh_j0 (c := .lt) (off := (33)) (pc2 := 34) true rfl (sh_Bltt c) rfl ?_
      refine sh_w (i := (.iconst (-1))) (len := 1) (pc2 := 35) (lv2 := [(0, .ref 3), (1, .int x1)]) (st2 := [.int (-1)]) (h2 := (sh_rep m.T m.I m.J)) rfl rfl rfl ?_
      exact kk
    obtain rfl := Option.some.inj e
    obtain ⟨rfl, rfl⟩ := tg
    exact sh_Lk_ret (i := .ireturn) rfl rfl rfl (Nat.le_of_ble_eq_true rfl) (Nat.le_of_ble_eq_true rfl)
  · refine sh_Lk_lift (T := m.T) (I := m.I) (J := m.J) (s := m.s) (pc2 := 9) (lv2 := [(0, .ref 3), (1, .int x1)]) (st2 := [.int (m.I 2 6), .int x1]) (I2 := m.I) (J2 := m.J) (fun hT v kk => ?_) ?_
    · refine sh_j0 (c := .lt) (off := (33)) (pc2 := 4) false rfl (sh_Bltf c) rfl ?_
      refine sh_w (i := (.iload_n 1)) (len := 1) (pc2 := 5) (lv2 := [(0, .ref 3), (1, .int x1)]) (st2 := [.int x1]) (h2 := (sh_rep m.T m.I m.J)) rfl rfl rfl ?_
      refine sh_w (i := (.aload_n 0)) (len := 1) (pc2 := 6) (lv2 := [(0, .ref 3), (1, .int x1)]) (st2 := [.ref 3, .int x1]) (h2 := (sh_rep m.T m.I m.J)) rfl rfl rfl ?_
      refine sh_gI1 (len := 3) (x := m.I 2 6) (pc2 := 9) rfl rfl hT.t2 rfl rfl rfl ?_
      exact kk
    rcases sh_ite e with ⟨c, e⟩ | ⟨c, e⟩
    · refine sh_Lk_lift (T := m.T) (I := m.I) (J := m.J) (s := m.s) (pc2 := 18) (lv2 := [(0, .ref 3), (1, .int x1)]) (st2 := [.int (Int32.ofNat (sh_ln m.T (sh_rf m.T 2 5))), .int x1]) (I2 := m.I) (J2 := m.J) (fun hT v kk => ?_) ?_
      · refine sh_jc (c := .ge) (off := (25)) (pc2 := 12) false rfl (sh_Bgef c) rfl ?_
        refine sh_w (i := (.iload_n 1)) (len := 1) (pc2 := 13) (lv2 := [(0, .ref 3), (1, .int x1)]) (st2 := [.int x1]) (h2 := (sh_rep m.T m.I m.J)) rfl rfl rfl ?_
        refine sh_w (i := (.aload_n 0)) (len := 1) (pc2 := 14) (lv2 := [(0, .ref 3), (1, .int x1)]) (st2 := [.ref 3, .int x1]) (h2 := (sh_rep m.T m.I m.J)) rfl rfl rfl ?_
        refine sh_gR1 (len := 3) (x := .ref (sh_rf m.T 2 5 + 1)) (pc2 := 17) rfl rfl hT.t2 rfl rfl ?_
        refine sh_al1 (pc2 := 18) rfl hT.a2_5 (by decide) rfl ?_
        exact kk
      rcases sh_ite e with ⟨c, e⟩ | ⟨c, e⟩
      · refine sh_Lk_lift (T := m.T) (I := m.I) (J := m.J) (s := m.s) (pc2 := 26) (lv2 := [(0, .ref 3), (1, .int x1)]) (st2 := [.int x1, .ref ((sh_rf m.T 2 5) + 1)]) (I2 := m.I) (J2 := m.J) (fun hT v kk => ?_) ?_
        · refine sh_jc (c := .ge) (off := (16)) (pc2 := 21) false rfl (sh_Bgef c) rfl ?_
          refine sh_w (i := (.aload_n 0)) (len := 1) (pc2 := 22) (lv2 := [(0, .ref 3), (1, .int x1)]) (st2 := [.ref 3]) (h2 := (sh_rep m.T m.I m.J)) rfl rfl rfl ?_
          refine sh_gR1 (len := 3) (x := .ref (sh_rf m.T 2 5 + 1)) (pc2 := 25) rfl rfl hT.t2 rfl rfl ?_
          refine sh_w (i := (.iload_n 1)) (len := 1) (pc2 := 26) (lv2 := [(0, .ref 3), (1, .int x1)]) (st2 := [.int x1, .ref ((sh_rf m.T 2 5) + 1)]) (h2 := (sh_rep m.T m.I m.J)) rfl rfl rfl ?_
          exact kk
        obtain ⟨c, e⟩ := sh_gd e
        refine sh_Lk_lift (T := m.T) (I := m.I) (J := m.J) (s := m.s) (pc2 := 35) (lv2 := [(0, .ref 3), (1, .int x1)]) (st2 := [.int ((m.I (sh_rf m.T 2 5) (Int32.toNatClampNeg x1)) &&& 255)]) (I2 := m.I) (J2 := m.J) (fun hT v kk => ?_) ?_
        · refine sh_ba1 (x := m.I (sh_rf m.T 2 5) (Int32.toNatClampNeg x1)) (pc2 := 27) rfl hT.a2_5 (Or.inl rfl) (sh_okb1 c) (sh_okb2 c) rfl rfl ?_
          refine sh_w (i := (.sipush 255)) (len := 3) (pc2 := 30) (lv2 := [(0, .ref 3), (1, .int x1)]) (st2 := [.int 255, .int (m.I (sh_rf m.T 2 5) (Int32.toNatClampNeg x1))]) (h2 := (sh_rep m.T m.I m.J)) rfl rfl rfl ?_
          refine sh_w (i := .iand) (len := 1) (pc2 := 31) (lv2 := [(0, .ref 3), (1, .int x1)]) (st2 := [.int ((m.I (sh_rf m.T 2 5) (Int32.toNatClampNeg x1)) &&& 255)]) (h2 := (sh_rep m.T m.I m.J)) rfl rfl rfl ?_
          refine sh_w (i := (.goto 4)) (len := 3) (pc2 := 35) (lv2 := [(0, .ref 3), (1, .int x1)]) (st2 := [.int ((m.I (sh_rf m.T 2 5) (Int32.toNatClampNeg x1)) &&& 255)]) (h2 := (sh_rep m.T m.I m.J)) rfl rfl rfl ?_
          exact kk
        obtain rfl := Option.some.inj e
        obtain ⟨rfl, rfl⟩ := tg
        exact sh_Lk_ret (i := .ireturn) rfl rfl rfl (Nat.le_of_ble_eq_true rfl) (Nat.le_of_ble_eq_true rfl)
      · refine sh_Lk_lift (T := m.T) (I := m.I) (J := m.J) (s := m.s) (pc2 := 35) (lv2 := [(0, .ref 3), (1, .int x1)]) (st2 := [.int (-1)]) (I2 := m.I) (J2 := m.J) (fun hT v kk => ?_) ?_
        · refine sh_jc (c := .ge) (off := (16)) (pc2 := 34) true rfl (sh_Bget c) rfl ?_
          refine sh_w (i := (.iconst (-1))) (len := 1) (pc2 := 35) (lv2 := [(0, .ref 3), (1, .int x1)]) (st2 := [.int (-1)]) (h2 := (sh_rep m.T m.I m.J)) rfl rfl rfl ?_
          exact kk
        obtain rfl := Option.some.inj e
        obtain ⟨rfl, rfl⟩ := tg
        exact sh_Lk_ret (i := .ireturn) rfl rfl rfl (Nat.le_of_ble_eq_true rfl) (Nat.le_of_ble_eq_true rfl)
    · refine sh_Lk_lift (T := m.T) (I := m.I) (J := m.J) (s := m.s) (pc2 := 35) (lv2 := [(0, .ref 3), (1, .int x1)]) (st2 := [.int (-1)]) (I2 := m.I) (J2 := m.J) (fun hT v kk => ?_) ?_
      · refine sh_jc (c := .ge) (off := (25)) (pc2 := 34) true rfl (sh_Bget c) rfl ?_
        refine sh_w (i := (.iconst (-1))) (len := 1) (pc2 := 35) (lv2 := [(0, .ref 3), (1, .int x1)]) (st2 := [.int (-1)]) (h2 := (sh_rep m.T m.I m.J)) rfl rfl rfl ?_
        exact kk
      obtain rfl := Option.some.inj e
      obtain ⟨rfl, rfl⟩ := tg
      exact sh_Lk_ret (i := .ireturn) rfl rfl rfl (Nat.le_of_ble_eq_true rfl) (Nat.le_of_ble_eq_true rfl)
theorem sl_27_2s {x2 : Int32} {m m2 : sh_X} {o : Outcome} {z : (Int32 ⊕ Int32)} (e : sf_27_2s x2 m = some z) (tg : (sh_el (fun q => sh_Lk 27 2 [(0, .ref 3), (2, .int q)] [] m o m2 9 221) (sh_tIc m o m2)) z) : sh_Lk 27 2 [(0, .ref 3), (2, .int x2)] [] m o m2 9 221 := by
  unfold sf_27_2s at e
  refine sh_Lk_lift (T := m.T) (I := m.I) (J := m.J) (s := m.s) (pc2 := 7) (lv2 := [(0, .ref 3), (2, .int x2)]) (st2 := [.int (m.I 2 6), .int x2]) (I2 := m.I) (J2 := m.J) (fun hT v kk => ?_) ?_
  · refine sh_w (i := (.iload_n 2)) (len := 1) (pc2 := 3) (lv2 := [(0, .ref 3), (2, .int x2)]) (st2 := [.int x2]) (h2 := (sh_rep m.T m.I m.J)) rfl rfl rfl ?_
    refine sh_w (i := (.aload_n 0)) (len := 1) (pc2 := 4) (lv2 := [(0, .ref 3), (2, .int x2)]) (st2 := [.ref 3, .int x2]) (h2 := (sh_rep m.T m.I m.J)) rfl rfl rfl ?_
    refine sh_gI1 (len := 3) (x := m.I 2 6) (pc2 := 7) rfl rfl hT.t2 rfl rfl rfl ?_
    exact kk
  rcases sh_ite e with ⟨c, e⟩ | ⟨c, e⟩
  · refine sh_Lk_lift (T := m.T) (I := m.I) (J := m.J) (s := m.s) (pc2 := 12) (lv2 := [(0, .ref 3), (2, .int x2)]) (st2 := [.int x2, .ref 3]) (I2 := m.I) (J2 := m.J) (fun hT v kk => ?_) ?_
    · refine sh_jc (c := .ge) (off := (19)) (pc2 := 10) false rfl (sh_Bgef c) rfl ?_
      refine sh_w (i := (.aload_n 0)) (len := 1) (pc2 := 11) (lv2 := [(0, .ref 3), (2, .int x2)]) (st2 := [.ref 3]) (h2 := (sh_rep m.T m.I m.J)) rfl rfl rfl ?_
      refine sh_w (i := (.iload_n 2)) (len := 1) (pc2 := 12) (lv2 := [(0, .ref 3), (2, .int x2)]) (st2 := [.int x2, .ref 3]) (h2 := (sh_rep m.T m.I m.J)) rfl rfl rfl ?_
      exact kk
    obtain ⟨r1, e1, e⟩ := sh_bc_e e
    refine sh_Lk_cV (r := (some (.int r1))) (st2 := [.int r1]) (pc2 := 15) (k2 := 26) (a := 2) (as := [.ref 3, .int x2]) (rest := []) rfl rfl rfl (fun hT => hT.t2) rfl rfl ⟨Nat.le_of_ble_eq_true rfl, Nat.le_of_ble_eq_true rfl⟩ (sl_26 e1 ⟨rfl, rfl⟩) rfl rfl (Nat.le_of_ble_eq_true rfl) (Nat.le_of_ble_eq_true rfl) ?_
    refine sh_Lk_lift (T := m.T) (I := m.I) (J := m.J) (s := m.s) (pc2 := 17) (lv2 := [(0, .ref 3), (2, .int x2)]) (st2 := [.int 10, .int r1]) (I2 := m.I) (J2 := m.J) (fun hT v kk => ?_) ?_
    · refine sh_w (i := (.bipush 10)) (len := 2) (pc2 := 17) (lv2 := [(0, .ref 3), (2, .int x2)]) (st2 := [.int 10, .int r1]) (h2 := (sh_rep m.T m.I m.J)) rfl rfl rfl ?_
      exact kk
    rcases sh_ite e with ⟨c, e⟩ | ⟨c, e⟩
    · refine sh_Lk_lift (T := m.T) (I := m.I) (J := m.J) (s := m.s) (pc2 := 27) (lv2 := [(0, .ref 3), (2, .int x2)]) (st2 := [.int x2]) (I2 := m.I) (J2 := m.J) (fun hT v kk => ?_) ?_
      · refine sh_jc (c := .eq) (off := (9)) (pc2 := 26) true rfl (sh_Beqt c) rfl ?_
        refine sh_w (i := (.iload_n 2)) (len := 1) (pc2 := 27) (lv2 := [(0, .ref 3), (2, .int x2)]) (st2 := [.int x2]) (h2 := (sh_rep m.T m.I m.J)) rfl rfl rfl ?_
        exact kk
      obtain rfl := Option.some.inj e
      obtain ⟨rfl, rfl⟩ := tg
      exact sh_Lk_ret (i := .ireturn) rfl rfl rfl (Nat.le_of_ble_eq_true rfl) (Nat.le_of_ble_eq_true rfl)
    · refine sh_Lk_lift (T := m.T) (I := m.I) (J := m.J) (s := m.s) (pc2 := 2) (lv2 := [(2, .int (x2 + 1)), (0, .ref 3)]) (st2 := []) (I2 := m.I) (J2 := m.J) (fun hT v kk => ?_) ?_
      · refine sh_jc (c := .eq) (off := (9)) (pc2 := 20) false rfl (sh_Beqf c) rfl ?_
        refine sh_w (i := (.iinc 2 1)) (len := 3) (pc2 := 23) (lv2 := [(2, .int (x2 + 1)), (0, .ref 3)]) (st2 := []) (h2 := (sh_rep m.T m.I m.J)) rfl rfl rfl ?_
        refine sh_w (i := (.goto (-21))) (len := 3) (pc2 := 2) (lv2 := [(2, .int (x2 + 1)), (0, .ref 3)]) (st2 := []) (h2 := (sh_rep m.T m.I m.J)) rfl rfl rfl ?_
        exact kk
      obtain rfl := Option.some.inj e
      exact sh_Lk_sub (sh_sub_c rfl (sh_sub_c rfl (sh_sub_n))) tg
  · refine sh_Lk_lift (T := m.T) (I := m.I) (J := m.J) (s := m.s) (pc2 := 27) (lv2 := [(0, .ref 3), (2, .int x2)]) (st2 := [.int x2]) (I2 := m.I) (J2 := m.J) (fun hT v kk => ?_) ?_
    · refine sh_jc (c := .ge) (off := (19)) (pc2 := 26) true rfl (sh_Bget c) rfl ?_
      refine sh_w (i := (.iload_n 2)) (len := 1) (pc2 := 27) (lv2 := [(0, .ref 3), (2, .int x2)]) (st2 := [.int x2]) (h2 := (sh_rep m.T m.I m.J)) rfl rfl rfl ?_
      exact kk
    obtain rfl := Option.some.inj e
    obtain ⟨rfl, rfl⟩ := tg
    exact sh_Lk_ret (i := .ireturn) rfl rfl rfl (Nat.le_of_ble_eq_true rfl) (Nat.le_of_ble_eq_true rfl)
theorem sl_27_2 {x2 : Int32} {m m2 : sh_X} {o : Outcome} {z : Int32} (e : sf_27_2 x2 m = some z) (tg : (sh_tIc m o m2) z) : sh_Lk 27 2 [(0, .ref 3), (2, .int x2)] [] m o m2 9 221 := by
  unfold sf_27_2 at e
  exact sh_while_lk (P := fun q => sh_Lk 27 2 [(0, .ref 3), (2, .int q)] [] m o m2 9 221) (Q := (sh_tIc m o m2)) (fun q z e tg => sl_27_2s (x2 := q) (m := m) e tg) (s := x2) e tg
theorem sl_27 {x1 : Int32} {m m2 : sh_X} {o : Outcome} {z : Int32} (e : sf_27 x1 m = some z) (tg : (sh_tIc m o m2) z) : sh_Lk 27 0 [(0, .ref 3), (1, .int x1)] [] m o m2 9 221 := by
  unfold sf_27 at e
  refine sh_Lk_lift (T := m.T) (I := m.I) (J := m.J) (s := m.s) (pc2 := 2) (lv2 := [(2, .int x1), (0, .ref 3), (1, .int x1)]) (st2 := []) (I2 := m.I) (J2 := m.J) (fun hT v kk => ?_) ?_
  · refine sh_w (i := (.iload_n 1)) (len := 1) (pc2 := 1) (lv2 := [(0, .ref 3), (1, .int x1)]) (st2 := [.int x1]) (h2 := (sh_rep m.T m.I m.J)) rfl rfl rfl ?_
    refine sh_w (i := (.istore_n 2)) (len := 1) (pc2 := 2) (lv2 := [(2, .int x1), (0, .ref 3), (1, .int x1)]) (st2 := []) (h2 := (sh_rep m.T m.I m.J)) rfl rfl rfl ?_
    exact kk
  exact sh_Lk_sub (sh_sub_c rfl (sh_sub_c rfl (sh_sub_n))) (sl_27_2 e tg)
theorem sl_28_24 {m m2 : sh_X} {o : Outcome} {z : Bool} (e : sf_28_24 = z) (tg : (sh_tZc m o m2) z) : sh_Lk 28 24 [] [] m o m2 8 200 := by
  unfold sf_28_24 at e
  refine sh_Lk_lift (T := m.T) (I := m.I) (J := m.J) (s := m.s) (pc2 := 29) (lv2 := []) (st2 := [.int 1]) (I2 := m.I) (J2 := m.J) (fun hT v kk => ?_) ?_
  · refine sh_w (i := (.iconst 1)) (len := 1) (pc2 := 25) (lv2 := []) (st2 := [.int 1]) (h2 := (sh_rep m.T m.I m.J)) rfl rfl rfl ?_
    refine sh_w (i := (.goto 4)) (len := 3) (pc2 := 29) (lv2 := []) (st2 := [.int 1]) (h2 := (sh_rep m.T m.I m.J)) rfl rfl rfl ?_
    exact kk
  obtain rfl := e
  obtain ⟨rfl, rfl⟩ := tg
  exact sh_Lk_ret (i := .ireturn) rfl rfl rfl (Nat.le_of_ble_eq_true rfl) (Nat.le_of_ble_eq_true rfl)
theorem sl_28_12 {x0 : Int32} {m m2 : sh_X} {o : Outcome} {z : Bool} (e : sf_28_12 x0 = z) (tg : (sh_tZc m o m2) z) : sh_Lk 28 12 [(0, .int x0)] [] m o m2 8 200 := by
  unfold sf_28_12 at e
  refine sh_Lk_lift (T := m.T) (I := m.I) (J := m.J) (s := m.s) (pc2 := 15) (lv2 := [(0, .int x0)]) (st2 := [.int 65, .int x0]) (I2 := m.I) (J2 := m.J) (fun hT v kk => ?_) ?_
  · refine sh_w (i := (.iload_n 0)) (len := 1) (pc2 := 13) (lv2 := [(0, .int x0)]) (st2 := [.int x0]) (h2 := (sh_rep m.T m.I m.J)) rfl rfl rfl ?_
    refine sh_w (i := (.bipush 65)) (len := 2) (pc2 := 15) (lv2 := [(0, .int x0)]) (st2 := [.int 65, .int x0]) (h2 := (sh_rep m.T m.I m.J)) rfl rfl rfl ?_
    exact kk
  rcases sh_ite e with ⟨c, e⟩ | ⟨c, e⟩
  · refine sh_Lk_lift (T := m.T) (I := m.I) (J := m.J) (s := m.s) (pc2 := 29) (lv2 := [(0, .int x0)]) (st2 := [.int 0]) (I2 := m.I) (J2 := m.J) (fun hT v kk => ?_) ?_
    · refine sh_jc (c := .lt) (off := (13)) (pc2 := 28) true rfl (sh_Bltt c) rfl ?_
      refine sh_w (i := (.iconst 0)) (len := 1) (pc2 := 29) (lv2 := [(0, .int x0)]) (st2 := [.int 0]) (h2 := (sh_rep m.T m.I m.J)) rfl rfl rfl ?_
      exact kk
    obtain rfl := e
    obtain ⟨rfl, rfl⟩ := tg
    exact sh_Lk_ret (i := .ireturn) rfl rfl rfl (Nat.le_of_ble_eq_true rfl) (Nat.le_of_ble_eq_true rfl)
  · refine sh_Lk_lift (T := m.T) (I := m.I) (J := m.J) (s := m.s) (pc2 := 21) (lv2 := [(0, .int x0)]) (st2 := [.int 90, .int x0]) (I2 := m.I) (J2 := m.J) (fun hT v kk => ?_) ?_
    · refine sh_jc (c := .lt) (off := (13)) (pc2 := 18) false rfl (sh_Bltf c) rfl ?_
      refine sh_w (i := (.iload_n 0)) (len := 1) (pc2 := 19) (lv2 := [(0, .int x0)]) (st2 := [.int x0]) (h2 := (sh_rep m.T m.I m.J)) rfl rfl rfl ?_
      refine sh_w (i := (.bipush 90)) (len := 2) (pc2 := 21) (lv2 := [(0, .int x0)]) (st2 := [.int 90, .int x0]) (h2 := (sh_rep m.T m.I m.J)) rfl rfl rfl ?_
      exact kk
    rcases sh_ite e with ⟨c, e⟩ | ⟨c, e⟩
    · refine sh_Lk_lift (T := m.T) (I := m.I) (J := m.J) (s := m.s) (pc2 := 29) (lv2 := [(0, .int x0)]) (st2 := [.int 0]) (I2 := m.I) (J2 := m.J) (fun hT v kk => ?_) ?_
      · refine sh_jc (c := .gt) (off := (7)) (pc2 := 28) true rfl (sh_Bgtt c) rfl ?_
        refine sh_w (i := (.iconst 0)) (len := 1) (pc2 := 29) (lv2 := [(0, .int x0)]) (st2 := [.int 0]) (h2 := (sh_rep m.T m.I m.J)) rfl rfl rfl ?_
        exact kk
      obtain rfl := e
      obtain ⟨rfl, rfl⟩ := tg
      exact sh_Lk_ret (i := .ireturn) rfl rfl rfl (Nat.le_of_ble_eq_true rfl) (Nat.le_of_ble_eq_true rfl)
    · refine sh_Lk_lift (T := m.T) (I := m.I) (J := m.J) (s := m.s) (pc2 := 24) (lv2 := [(0, .int x0)]) (st2 := []) (I2 := m.I) (J2 := m.J) (fun hT v kk => ?_) ?_
      · refine sh_jc (c := .gt) (off := (7)) (pc2 := 24) false rfl (sh_Bgtf c) rfl ?_
        exact kk
      exact sh_Lk_sub (sh_sub_n) (sl_28_24 e tg)
theorem sl_28 {x0 : Int32} {m m2 : sh_X} {o : Outcome} {z : Bool} (e : sf_28 x0 = z) (tg : (sh_tZc m o m2) z) : sh_Lk 28 0 [(0, .int x0)] [] m o m2 8 200 := by
  unfold sf_28 at e
  refine sh_Lk_lift (T := m.T) (I := m.I) (J := m.J) (s := m.s) (pc2 := 3) (lv2 := [(0, .int x0)]) (st2 := [.int 97, .int x0]) (I2 := m.I) (J2 := m.J) (fun hT v kk => ?_) ?_
  · refine sh_w (i := (.iload_n 0)) (len := 1) (pc2 := 1) (lv2 := [(0, .int x0)]) (st2 := [.int x0]) (h2 := (sh_rep m.T m.I m.J)) rfl rfl rfl ?_
    refine sh_w (i := (.bipush 97)) (len := 2) (pc2 := 3) (lv2 := [(0, .int x0)]) (st2 := [.int 97, .int x0]) (h2 := (sh_rep m.T m.I m.J)) rfl rfl rfl ?_
    exact kk
  rcases sh_ite e with ⟨c, e⟩ | ⟨c, e⟩
  · refine sh_Lk_lift (T := m.T) (I := m.I) (J := m.J) (s := m.s) (pc2 := 12) (lv2 := [(0, .int x0)]) (st2 := []) (I2 := m.I) (J2 := m.J) (fun hT v kk => ?_) ?_
    · refine sh_jc (c := .lt) (off := (9)) (pc2 := 12) true rfl (sh_Bltt c) rfl ?_
      exact kk
    exact sh_Lk_sub (sh_sub_c rfl (sh_sub_n)) (sl_28_12 e tg)
  · refine sh_Lk_lift (T := m.T) (I := m.I) (J := m.J) (s := m.s) (pc2 := 9) (lv2 := [(0, .int x0)]) (st2 := [.int 122, .int x0]) (I2 := m.I) (J2 := m.J) (fun hT v kk => ?_) ?_
    · refine sh_jc (c := .lt) (off := (9)) (pc2 := 6) false rfl (sh_Bltf c) rfl ?_
      refine sh_w (i := (.iload_n 0)) (len := 1) (pc2 := 7) (lv2 := [(0, .int x0)]) (st2 := [.int x0]) (h2 := (sh_rep m.T m.I m.J)) rfl rfl rfl ?_
      refine sh_w (i := (.bipush 122)) (len := 2) (pc2 := 9) (lv2 := [(0, .int x0)]) (st2 := [.int 122, .int x0]) (h2 := (sh_rep m.T m.I m.J)) rfl rfl rfl ?_
      exact kk
    rcases sh_ite e with ⟨c, e⟩ | ⟨c, e⟩
    · refine sh_Lk_lift (T := m.T) (I := m.I) (J := m.J) (s := m.s) (pc2 := 12) (lv2 := [(0, .int x0)]) (st2 := []) (I2 := m.I) (J2 := m.J) (fun hT v kk => ?_) ?_
      · refine sh_jc (c := .le) (off := (15)) (pc2 := 12) false rfl (sh_Blef c) rfl ?_
        exact kk
      exact sh_Lk_sub (sh_sub_c rfl (sh_sub_n)) (sl_28_12 e tg)
    · refine sh_Lk_lift (T := m.T) (I := m.I) (J := m.J) (s := m.s) (pc2 := 24) (lv2 := [(0, .int x0)]) (st2 := []) (I2 := m.I) (J2 := m.J) (fun hT v kk => ?_) ?_
      · refine sh_jc (c := .le) (off := (15)) (pc2 := 24) true rfl (sh_Blet c) rfl ?_
        exact kk
      exact sh_Lk_sub (sh_sub_n) (sl_28_24 e tg)
theorem sl_31 {x0 : Int32} {m m2 : sh_X} {o : Outcome} {z : Bool} (e : sf_31 x0 = z) (tg : (sh_tZc m o m2) z) : sh_Lk 31 0 [(0, .int x0)] [] m o m2 8 200 := by
  unfold sf_31 at e
  refine sh_Lk_lift (T := m.T) (I := m.I) (J := m.J) (s := m.s) (pc2 := 3) (lv2 := [(0, .int x0)]) (st2 := [.int 48, .int x0]) (I2 := m.I) (J2 := m.J) (fun hT v kk => ?_) ?_
  · refine sh_w (i := (.iload_n 0)) (len := 1) (pc2 := 1) (lv2 := [(0, .int x0)]) (st2 := [.int x0]) (h2 := (sh_rep m.T m.I m.J)) rfl rfl rfl ?_
    refine sh_w (i := (.bipush 48)) (len := 2) (pc2 := 3) (lv2 := [(0, .int x0)]) (st2 := [.int 48, .int x0]) (h2 := (sh_rep m.T m.I m.J)) rfl rfl rfl ?_
    exact kk
  rcases sh_ite e with ⟨c, e⟩ | ⟨c, e⟩
  · refine sh_Lk_lift (T := m.T) (I := m.I) (J := m.J) (s := m.s) (pc2 := 17) (lv2 := [(0, .int x0)]) (st2 := [.int 0]) (I2 := m.I) (J2 := m.J) (fun hT v kk => ?_) ?_
    · refine sh_jc (c := .lt) (off := (13)) (pc2 := 16) true rfl (sh_Bltt c) rfl ?_
      refine sh_w (i := (.iconst 0)) (len := 1) (pc2 := 17) (lv2 := [(0, .int x0)]) (st2 := [.int 0]) (h2 := (sh_rep m.T m.I m.J)) rfl rfl rfl ?_
      exact kk
    obtain rfl := e
    obtain ⟨rfl, rfl⟩ := tg
    exact sh_Lk_ret (i := .ireturn) rfl rfl rfl (Nat.le_of_ble_eq_true rfl) (Nat.le_of_ble_eq_true rfl)
  · refine sh_Lk_lift (T := m.T) (I := m.I) (J := m.J) (s := m.s) (pc2 := 9) (lv2 := [(0, .int x0)]) (st2 := [.int 57, .int x0]) (I2 := m.I) (J2 := m.J) (fun hT v kk => ?_) ?_
    · refine sh_jc (c := .lt) (off := (13)) (pc2 := 6) false rfl (sh_Bltf c) rfl ?_
      refine sh_w (i := (.iload_n 0)) (len := 1) (pc2 := 7) (lv2 := [(0, .int x0)]) (st2 := [.int x0]) (h2 := (sh_rep m.T m.I m.J)) rfl rfl rfl ?_
      refine sh_w (i := (.bipush 57)) (len := 2) (pc2 := 9) (lv2 := [(0, .int x0)]) (st2 := [.int 57, .int x0]) (h2 := (sh_rep m.T m.I m.J)) rfl rfl rfl ?_
      exact kk
    rcases sh_ite e with ⟨c, e⟩ | ⟨c, e⟩
    · refine sh_Lk_lift (T := m.T) (I := m.I) (J := m.J) (s := m.s) (pc2 := 17) (lv2 := [(0, .int x0)]) (st2 := [.int 0]) (I2 := m.I) (J2 := m.J) (fun hT v kk => ?_) ?_
      · refine sh_jc (c := .gt) (off := (7)) (pc2 := 16) true rfl (sh_Bgtt c) rfl ?_
        refine sh_w (i := (.iconst 0)) (len := 1) (pc2 := 17) (lv2 := [(0, .int x0)]) (st2 := [.int 0]) (h2 := (sh_rep m.T m.I m.J)) rfl rfl rfl ?_
        exact kk
      obtain rfl := e
      obtain ⟨rfl, rfl⟩ := tg
      exact sh_Lk_ret (i := .ireturn) rfl rfl rfl (Nat.le_of_ble_eq_true rfl) (Nat.le_of_ble_eq_true rfl)
    · refine sh_Lk_lift (T := m.T) (I := m.I) (J := m.J) (s := m.s) (pc2 := 17) (lv2 := [(0, .int x0)]) (st2 := [.int 1]) (I2 := m.I) (J2 := m.J) (fun hT v kk => ?_) ?_
      · refine sh_jc (c := .gt) (off := (7)) (pc2 := 12) false rfl (sh_Bgtf c) rfl ?_
        refine sh_w (i := (.iconst 1)) (len := 1) (pc2 := 13) (lv2 := [(0, .int x0)]) (st2 := [.int 1]) (h2 := (sh_rep m.T m.I m.J)) rfl rfl rfl ?_
        refine sh_w (i := (.goto 4)) (len := 3) (pc2 := 17) (lv2 := [(0, .int x0)]) (st2 := [.int 1]) (h2 := (sh_rep m.T m.I m.J)) rfl rfl rfl ?_
        exact kk
      obtain rfl := e
      obtain ⟨rfl, rfl⟩ := tg
      exact sh_Lk_ret (i := .ireturn) rfl rfl rfl (Nat.le_of_ble_eq_true rfl) (Nat.le_of_ble_eq_true rfl)
theorem sl_30_20 {m m2 : sh_X} {o : Outcome} {z : Bool} (e : sf_30_20 = z) (tg : (sh_tZc m o m2) z) : sh_Lk 30 20 [] [] m o m2 9 220 := by
  unfold sf_30_20 at e
  refine sh_Lk_lift (T := m.T) (I := m.I) (J := m.J) (s := m.s) (pc2 := 25) (lv2 := []) (st2 := [.int 1]) (I2 := m.I) (J2 := m.J) (fun hT v kk => ?_) ?_
  · refine sh_w (i := (.iconst 1)) (len := 1) (pc2 := 21) (lv2 := []) (st2 := [.int 1]) (h2 := (sh_rep m.T m.I m.J)) rfl rfl rfl ?_
    refine sh_w (i := (.goto 4)) (len := 3) (pc2 := 25) (lv2 := []) (st2 := [.int 1]) (h2 := (sh_rep m.T m.I m.J)) rfl rfl rfl ?_
    exact kk
  obtain rfl := e
  obtain ⟨rfl, rfl⟩ := tg
  exact sh_Lk_ret (i := .ireturn) rfl rfl rfl (Nat.le_of_ble_eq_true rfl) (Nat.le_of_ble_eq_true rfl)
theorem sl_30 {x0 : Int32} {m m2 : sh_X} {o : Outcome} {z : Bool} (e : sf_30 x0 = z) (tg : (sh_tZc m o m2) z) : sh_Lk 30 0 [(0, .int x0)] [] m o m2 9 220 := by
  unfold sf_30 at e
  refine sh_Lk_lift (T := m.T) (I := m.I) (J := m.J) (s := m.s) (pc2 := 1) (lv2 := [(0, .int x0)]) (st2 := [.int x0]) (I2 := m.I) (J2 := m.J) (fun hT v kk => ?_) ?_
  · refine sh_w (i := (.iload_n 0)) (len := 1) (pc2 := 1) (lv2 := [(0, .int x0)]) (st2 := [.int x0]) (h2 := (sh_rep m.T m.I m.J)) rfl rfl rfl ?_
    exact kk
  refine sh_Lk_cS (r := (some (.int (sh_b2 (sf_28 x0))))) (st2 := [.int (sh_b2 (sf_28 x0))]) (pc2 := 4) (k2 := 28) (as := [.int x0]) (rest := []) rfl rfl (by decide) (Nat.le_of_ble_eq_true rfl) rfl rfl ⟨Nat.le_of_ble_eq_true rfl, Nat.le_of_ble_eq_true rfl⟩ (sl_28 (m := m) rfl ⟨rfl, rfl⟩) rfl rfl (Nat.le_of_ble_eq_true rfl) (Nat.le_of_ble_eq_true rfl) ?_
  rcases sh_ite e with ⟨c, e⟩ | ⟨c, e⟩
  · refine sh_Lk_lift (T := m.T) (I := m.I) (J := m.J) (s := m.s) (pc2 := 20) (lv2 := [(0, .int x0)]) (st2 := []) (I2 := m.I) (J2 := m.J) (fun hT v kk => ?_) ?_
    · refine sh_j0 (c := .ne) (off := (16)) (pc2 := 20) true rfl (sh_Znet c) rfl ?_
      exact kk
    exact sh_Lk_sub (sh_sub_n) (sl_30_20 e tg)
  · refine sh_Lk_lift (T := m.T) (I := m.I) (J := m.J) (s := m.s) (pc2 := 8) (lv2 := [(0, .int x0)]) (st2 := [.int x0]) (I2 := m.I) (J2 := m.J) (fun hT v kk => ?_) ?_
    · refine sh_j0 (c := .ne) (off := (16)) (pc2 := 7) false rfl (sh_Znef c) rfl ?_
      refine sh_w (i := (.iload_n 0)) (len := 1) (pc2 := 8) (lv2 := [(0, .int x0)]) (st2 := [.int x0]) (h2 := (sh_rep m.T m.I m.J)) rfl rfl rfl ?_
      exact kk
    refine sh_Lk_cS (r := (some (.int (sh_b2 (sf_31 x0))))) (st2 := [.int (sh_b2 (sf_31 x0))]) (pc2 := 11) (k2 := 31) (as := [.int x0]) (rest := []) rfl rfl (by decide) (Nat.le_of_ble_eq_true rfl) rfl rfl ⟨Nat.le_of_ble_eq_true rfl, Nat.le_of_ble_eq_true rfl⟩ (sl_31 (m := m) rfl ⟨rfl, rfl⟩) rfl rfl (Nat.le_of_ble_eq_true rfl) (Nat.le_of_ble_eq_true rfl) ?_
    rcases sh_ite e with ⟨c, e⟩ | ⟨c, e⟩
    · refine sh_Lk_lift (T := m.T) (I := m.I) (J := m.J) (s := m.s) (pc2 := 20) (lv2 := [(0, .int x0)]) (st2 := []) (I2 := m.I) (J2 := m.J) (fun hT v kk => ?_) ?_
      · refine sh_j0 (c := .ne) (off := (9)) (pc2 := 20) true rfl (sh_Znet c) rfl ?_
        exact kk
      exact sh_Lk_sub (sh_sub_n) (sl_30_20 e tg)
    · refine sh_Lk_lift (T := m.T) (I := m.I) (J := m.J) (s := m.s) (pc2 := 17) (lv2 := [(0, .int x0)]) (st2 := [.int 95, .int x0]) (I2 := m.I) (J2 := m.J) (fun hT v kk => ?_) ?_
      · refine sh_j0 (c := .ne) (off := (9)) (pc2 := 14) false rfl (sh_Znef c) rfl ?_
        refine sh_w (i := (.iload_n 0)) (len := 1) (pc2 := 15) (lv2 := [(0, .int x0)]) (st2 := [.int x0]) (h2 := (sh_rep m.T m.I m.J)) rfl rfl rfl ?_
        refine sh_w (i := (.bipush 95)) (len := 2) (pc2 := 17) (lv2 := [(0, .int x0)]) (st2 := [.int 95, .int x0]) (h2 := (sh_rep m.T m.I m.J)) rfl rfl rfl ?_
        exact kk
      rcases sh_ite e with ⟨c, e⟩ | ⟨c, e⟩
      · refine sh_Lk_lift (T := m.T) (I := m.I) (J := m.J) (s := m.s) (pc2 := 20) (lv2 := [(0, .int x0)]) (st2 := []) (I2 := m.I) (J2 := m.J) (fun hT v kk => ?_) ?_
        · refine sh_jc (c := .ne) (off := (7)) (pc2 := 20) false rfl (sh_Bnef c) rfl ?_
          exact kk
        exact sh_Lk_sub (sh_sub_n) (sl_30_20 e tg)
      · refine sh_Lk_lift (T := m.T) (I := m.I) (J := m.J) (s := m.s) (pc2 := 25) (lv2 := [(0, .int x0)]) (st2 := [.int 0]) (I2 := m.I) (J2 := m.J) (fun hT v kk => ?_) ?_
        · refine sh_jc (c := .ne) (off := (7)) (pc2 := 24) true rfl (sh_Bnet c) rfl ?_
          refine sh_w (i := (.iconst 0)) (len := 1) (pc2 := 25) (lv2 := [(0, .int x0)]) (st2 := [.int 0]) (h2 := (sh_rep m.T m.I m.J)) rfl rfl rfl ?_
          exact kk
        obtain rfl := e
        obtain ⟨rfl, rfl⟩ := tg
        exact sh_Lk_ret (i := .ireturn) rfl rfl rfl (Nat.le_of_ble_eq_true rfl) (Nat.le_of_ble_eq_true rfl)
theorem sl_32 {x1 : Int32} {x2 : Int32} {m m2 : sh_X} {o : Outcome} {z : (Option Unit × sh_X)} (e : sf_32 x1 x2 m = some z) (tg : (sh_tVt o m2) z) : sh_Lk 32 0 [(0, .ref 3), (1, .int x1), (2, .int x2)] [] m o m2 8 200 := by
  unfold sf_32 at e
  refine sh_Lk_lift (T := m.T) (I := m.I) (J := m.J) (s := m.s) (pc2 := 10) (lv2 := [(0, .ref 3), (1, .int x1), (2, .int x2)]) (st2 := []) (I2 := sh_u2 (sh_u2 m.I 2 9 x1) 2 10 x2) (J2 := m.J) (fun hT v kk => ?_) ?_
  · refine sh_w (i := (.aload_n 0)) (len := 1) (pc2 := 1) (lv2 := [(0, .ref 3), (1, .int x1), (2, .int x2)]) (st2 := [.ref 3]) (h2 := (sh_rep m.T m.I m.J)) rfl rfl rfl ?_
    refine sh_w (i := (.iload_n 1)) (len := 1) (pc2 := 2) (lv2 := [(0, .ref 3), (1, .int x1), (2, .int x2)]) (st2 := [.int x1, .ref 3]) (h2 := (sh_rep m.T m.I m.J)) rfl rfl rfl ?_
    refine sh_pI1 (x := x1) (pc2 := 5) rfl rfl hT.t2 rfl rfl rfl rfl ?_
    refine sh_w (i := (.aload_n 0)) (len := 1) (pc2 := 6) (lv2 := [(0, .ref 3), (1, .int x1), (2, .int x2)]) (st2 := [.ref 3]) (h2 := (sh_rep m.T (sh_u2 m.I 2 9 x1) m.J)) rfl rfl rfl ?_
    refine sh_w (i := (.iload_n 2)) (len := 1) (pc2 := 7) (lv2 := [(0, .ref 3), (1, .int x1), (2, .int x2)]) (st2 := [.int x2, .ref 3]) (h2 := (sh_rep m.T (sh_u2 m.I 2 9 x1) m.J)) rfl rfl rfl ?_
    refine sh_pI1 (x := x2) (pc2 := 10) rfl rfl hT.t2 rfl rfl rfl rfl ?_
    exact kk
  obtain ⟨c, e⟩ := sh_gd e
  obtain rfl := Option.some.inj e
  obtain ⟨rfl, rfl⟩ := tg
  exact sh_Lk_thr rfl rfl rfl c (Nat.le_of_ble_eq_true rfl) rfl (Nat.le_of_ble_eq_true rfl) (Nat.le_of_ble_eq_true rfl) rfl
theorem sl_33_167 {x3 : Int32} {x4 : Int32} {m m2 : sh_X} {o : Outcome} {z : Int32} (e : sf_33_167 x3 x4 m = some z) (tg : (sh_tIc m o m2) z) : sh_Lk 33 167 [(3, .int x3), (4, .int x4)] [] m o m2 9 221 := by
  unfold sf_33_167 at e
  refine sh_Lk_lift (T := m.T) (I := m.I) (J := m.J) (s := m.s) (pc2 := 170) (lv2 := [(3, .int x3), (4, .int x4)]) (st2 := [.int 105, .int x3]) (I2 := m.I) (J2 := m.J) (fun hT v kk => ?_) ?_
  · refine sh_w (i := (.iload_n 3)) (len := 1) (pc2 := 168) (lv2 := [(3, .int x3), (4, .int x4)]) (st2 := [.int x3]) (h2 := (sh_rep m.T m.I m.J)) rfl rfl rfl ?_
    refine sh_w (i := (.bipush 105)) (len := 2) (pc2 := 170) (lv2 := [(3, .int x3), (4, .int x4)]) (st2 := [.int 105, .int x3]) (h2 := (sh_rep m.T m.I m.J)) rfl rfl rfl ?_
    exact kk
  rcases sh_ite e with ⟨c, e⟩ | ⟨c, e⟩
  · refine sh_Lk_lift (T := m.T) (I := m.I) (J := m.J) (s := m.s) (pc2 := 184) (lv2 := [(3, .int x3), (4, .int x4)]) (st2 := [.int (128 + x4)]) (I2 := m.I) (J2 := m.J) (fun hT v kk => ?_) ?_
    · refine sh_jc (c := .ne) (off := (12)) (pc2 := 173) false rfl (sh_Bnef c) rfl ?_
      refine sh_w (i := (.sipush 128)) (len := 3) (pc2 := 176) (lv2 := [(3, .int x3), (4, .int x4)]) (st2 := [.int 128]) (h2 := (sh_rep m.T m.I m.J)) rfl rfl rfl ?_
      refine sh_w (i := (.iload 4)) (len := 2) (pc2 := 178) (lv2 := [(3, .int x3), (4, .int x4)]) (st2 := [.int x4, .int 128]) (h2 := (sh_rep m.T m.I m.J)) rfl rfl rfl ?_
      refine sh_w (i := .iadd) (len := 1) (pc2 := 179) (lv2 := [(3, .int x3), (4, .int x4)]) (st2 := [.int (128 + x4)]) (h2 := (sh_rep m.T m.I m.J)) rfl rfl rfl ?_
      refine sh_w (i := (.goto 5)) (len := 3) (pc2 := 184) (lv2 := [(3, .int x3), (4, .int x4)]) (st2 := [.int (128 + x4)]) (h2 := (sh_rep m.T m.I m.J)) rfl rfl rfl ?_
      exact kk
    obtain rfl := Option.some.inj e
    obtain ⟨rfl, rfl⟩ := tg
    exact sh_Lk_ret (i := .ireturn) rfl rfl rfl (Nat.le_of_ble_eq_true rfl) (Nat.le_of_ble_eq_true rfl)
  · refine sh_Lk_lift (T := m.T) (I := m.I) (J := m.J) (s := m.s) (pc2 := 184) (lv2 := [(3, .int x3), (4, .int x4)]) (st2 := [.int x4]) (I2 := m.I) (J2 := m.J) (fun hT v kk => ?_) ?_
    · refine sh_jc (c := .ne) (off := (12)) (pc2 := 182) true rfl (sh_Bnet c) rfl ?_
      refine sh_w (i := (.iload 4)) (len := 2) (pc2 := 184) (lv2 := [(3, .int x3), (4, .int x4)]) (st2 := [.int x4]) (h2 := (sh_rep m.T m.I m.J)) rfl rfl rfl ?_
      exact kk
    obtain rfl := Option.some.inj e
    obtain ⟨rfl, rfl⟩ := tg
    exact sh_Lk_ret (i := .ireturn) rfl rfl rfl (Nat.le_of_ble_eq_true rfl) (Nat.le_of_ble_eq_true rfl)
theorem sl_33_99s {x1 : Int32} {x2 : Int32} {x3 : Int32} {x4 : Int32} {x5 : Int32} {m m2 : sh_X} {o : Outcome} {z : ((Int32 × Int32) ⊕ Int32)} (e : sf_33_99s x1 x2 x3 x4 x5 m = some z) (tg : (sh_el (fun q => sh_Lk 33 99 [(0, .ref 3), (1, .int x1), (2, .int x2), (3, .int x3), (4, .int q.1), (5, .int q.2)] [] m o m2 9 221) (sh_tIc m o m2)) z) : sh_Lk 33 99 [(0, .ref 3), (1, .int x1), (2, .int x2), (3, .int x3), (4, .int x4), (5, .int x5)] [] m o m2 9 221 := by
  unfold sf_33_99s at e
  refine sh_Lk_lift (T := m.T) (I := m.I) (J := m.J) (s := m.s) (pc2 := 102) (lv2 := [(0, .ref 3), (1, .int x1), (2, .int x2), (3, .int x3), (4, .int x4), (5, .int x5)]) (st2 := [.int x2, .int x5]) (I2 := m.I) (J2 := m.J) (fun hT v kk => ?_) ?_
  · refine sh_w (i := (.iload 5)) (len := 2) (pc2 := 101) (lv2 := [(0, .ref 3), (1, .int x1), (2, .int x2), (3, .int x3), (4, .int x4), (5, .int x5)]) (st2 := [.int x5]) (h2 := (sh_rep m.T m.I m.J)) rfl rfl rfl ?_
    refine sh_w (i := (.iload_n 2)) (len := 1) (pc2 := 102) (lv2 := [(0, .ref 3), (1, .int x1), (2, .int x2), (3, .int x3), (4, .int x4), (5, .int x5)]) (st2 := [.int x2, .int x5]) (h2 := (sh_rep m.T m.I m.J)) rfl rfl rfl ?_
    exact kk
  rcases sh_ite e with ⟨c, e⟩ | ⟨c, e⟩
  · refine sh_Lk_lift (T := m.T) (I := m.I) (J := m.J) (s := m.s) (pc2 := 110) (lv2 := [(0, .ref 3), (1, .int x1), (2, .int x2), (3, .int x3), (4, .int x4), (5, .int x5)]) (st2 := [.int (x1 + x5), .ref 3]) (I2 := m.I) (J2 := m.J) (fun hT v kk => ?_) ?_
    · refine sh_jc (c := .ge) (off := (44)) (pc2 := 105) false rfl (sh_Bgef c) rfl ?_
      refine sh_w (i := (.aload_n 0)) (len := 1) (pc2 := 106) (lv2 := [(0, .ref 3), (1, .int x1), (2, .int x2), (3, .int x3), (4, .int x4), (5, .int x5)]) (st2 := [.ref 3]) (h2 := (sh_rep m.T m.I m.J)) rfl rfl rfl ?_
      refine sh_w (i := (.iload_n 1)) (len := 1) (pc2 := 107) (lv2 := [(0, .ref 3), (1, .int x1), (2, .int x2), (3, .int x3), (4, .int x4), (5, .int x5)]) (st2 := [.int x1, .ref 3]) (h2 := (sh_rep m.T m.I m.J)) rfl rfl rfl ?_
      refine sh_w (i := (.iload 5)) (len := 2) (pc2 := 109) (lv2 := [(0, .ref 3), (1, .int x1), (2, .int x2), (3, .int x3), (4, .int x4), (5, .int x5)]) (st2 := [.int x5, .int x1, .ref 3]) (h2 := (sh_rep m.T m.I m.J)) rfl rfl rfl ?_
      refine sh_w (i := .iadd) (len := 1) (pc2 := 110) (lv2 := [(0, .ref 3), (1, .int x1), (2, .int x2), (3, .int x3), (4, .int x4), (5, .int x5)]) (st2 := [.int (x1 + x5), .ref 3]) (h2 := (sh_rep m.T m.I m.J)) rfl rfl rfl ?_
      exact kk
    obtain ⟨r1, e1, e⟩ := sh_bc_e e
    refine sh_Lk_cV (r := (some (.int r1))) (st2 := [.int r1]) (pc2 := 113) (k2 := 26) (a := 2) (as := [.ref 3, .int (x1 + x5)]) (rest := []) rfl rfl rfl (fun hT => hT.t2) rfl rfl ⟨Nat.le_of_ble_eq_true rfl, Nat.le_of_ble_eq_true rfl⟩ (sl_26 e1 ⟨rfl, rfl⟩) rfl rfl (Nat.le_of_ble_eq_true rfl) (Nat.le_of_ble_eq_true rfl) ?_
    refine sh_Lk_cS (r := (some (.int (sh_b2 (sf_31 r1))))) (st2 := [.int (sh_b2 (sf_31 r1))]) (pc2 := 116) (k2 := 31) (as := [.int r1]) (rest := []) rfl rfl (by decide) (Nat.le_of_ble_eq_true rfl) rfl rfl ⟨Nat.le_of_ble_eq_true rfl, Nat.le_of_ble_eq_true rfl⟩ (sl_31 (m := m) rfl ⟨rfl, rfl⟩) rfl rfl (Nat.le_of_ble_eq_true rfl) (Nat.le_of_ble_eq_true rfl) ?_
    rcases sh_ite e with ⟨c, e⟩ | ⟨c, e⟩
    · refine sh_Lk_lift (T := m.T) (I := m.I) (J := m.J) (s := m.s) (pc2 := 131) (lv2 := [(0, .ref 3), (1, .int x1), (2, .int x2), (3, .int x3), (4, .int x4), (5, .int x5)]) (st2 := [.int (x1 + x5), .ref 3, .int (10 * x4)]) (I2 := m.I) (J2 := m.J) (fun hT v kk => ?_) ?_
      · refine sh_j0 (c := .ne) (off := (5)) (pc2 := 121) true rfl (sh_Znet c) rfl ?_
        refine sh_w (i := (.bipush 10)) (len := 2) (pc2 := 123) (lv2 := [(0, .ref 3), (1, .int x1), (2, .int x2), (3, .int x3), (4, .int x4), (5, .int x5)]) (st2 := [.int 10]) (h2 := (sh_rep m.T m.I m.J)) rfl rfl rfl ?_
        refine sh_w (i := (.iload 4)) (len := 2) (pc2 := 125) (lv2 := [(0, .ref 3), (1, .int x1), (2, .int x2), (3, .int x3), (4, .int x4), (5, .int x5)]) (st2 := [.int x4, .int 10]) (h2 := (sh_rep m.T m.I m.J)) rfl rfl rfl ?_
        refine sh_w (i := .imul) (len := 1) (pc2 := 126) (lv2 := [(0, .ref 3), (1, .int x1), (2, .int x2), (3, .int x3), (4, .int x4), (5, .int x5)]) (st2 := [.int (10 * x4)]) (h2 := (sh_rep m.T m.I m.J)) rfl rfl rfl ?_
        refine sh_w (i := (.aload_n 0)) (len := 1) (pc2 := 127) (lv2 := [(0, .ref 3), (1, .int x1), (2, .int x2), (3, .int x3), (4, .int x4), (5, .int x5)]) (st2 := [.ref 3, .int (10 * x4)]) (h2 := (sh_rep m.T m.I m.J)) rfl rfl rfl ?_
        refine sh_w (i := (.iload_n 1)) (len := 1) (pc2 := 128) (lv2 := [(0, .ref 3), (1, .int x1), (2, .int x2), (3, .int x3), (4, .int x4), (5, .int x5)]) (st2 := [.int x1, .ref 3, .int (10 * x4)]) (h2 := (sh_rep m.T m.I m.J)) rfl rfl rfl ?_
        refine sh_w (i := (.iload 5)) (len := 2) (pc2 := 130) (lv2 := [(0, .ref 3), (1, .int x1), (2, .int x2), (3, .int x3), (4, .int x4), (5, .int x5)]) (st2 := [.int x5, .int x1, .ref 3, .int (10 * x4)]) (h2 := (sh_rep m.T m.I m.J)) rfl rfl rfl ?_
        refine sh_w (i := .iadd) (len := 1) (pc2 := 131) (lv2 := [(0, .ref 3), (1, .int x1), (2, .int x2), (3, .int x3), (4, .int x4), (5, .int x5)]) (st2 := [.int (x1 + x5), .ref 3, .int (10 * x4)]) (h2 := (sh_rep m.T m.I m.J)) rfl rfl rfl ?_
        exact kk
      obtain ⟨r3, e3, e⟩ := sh_bc_e e
      refine sh_Lk_cV (r := (some (.int r3))) (st2 := [.int r3, .int (10 * x4)]) (pc2 := 134) (k2 := 26) (a := 2) (as := [.ref 3, .int (x1 + x5)]) (rest := [.int (10 * x4)]) rfl rfl rfl (fun hT => hT.t2) rfl rfl ⟨Nat.le_of_ble_eq_true rfl, Nat.le_of_ble_eq_true rfl⟩ (sl_26 e3 ⟨rfl, rfl⟩) rfl rfl (Nat.le_of_ble_eq_true rfl) (Nat.le_of_ble_eq_true rfl) ?_
      refine sh_Lk_lift (T := m.T) (I := m.I) (J := m.J) (s := m.s) (pc2 := 99) (lv2 := [(5, .int (x5 + 1)), (4, .int (((10 * x4) + r3) - 48)), (0, .ref 3), (1, .int x1), (2, .int x2), (3, .int x3)]) (st2 := []) (I2 := m.I) (J2 := m.J) (fun hT v kk => ?_) ?_
      · refine sh_w (i := .iadd) (len := 1) (pc2 := 135) (lv2 := [(0, .ref 3), (1, .int x1), (2, .int x2), (3, .int x3), (4, .int x4), (5, .int x5)]) (st2 := [.int ((10 * x4) + r3)]) (h2 := (sh_rep m.T m.I m.J)) rfl rfl rfl ?_
        refine sh_w (i := (.bipush 48)) (len := 2) (pc2 := 137) (lv2 := [(0, .ref 3), (1, .int x1), (2, .int x2), (3, .int x3), (4, .int x4), (5, .int x5)]) (st2 := [.int 48, .int ((10 * x4) + r3)]) (h2 := (sh_rep m.T m.I m.J)) rfl rfl rfl ?_
        refine sh_w (i := .isub) (len := 1) (pc2 := 138) (lv2 := [(0, .ref 3), (1, .int x1), (2, .int x2), (3, .int x3), (4, .int x4), (5, .int x5)]) (st2 := [.int (((10 * x4) + r3) - 48)]) (h2 := (sh_rep m.T m.I m.J)) rfl rfl rfl ?_
        refine sh_w (i := (.istore 4)) (len := 2) (pc2 := 140) (lv2 := [(4, .int (((10 * x4) + r3) - 48)), (0, .ref 3), (1, .int x1), (2, .int x2), (3, .int x3), (5, .int x5)]) (st2 := []) (h2 := (sh_rep m.T m.I m.J)) rfl rfl rfl ?_
        refine sh_w (i := (.iinc 5 1)) (len := 3) (pc2 := 143) (lv2 := [(5, .int (x5 + 1)), (4, .int (((10 * x4) + r3) - 48)), (0, .ref 3), (1, .int x1), (2, .int x2), (3, .int x3)]) (st2 := []) (h2 := (sh_rep m.T m.I m.J)) rfl rfl rfl ?_
        refine sh_w (i := (.goto (-44))) (len := 3) (pc2 := 99) (lv2 := [(5, .int (x5 + 1)), (4, .int (((10 * x4) + r3) - 48)), (0, .ref 3), (1, .int x1), (2, .int x2), (3, .int x3)]) (st2 := []) (h2 := (sh_rep m.T m.I m.J)) rfl rfl rfl ?_
        exact kk
      obtain rfl := Option.some.inj e
      exact sh_Lk_sub (sh_sub_c rfl (sh_sub_c rfl (sh_sub_c rfl (sh_sub_c rfl (sh_sub_c rfl (sh_sub_c rfl (sh_sub_n))))))) tg
    · refine sh_Lk_lift (T := m.T) (I := m.I) (J := m.J) (s := m.s) (pc2 := 120) (lv2 := [(0, .ref 3), (1, .int x1), (2, .int x2), (3, .int x3), (4, .int x4), (5, .int x5)]) (st2 := [.int 0]) (I2 := m.I) (J2 := m.J) (fun hT v kk => ?_) ?_
      · refine sh_j0 (c := .ne) (off := (5)) (pc2 := 119) false rfl (sh_Znef c) rfl ?_
        refine sh_w (i := (.iconst 0)) (len := 1) (pc2 := 120) (lv2 := [(0, .ref 3), (1, .int x1), (2, .int x2), (3, .int x3), (4, .int x4), (5, .int x5)]) (st2 := [.int 0]) (h2 := (sh_rep m.T m.I m.J)) rfl rfl rfl ?_
        exact kk
      obtain rfl := Option.some.inj e
      obtain ⟨rfl, rfl⟩ := tg
      exact sh_Lk_ret (i := .ireturn) rfl rfl rfl (Nat.le_of_ble_eq_true rfl) (Nat.le_of_ble_eq_true rfl)
  · refine sh_Lk_lift (T := m.T) (I := m.I) (J := m.J) (s := m.s) (pc2 := 150) (lv2 := [(0, .ref 3), (1, .int x1), (2, .int x2), (3, .int x3), (4, .int x4), (5, .int x5)]) (st2 := [.int 64, .int x4]) (I2 := m.I) (J2 := m.J) (fun hT v kk => ?_) ?_
    · refine sh_jc (c := .ge) (off := (44)) (pc2 := 146) true rfl (sh_Bget c) rfl ?_
      refine sh_w (i := (.iload 4)) (len := 2) (pc2 := 148) (lv2 := [(0, .ref 3), (1, .int x1), (2, .int x2), (3, .int x3), (4, .int x4), (5, .int x5)]) (st2 := [.int x4]) (h2 := (sh_rep m.T m.I m.J)) rfl rfl rfl ?_
      refine sh_w (i := (.bipush 64)) (len := 2) (pc2 := 150) (lv2 := [(0, .ref 3), (1, .int x1), (2, .int x2), (3, .int x3), (4, .int x4), (5, .int x5)]) (st2 := [.int 64, .int x4]) (h2 := (sh_rep m.T m.I m.J)) rfl rfl rfl ?_
      exact kk
    rcases sh_ite e with ⟨c, e⟩ | ⟨c, e⟩
    · refine sh_Lk_lift (T := m.T) (I := m.I) (J := m.J) (s := m.s) (pc2 := 166) (lv2 := [(0, .ref 3), (1, .int x1), (2, .int x2), (3, .int x3), (4, .int x4), (5, .int x5)]) (st2 := [.int 0]) (I2 := m.I) (J2 := m.J) (fun hT v kk => ?_) ?_
      · refine sh_jc (c := .gt) (off := (15)) (pc2 := 165) true rfl (sh_Bgtt c) rfl ?_
        refine sh_w (i := (.iconst 0)) (len := 1) (pc2 := 166) (lv2 := [(0, .ref 3), (1, .int x1), (2, .int x2), (3, .int x3), (4, .int x4), (5, .int x5)]) (st2 := [.int 0]) (h2 := (sh_rep m.T m.I m.J)) rfl rfl rfl ?_
        exact kk
      obtain rfl := Option.some.inj e
      obtain ⟨rfl, rfl⟩ := tg
      exact sh_Lk_ret (i := .ireturn) rfl rfl rfl (Nat.le_of_ble_eq_true rfl) (Nat.le_of_ble_eq_true rfl)
    · refine sh_Lk_lift (T := m.T) (I := m.I) (J := m.J) (s := m.s) (pc2 := 156) (lv2 := [(0, .ref 3), (1, .int x1), (2, .int x2), (3, .int x3), (4, .int x4), (5, .int x5)]) (st2 := [.int 105, .int x3]) (I2 := m.I) (J2 := m.J) (fun hT v kk => ?_) ?_
      · refine sh_jc (c := .gt) (off := (15)) (pc2 := 153) false rfl (sh_Bgtf c) rfl ?_
        refine sh_w (i := (.iload_n 3)) (len := 1) (pc2 := 154) (lv2 := [(0, .ref 3), (1, .int x1), (2, .int x2), (3, .int x3), (4, .int x4), (5, .int x5)]) (st2 := [.int x3]) (h2 := (sh_rep m.T m.I m.J)) rfl rfl rfl ?_
        refine sh_w (i := (.bipush 105)) (len := 2) (pc2 := 156) (lv2 := [(0, .ref 3), (1, .int x1), (2, .int x2), (3, .int x3), (4, .int x4), (5, .int x5)]) (st2 := [.int 105, .int x3]) (h2 := (sh_rep m.T m.I m.J)) rfl rfl rfl ?_
        exact kk
      rcases sh_ite e with ⟨c, e⟩ | ⟨c, e⟩
      · refine sh_Lk_lift (T := m.T) (I := m.I) (J := m.J) (s := m.s) (pc2 := 162) (lv2 := [(0, .ref 3), (1, .int x1), (2, .int x2), (3, .int x3), (4, .int x4), (5, .int x5)]) (st2 := [.int 2, .int x4]) (I2 := m.I) (J2 := m.J) (fun hT v kk => ?_) ?_
        · refine sh_jc (c := .ne) (off := (11)) (pc2 := 159) false rfl (sh_Bnef c) rfl ?_
          refine sh_w (i := (.iload 4)) (len := 2) (pc2 := 161) (lv2 := [(0, .ref 3), (1, .int x1), (2, .int x2), (3, .int x3), (4, .int x4), (5, .int x5)]) (st2 := [.int x4]) (h2 := (sh_rep m.T m.I m.J)) rfl rfl rfl ?_
          refine sh_w (i := (.iconst 2)) (len := 1) (pc2 := 162) (lv2 := [(0, .ref 3), (1, .int x1), (2, .int x2), (3, .int x3), (4, .int x4), (5, .int x5)]) (st2 := [.int 2, .int x4]) (h2 := (sh_rep m.T m.I m.J)) rfl rfl rfl ?_
          exact kk
        rcases sh_ite e with ⟨c, e⟩ | ⟨c, e⟩
        · refine sh_Lk_lift (T := m.T) (I := m.I) (J := m.J) (s := m.s) (pc2 := 166) (lv2 := [(0, .ref 3), (1, .int x1), (2, .int x2), (3, .int x3), (4, .int x4), (5, .int x5)]) (st2 := [.int 0]) (I2 := m.I) (J2 := m.J) (fun hT v kk => ?_) ?_
          · refine sh_jc (c := .ge) (off := (5)) (pc2 := 165) false rfl (sh_Bgef c) rfl ?_
            refine sh_w (i := (.iconst 0)) (len := 1) (pc2 := 166) (lv2 := [(0, .ref 3), (1, .int x1), (2, .int x2), (3, .int x3), (4, .int x4), (5, .int x5)]) (st2 := [.int 0]) (h2 := (sh_rep m.T m.I m.J)) rfl rfl rfl ?_
            exact kk
          obtain rfl := Option.some.inj e
          obtain ⟨rfl, rfl⟩ := tg
          exact sh_Lk_ret (i := .ireturn) rfl rfl rfl (Nat.le_of_ble_eq_true rfl) (Nat.le_of_ble_eq_true rfl)
        · refine sh_Lk_lift (T := m.T) (I := m.I) (J := m.J) (s := m.s) (pc2 := 167) (lv2 := [(0, .ref 3), (1, .int x1), (2, .int x2), (3, .int x3), (4, .int x4), (5, .int x5)]) (st2 := []) (I2 := m.I) (J2 := m.J) (fun hT v kk => ?_) ?_
          · refine sh_jc (c := .ge) (off := (5)) (pc2 := 167) true rfl (sh_Bget c) rfl ?_
            exact kk
          obtain ⟨_, eu, rfl⟩ := sh_up_e e
          exact sh_Lk_sub (sh_sub_c rfl (sh_sub_c rfl (sh_sub_n))) (sl_33_167 eu tg)
      · refine sh_Lk_lift (T := m.T) (I := m.I) (J := m.J) (s := m.s) (pc2 := 167) (lv2 := [(0, .ref 3), (1, .int x1), (2, .int x2), (3, .int x3), (4, .int x4), (5, .int x5)]) (st2 := []) (I2 := m.I) (J2 := m.J) (fun hT v kk => ?_) ?_
        · refine sh_jc (c := .ne) (off := (11)) (pc2 := 167) true rfl (sh_Bnet c) rfl ?_
          exact kk
        obtain ⟨_, eu, rfl⟩ := sh_up_e e
        exact sh_Lk_sub (sh_sub_c rfl (sh_sub_c rfl (sh_sub_n))) (sl_33_167 eu tg)
theorem sl_33_99 {x1 : Int32} {x2 : Int32} {x3 : Int32} {x4 : Int32} {x5 : Int32} {m m2 : sh_X} {o : Outcome} {z : Int32} (e : sf_33_99 x1 x2 x3 x4 x5 m = some z) (tg : (sh_tIc m o m2) z) : sh_Lk 33 99 [(0, .ref 3), (1, .int x1), (2, .int x2), (3, .int x3), (4, .int x4), (5, .int x5)] [] m o m2 9 221 := by
  unfold sf_33_99 at e
  exact sh_while_lk (P := fun q => sh_Lk 33 99 [(0, .ref 3), (1, .int x1), (2, .int x2), (3, .int x3), (4, .int q.1), (5, .int q.2)] [] m o m2 9 221) (Q := (sh_tIc m o m2)) (fun q z e tg => sl_33_99s (x1 := x1) (x2 := x2) (x3 := x3) (x4 := q.1) (x5 := q.2) (m := m) e tg) (s := (x4, x5)) e tg
theorem sl_33_69 {x1 : Int32} {x2 : Int32} {x3 : Int32} {m m2 : sh_X} {o : Outcome} {z : Int32} (e : sf_33_69 x1 x2 x3 m = some z) (tg : (sh_tIc m o m2) z) : sh_Lk 33 69 [(0, .ref 3), (1, .int x1), (2, .int x2), (3, .int x3)] [] m o m2 9 221 := by
  unfold sf_33_69 at e
  refine sh_Lk_lift (T := m.T) (I := m.I) (J := m.J) (s := m.s) (pc2 := 71) (lv2 := [(0, .ref 3), (1, .int x1), (2, .int x2), (3, .int x3)]) (st2 := [.int 2, .int x2]) (I2 := m.I) (J2 := m.J) (fun hT v kk => ?_) ?_
  · refine sh_w (i := (.iload_n 2)) (len := 1) (pc2 := 70) (lv2 := [(0, .ref 3), (1, .int x1), (2, .int x2), (3, .int x3)]) (st2 := [.int x2]) (h2 := (sh_rep m.T m.I m.J)) rfl rfl rfl ?_
    refine sh_w (i := (.iconst 2)) (len := 1) (pc2 := 71) (lv2 := [(0, .ref 3), (1, .int x1), (2, .int x2), (3, .int x3)]) (st2 := [.int 2, .int x2]) (h2 := (sh_rep m.T m.I m.J)) rfl rfl rfl ?_
    exact kk
  rcases sh_ite e with ⟨c, e⟩ | ⟨c, e⟩
  · refine sh_Lk_lift (T := m.T) (I := m.I) (J := m.J) (s := m.s) (pc2 := 92) (lv2 := [(0, .ref 3), (1, .int x1), (2, .int x2), (3, .int x3)]) (st2 := [.int 0]) (I2 := m.I) (J2 := m.J) (fun hT v kk => ?_) ?_
    · refine sh_jc (c := .lt) (off := (20)) (pc2 := 91) true rfl (sh_Bltt c) rfl ?_
      refine sh_w (i := (.iconst 0)) (len := 1) (pc2 := 92) (lv2 := [(0, .ref 3), (1, .int x1), (2, .int x2), (3, .int x3)]) (st2 := [.int 0]) (h2 := (sh_rep m.T m.I m.J)) rfl rfl rfl ?_
      exact kk
    obtain rfl := Option.some.inj e
    obtain ⟨rfl, rfl⟩ := tg
    exact sh_Lk_ret (i := .ireturn) rfl rfl rfl (Nat.le_of_ble_eq_true rfl) (Nat.le_of_ble_eq_true rfl)
  · refine sh_Lk_lift (T := m.T) (I := m.I) (J := m.J) (s := m.s) (pc2 := 76) (lv2 := [(0, .ref 3), (1, .int x1), (2, .int x2), (3, .int x3)]) (st2 := [.int 3, .int x2]) (I2 := m.I) (J2 := m.J) (fun hT v kk => ?_) ?_
    · refine sh_jc (c := .lt) (off := (20)) (pc2 := 74) false rfl (sh_Bltf c) rfl ?_
      refine sh_w (i := (.iload_n 2)) (len := 1) (pc2 := 75) (lv2 := [(0, .ref 3), (1, .int x1), (2, .int x2), (3, .int x3)]) (st2 := [.int x2]) (h2 := (sh_rep m.T m.I m.J)) rfl rfl rfl ?_
      refine sh_w (i := (.iconst 3)) (len := 1) (pc2 := 76) (lv2 := [(0, .ref 3), (1, .int x1), (2, .int x2), (3, .int x3)]) (st2 := [.int 3, .int x2]) (h2 := (sh_rep m.T m.I m.J)) rfl rfl rfl ?_
      exact kk
    rcases sh_ite e with ⟨c, e⟩ | ⟨c, e⟩
    · refine sh_Lk_lift (T := m.T) (I := m.I) (J := m.J) (s := m.s) (pc2 := 92) (lv2 := [(0, .ref 3), (1, .int x1), (2, .int x2), (3, .int x3)]) (st2 := [.int 0]) (I2 := m.I) (J2 := m.J) (fun hT v kk => ?_) ?_
      · refine sh_jc (c := .gt) (off := (15)) (pc2 := 91) true rfl (sh_Bgtt c) rfl ?_
        refine sh_w (i := (.iconst 0)) (len := 1) (pc2 := 92) (lv2 := [(0, .ref 3), (1, .int x1), (2, .int x2), (3, .int x3)]) (st2 := [.int 0]) (h2 := (sh_rep m.T m.I m.J)) rfl rfl rfl ?_
        exact kk
      obtain rfl := Option.some.inj e
      obtain ⟨rfl, rfl⟩ := tg
      exact sh_Lk_ret (i := .ireturn) rfl rfl rfl (Nat.le_of_ble_eq_true rfl) (Nat.le_of_ble_eq_true rfl)
    · refine sh_Lk_lift (T := m.T) (I := m.I) (J := m.J) (s := m.s) (pc2 := 83) (lv2 := [(0, .ref 3), (1, .int x1), (2, .int x2), (3, .int x3)]) (st2 := [.int (x1 + 1), .ref 3]) (I2 := m.I) (J2 := m.J) (fun hT v kk => ?_) ?_
      · refine sh_jc (c := .gt) (off := (15)) (pc2 := 79) false rfl (sh_Bgtf c) rfl ?_
        refine sh_w (i := (.aload_n 0)) (len := 1) (pc2 := 80) (lv2 := [(0, .ref 3), (1, .int x1), (2, .int x2), (3, .int x3)]) (st2 := [.ref 3]) (h2 := (sh_rep m.T m.I m.J)) rfl rfl rfl ?_
        refine sh_w (i := (.iload_n 1)) (len := 1) (pc2 := 81) (lv2 := [(0, .ref 3), (1, .int x1), (2, .int x2), (3, .int x3)]) (st2 := [.int x1, .ref 3]) (h2 := (sh_rep m.T m.I m.J)) rfl rfl rfl ?_
        refine sh_w (i := (.iconst 1)) (len := 1) (pc2 := 82) (lv2 := [(0, .ref 3), (1, .int x1), (2, .int x2), (3, .int x3)]) (st2 := [.int 1, .int x1, .ref 3]) (h2 := (sh_rep m.T m.I m.J)) rfl rfl rfl ?_
        refine sh_w (i := .iadd) (len := 1) (pc2 := 83) (lv2 := [(0, .ref 3), (1, .int x1), (2, .int x2), (3, .int x3)]) (st2 := [.int (x1 + 1), .ref 3]) (h2 := (sh_rep m.T m.I m.J)) rfl rfl rfl ?_
        exact kk
      obtain ⟨r1, e1, e⟩ := sh_bc_e e
      refine sh_Lk_cV (r := (some (.int r1))) (st2 := [.int r1]) (pc2 := 86) (k2 := 26) (a := 2) (as := [.ref 3, .int (x1 + 1)]) (rest := []) rfl rfl rfl (fun hT => hT.t2) rfl rfl ⟨Nat.le_of_ble_eq_true rfl, Nat.le_of_ble_eq_true rfl⟩ (sl_26 e1 ⟨rfl, rfl⟩) rfl rfl (Nat.le_of_ble_eq_true rfl) (Nat.le_of_ble_eq_true rfl) ?_
      refine sh_Lk_lift (T := m.T) (I := m.I) (J := m.J) (s := m.s) (pc2 := 88) (lv2 := [(0, .ref 3), (1, .int x1), (2, .int x2), (3, .int x3)]) (st2 := [.int 48, .int r1]) (I2 := m.I) (J2 := m.J) (fun hT v kk => ?_) ?_
      · refine sh_w (i := (.bipush 48)) (len := 2) (pc2 := 88) (lv2 := [(0, .ref 3), (1, .int x1), (2, .int x2), (3, .int x3)]) (st2 := [.int 48, .int r1]) (h2 := (sh_rep m.T m.I m.J)) rfl rfl rfl ?_
        exact kk
      rcases sh_ite e with ⟨c, e⟩ | ⟨c, e⟩
      · refine sh_Lk_lift (T := m.T) (I := m.I) (J := m.J) (s := m.s) (pc2 := 92) (lv2 := [(0, .ref 3), (1, .int x1), (2, .int x2), (3, .int x3)]) (st2 := [.int 0]) (I2 := m.I) (J2 := m.J) (fun hT v kk => ?_) ?_
        · refine sh_jc (c := .ne) (off := (5)) (pc2 := 91) false rfl (sh_Bnef c) rfl ?_
          refine sh_w (i := (.iconst 0)) (len := 1) (pc2 := 92) (lv2 := [(0, .ref 3), (1, .int x1), (2, .int x2), (3, .int x3)]) (st2 := [.int 0]) (h2 := (sh_rep m.T m.I m.J)) rfl rfl rfl ?_
          exact kk
        obtain rfl := Option.some.inj e
        obtain ⟨rfl, rfl⟩ := tg
        exact sh_Lk_ret (i := .ireturn) rfl rfl rfl (Nat.le_of_ble_eq_true rfl) (Nat.le_of_ble_eq_true rfl)
      · refine sh_Lk_lift (T := m.T) (I := m.I) (J := m.J) (s := m.s) (pc2 := 99) (lv2 := [(5, .int 1), (4, .int 0), (0, .ref 3), (1, .int x1), (2, .int x2), (3, .int x3)]) (st2 := []) (I2 := m.I) (J2 := m.J) (fun hT v kk => ?_) ?_
        · refine sh_jc (c := .ne) (off := (5)) (pc2 := 93) true rfl (sh_Bnet c) rfl ?_
          refine sh_w (i := (.iconst 0)) (len := 1) (pc2 := 94) (lv2 := [(0, .ref 3), (1, .int x1), (2, .int x2), (3, .int x3)]) (st2 := [.int 0]) (h2 := (sh_rep m.T m.I m.J)) rfl rfl rfl ?_
          refine sh_w (i := (.istore 4)) (len := 2) (pc2 := 96) (lv2 := [(4, .int 0), (0, .ref 3), (1, .int x1), (2, .int x2), (3, .int x3)]) (st2 := []) (h2 := (sh_rep m.T m.I m.J)) rfl rfl rfl ?_
          refine sh_w (i := (.iconst 1)) (len := 1) (pc2 := 97) (lv2 := [(4, .int 0), (0, .ref 3), (1, .int x1), (2, .int x2), (3, .int x3)]) (st2 := [.int 1]) (h2 := (sh_rep m.T m.I m.J)) rfl rfl rfl ?_
          refine sh_w (i := (.istore 5)) (len := 2) (pc2 := 99) (lv2 := [(5, .int 1), (4, .int 0), (0, .ref 3), (1, .int x1), (2, .int x2), (3, .int x3)]) (st2 := []) (h2 := (sh_rep m.T m.I m.J)) rfl rfl rfl ?_
          exact kk
        exact sh_Lk_sub (sh_sub_c rfl (sh_sub_c rfl (sh_sub_c rfl (sh_sub_c rfl (sh_sub_c rfl (sh_sub_c rfl (sh_sub_n))))))) (sl_33_99 e tg)
theorem sl_33_57 {x1 : Int32} {x2 : Int32} {x3 : Int32} {m m2 : sh_X} {o : Outcome} {z : Int32} (e : sf_33_57 x1 x2 x3 m = some z) (tg : (sh_tIc m o m2) z) : sh_Lk 33 57 [(0, .ref 3), (1, .int x1), (2, .int x2), (3, .int x3)] [] m o m2 9 221 := by
  unfold sf_33_57 at e
  refine sh_Lk_lift (T := m.T) (I := m.I) (J := m.J) (s := m.s) (pc2 := 60) (lv2 := [(0, .ref 3), (1, .int x1), (2, .int x2), (3, .int x3)]) (st2 := [.int 117, .int x3]) (I2 := m.I) (J2 := m.J) (fun hT v kk => ?_) ?_
  · refine sh_w (i := (.iload_n 3)) (len := 1) (pc2 := 58) (lv2 := [(0, .ref 3), (1, .int x1), (2, .int x2), (3, .int x3)]) (st2 := [.int x3]) (h2 := (sh_rep m.T m.I m.J)) rfl rfl rfl ?_
    refine sh_w (i := (.bipush 117)) (len := 2) (pc2 := 60) (lv2 := [(0, .ref 3), (1, .int x1), (2, .int x2), (3, .int x3)]) (st2 := [.int 117, .int x3]) (h2 := (sh_rep m.T m.I m.J)) rfl rfl rfl ?_
    exact kk
  rcases sh_ite e with ⟨c, e⟩ | ⟨c, e⟩
  · refine sh_Lk_lift (T := m.T) (I := m.I) (J := m.J) (s := m.s) (pc2 := 69) (lv2 := [(0, .ref 3), (1, .int x1), (2, .int x2), (3, .int x3)]) (st2 := []) (I2 := m.I) (J2 := m.J) (fun hT v kk => ?_) ?_
    · refine sh_jc (c := .eq) (off := (9)) (pc2 := 69) true rfl (sh_Beqt c) rfl ?_
      exact kk
    exact sh_Lk_sub (sh_sub_c rfl (sh_sub_c rfl (sh_sub_c rfl (sh_sub_c rfl (sh_sub_n))))) (sl_33_69 e tg)
  · refine sh_Lk_lift (T := m.T) (I := m.I) (J := m.J) (s := m.s) (pc2 := 66) (lv2 := [(0, .ref 3), (1, .int x1), (2, .int x2), (3, .int x3)]) (st2 := [.int 105, .int x3]) (I2 := m.I) (J2 := m.J) (fun hT v kk => ?_) ?_
    · refine sh_jc (c := .eq) (off := (9)) (pc2 := 63) false rfl (sh_Beqf c) rfl ?_
      refine sh_w (i := (.iload_n 3)) (len := 1) (pc2 := 64) (lv2 := [(0, .ref 3), (1, .int x1), (2, .int x2), (3, .int x3)]) (st2 := [.int x3]) (h2 := (sh_rep m.T m.I m.J)) rfl rfl rfl ?_
      refine sh_w (i := (.bipush 105)) (len := 2) (pc2 := 66) (lv2 := [(0, .ref 3), (1, .int x1), (2, .int x2), (3, .int x3)]) (st2 := [.int 105, .int x3]) (h2 := (sh_rep m.T m.I m.J)) rfl rfl rfl ?_
      exact kk
    rcases sh_ite e with ⟨c, e⟩ | ⟨c, e⟩
    · refine sh_Lk_lift (T := m.T) (I := m.I) (J := m.J) (s := m.s) (pc2 := 69) (lv2 := [(0, .ref 3), (1, .int x1), (2, .int x2), (3, .int x3)]) (st2 := []) (I2 := m.I) (J2 := m.J) (fun hT v kk => ?_) ?_
      · refine sh_jc (c := .ne) (off := (25)) (pc2 := 69) false rfl (sh_Bnef c) rfl ?_
        exact kk
      exact sh_Lk_sub (sh_sub_c rfl (sh_sub_c rfl (sh_sub_c rfl (sh_sub_c rfl (sh_sub_n))))) (sl_33_69 e tg)
    · refine sh_Lk_lift (T := m.T) (I := m.I) (J := m.J) (s := m.s) (pc2 := 92) (lv2 := [(0, .ref 3), (1, .int x1), (2, .int x2), (3, .int x3)]) (st2 := [.int 0]) (I2 := m.I) (J2 := m.J) (fun hT v kk => ?_) ?_
      · refine sh_jc (c := .ne) (off := (25)) (pc2 := 91) true rfl (sh_Bnet c) rfl ?_
        refine sh_w (i := (.iconst 0)) (len := 1) (pc2 := 92) (lv2 := [(0, .ref 3), (1, .int x1), (2, .int x2), (3, .int x3)]) (st2 := [.int 0]) (h2 := (sh_rep m.T m.I m.J)) rfl rfl rfl ?_
        exact kk
      obtain rfl := Option.some.inj e
      obtain ⟨rfl, rfl⟩ := tg
      exact sh_Lk_ret (i := .ireturn) rfl rfl rfl (Nat.le_of_ble_eq_true rfl) (Nat.le_of_ble_eq_true rfl)
theorem sl_33 {x1 : Int32} {x2 : Int32} {m m2 : sh_X} {o : Outcome} {z : Int32} (e : sf_33 x1 x2 m = some z) (tg : (sh_tIc m o m2) z) : sh_Lk 33 0 [(0, .ref 3), (1, .int x1), (2, .int x2)] [] m o m2 9 221 := by
  unfold sf_33 at e
  refine sh_Lk_lift (T := m.T) (I := m.I) (J := m.J) (s := m.s) (pc2 := 2) (lv2 := [(0, .ref 3), (1, .int x1), (2, .int x2)]) (st2 := [.int x1, .ref 3]) (I2 := m.I) (J2 := m.J) (fun hT v kk => ?_) ?_
  · refine sh_w (i := (.aload_n 0)) (len := 1) (pc2 := 1) (lv2 := [(0, .ref 3), (1, .int x1), (2, .int x2)]) (st2 := [.ref 3]) (h2 := (sh_rep m.T m.I m.J)) rfl rfl rfl ?_
    refine sh_w (i := (.iload_n 1)) (len := 1) (pc2 := 2) (lv2 := [(0, .ref 3), (1, .int x1), (2, .int x2)]) (st2 := [.int x1, .ref 3]) (h2 := (sh_rep m.T m.I m.J)) rfl rfl rfl ?_
    exact kk
  obtain ⟨r1, e1, e⟩ := sh_bc_e e
  refine sh_Lk_cV (r := (some (.int r1))) (st2 := [.int r1]) (pc2 := 5) (k2 := 26) (a := 2) (as := [.ref 3, .int x1]) (rest := []) rfl rfl rfl (fun hT => hT.t2) rfl rfl ⟨Nat.le_of_ble_eq_true rfl, Nat.le_of_ble_eq_true rfl⟩ (sl_26 e1 ⟨rfl, rfl⟩) rfl rfl (Nat.le_of_ble_eq_true rfl) (Nat.le_of_ble_eq_true rfl) ?_
  refine sh_Lk_lift (T := m.T) (I := m.I) (J := m.J) (s := m.s) (pc2 := 8) (lv2 := [(3, .int r1), (0, .ref 3), (1, .int x1), (2, .int x2)]) (st2 := [.int 4, .int x2]) (I2 := m.I) (J2 := m.J) (fun hT v kk => ?_) ?_
  · refine sh_w (i := (.istore_n 3)) (len := 1) (pc2 := 6) (lv2 := [(3, .int r1), (0, .ref 3), (1, .int x1), (2, .int x2)]) (st2 := []) (h2 := (sh_rep m.T m.I m.J)) rfl rfl rfl ?_
    refine sh_w (i := (.iload_n 2)) (len := 1) (pc2 := 7) (lv2 := [(3, .int r1), (0, .ref 3), (1, .int x1), (2, .int x2)]) (st2 := [.int x2]) (h2 := (sh_rep m.T m.I m.J)) rfl rfl rfl ?_
    refine sh_w (i := (.iconst 4)) (len := 1) (pc2 := 8) (lv2 := [(3, .int r1), (0, .ref 3), (1, .int x1), (2, .int x2)]) (st2 := [.int 4, .int x2]) (h2 := (sh_rep m.T m.I m.J)) rfl rfl rfl ?_
    exact kk
  rcases sh_ite e with ⟨c, e⟩ | ⟨c, e⟩
  · refine sh_Lk_lift (T := m.T) (I := m.I) (J := m.J) (s := m.s) (pc2 := 14) (lv2 := [(3, .int r1), (0, .ref 3), (1, .int x1), (2, .int x2)]) (st2 := [.int 98, .int r1]) (I2 := m.I) (J2 := m.J) (fun hT v kk => ?_) ?_
    · refine sh_jc (c := .ne) (off := (49)) (pc2 := 11) false rfl (sh_Bnef c) rfl ?_
      refine sh_w (i := (.iload_n 3)) (len := 1) (pc2 := 12) (lv2 := [(3, .int r1), (0, .ref 3), (1, .int x1), (2, .int x2)]) (st2 := [.int r1]) (h2 := (sh_rep m.T m.I m.J)) rfl rfl rfl ?_
      refine sh_w (i := (.bipush 98)) (len := 2) (pc2 := 14) (lv2 := [(3, .int r1), (0, .ref 3), (1, .int x1), (2, .int x2)]) (st2 := [.int 98, .int r1]) (h2 := (sh_rep m.T m.I m.J)) rfl rfl rfl ?_
      exact kk
    rcases sh_ite e with ⟨c, e⟩ | ⟨c, e⟩
    · refine sh_Lk_lift (T := m.T) (I := m.I) (J := m.J) (s := m.s) (pc2 := 21) (lv2 := [(3, .int r1), (0, .ref 3), (1, .int x1), (2, .int x2)]) (st2 := [.int (x1 + 1), .ref 3]) (I2 := m.I) (J2 := m.J) (fun hT v kk => ?_) ?_
      · refine sh_jc (c := .ne) (off := (43)) (pc2 := 17) false rfl (sh_Bnef c) rfl ?_
        refine sh_w (i := (.aload_n 0)) (len := 1) (pc2 := 18) (lv2 := [(3, .int r1), (0, .ref 3), (1, .int x1), (2, .int x2)]) (st2 := [.ref 3]) (h2 := (sh_rep m.T m.I m.J)) rfl rfl rfl ?_
        refine sh_w (i := (.iload_n 1)) (len := 1) (pc2 := 19) (lv2 := [(3, .int r1), (0, .ref 3), (1, .int x1), (2, .int x2)]) (st2 := [.int x1, .ref 3]) (h2 := (sh_rep m.T m.I m.J)) rfl rfl rfl ?_
        refine sh_w (i := (.iconst 1)) (len := 1) (pc2 := 20) (lv2 := [(3, .int r1), (0, .ref 3), (1, .int x1), (2, .int x2)]) (st2 := [.int 1, .int x1, .ref 3]) (h2 := (sh_rep m.T m.I m.J)) rfl rfl rfl ?_
        refine sh_w (i := .iadd) (len := 1) (pc2 := 21) (lv2 := [(3, .int r1), (0, .ref 3), (1, .int x1), (2, .int x2)]) (st2 := [.int (x1 + 1), .ref 3]) (h2 := (sh_rep m.T m.I m.J)) rfl rfl rfl ?_
        exact kk
      obtain ⟨r2, e2, e⟩ := sh_bc_e e
      refine sh_Lk_cV (r := (some (.int r2))) (st2 := [.int r2]) (pc2 := 24) (k2 := 26) (a := 2) (as := [.ref 3, .int (x1 + 1)]) (rest := []) rfl rfl rfl (fun hT => hT.t2) rfl rfl ⟨Nat.le_of_ble_eq_true rfl, Nat.le_of_ble_eq_true rfl⟩ (sl_26 e2 ⟨rfl, rfl⟩) rfl rfl (Nat.le_of_ble_eq_true rfl) (Nat.le_of_ble_eq_true rfl) ?_
      refine sh_Lk_lift (T := m.T) (I := m.I) (J := m.J) (s := m.s) (pc2 := 26) (lv2 := [(3, .int r1), (0, .ref 3), (1, .int x1), (2, .int x2)]) (st2 := [.int 111, .int r2]) (I2 := m.I) (J2 := m.J) (fun hT v kk => ?_) ?_
      · refine sh_w (i := (.bipush 111)) (len := 2) (pc2 := 26) (lv2 := [(3, .int r1), (0, .ref 3), (1, .int x1), (2, .int x2)]) (st2 := [.int 111, .int r2]) (h2 := (sh_rep m.T m.I m.J)) rfl rfl rfl ?_
        exact kk
      rcases sh_ite e with ⟨c, e⟩ | ⟨c, e⟩
      · refine sh_Lk_lift (T := m.T) (I := m.I) (J := m.J) (s := m.s) (pc2 := 33) (lv2 := [(3, .int r1), (0, .ref 3), (1, .int x1), (2, .int x2)]) (st2 := [.int (x1 + 2), .ref 3]) (I2 := m.I) (J2 := m.J) (fun hT v kk => ?_) ?_
        · refine sh_jc (c := .ne) (off := (31)) (pc2 := 29) false rfl (sh_Bnef c) rfl ?_
          refine sh_w (i := (.aload_n 0)) (len := 1) (pc2 := 30) (lv2 := [(3, .int r1), (0, .ref 3), (1, .int x1), (2, .int x2)]) (st2 := [.ref 3]) (h2 := (sh_rep m.T m.I m.J)) rfl rfl rfl ?_
          refine sh_w (i := (.iload_n 1)) (len := 1) (pc2 := 31) (lv2 := [(3, .int r1), (0, .ref 3), (1, .int x1), (2, .int x2)]) (st2 := [.int x1, .ref 3]) (h2 := (sh_rep m.T m.I m.J)) rfl rfl rfl ?_
          refine sh_w (i := (.iconst 2)) (len := 1) (pc2 := 32) (lv2 := [(3, .int r1), (0, .ref 3), (1, .int x1), (2, .int x2)]) (st2 := [.int 2, .int x1, .ref 3]) (h2 := (sh_rep m.T m.I m.J)) rfl rfl rfl ?_
          refine sh_w (i := .iadd) (len := 1) (pc2 := 33) (lv2 := [(3, .int r1), (0, .ref 3), (1, .int x1), (2, .int x2)]) (st2 := [.int (x1 + 2), .ref 3]) (h2 := (sh_rep m.T m.I m.J)) rfl rfl rfl ?_
          exact kk
        obtain ⟨r3, e3, e⟩ := sh_bc_e e
        refine sh_Lk_cV (r := (some (.int r3))) (st2 := [.int r3]) (pc2 := 36) (k2 := 26) (a := 2) (as := [.ref 3, .int (x1 + 2)]) (rest := []) rfl rfl rfl (fun hT => hT.t2) rfl rfl ⟨Nat.le_of_ble_eq_true rfl, Nat.le_of_ble_eq_true rfl⟩ (sl_26 e3 ⟨rfl, rfl⟩) rfl rfl (Nat.le_of_ble_eq_true rfl) (Nat.le_of_ble_eq_true rfl) ?_
        refine sh_Lk_lift (T := m.T) (I := m.I) (J := m.J) (s := m.s) (pc2 := 38) (lv2 := [(3, .int r1), (0, .ref 3), (1, .int x1), (2, .int x2)]) (st2 := [.int 111, .int r3]) (I2 := m.I) (J2 := m.J) (fun hT v kk => ?_) ?_
        · refine sh_w (i := (.bipush 111)) (len := 2) (pc2 := 38) (lv2 := [(3, .int r1), (0, .ref 3), (1, .int x1), (2, .int x2)]) (st2 := [.int 111, .int r3]) (h2 := (sh_rep m.T m.I m.J)) rfl rfl rfl ?_
          exact kk
        rcases sh_ite e with ⟨c, e⟩ | ⟨c, e⟩
        · refine sh_Lk_lift (T := m.T) (I := m.I) (J := m.J) (s := m.s) (pc2 := 45) (lv2 := [(3, .int r1), (0, .ref 3), (1, .int x1), (2, .int x2)]) (st2 := [.int (x1 + 3), .ref 3]) (I2 := m.I) (J2 := m.J) (fun hT v kk => ?_) ?_
          · refine sh_jc (c := .ne) (off := (19)) (pc2 := 41) false rfl (sh_Bnef c) rfl ?_
            refine sh_w (i := (.aload_n 0)) (len := 1) (pc2 := 42) (lv2 := [(3, .int r1), (0, .ref 3), (1, .int x1), (2, .int x2)]) (st2 := [.ref 3]) (h2 := (sh_rep m.T m.I m.J)) rfl rfl rfl ?_
            refine sh_w (i := (.iload_n 1)) (len := 1) (pc2 := 43) (lv2 := [(3, .int r1), (0, .ref 3), (1, .int x1), (2, .int x2)]) (st2 := [.int x1, .ref 3]) (h2 := (sh_rep m.T m.I m.J)) rfl rfl rfl ?_
            refine sh_w (i := (.iconst 3)) (len := 1) (pc2 := 44) (lv2 := [(3, .int r1), (0, .ref 3), (1, .int x1), (2, .int x2)]) (st2 := [.int 3, .int x1, .ref 3]) (h2 := (sh_rep m.T m.I m.J)) rfl rfl rfl ?_
            refine sh_w (i := .iadd) (len := 1) (pc2 := 45) (lv2 := [(3, .int r1), (0, .ref 3), (1, .int x1), (2, .int x2)]) (st2 := [.int (x1 + 3), .ref 3]) (h2 := (sh_rep m.T m.I m.J)) rfl rfl rfl ?_
            exact kk
          obtain ⟨r4, e4, e⟩ := sh_bc_e e
          refine sh_Lk_cV (r := (some (.int r4))) (st2 := [.int r4]) (pc2 := 48) (k2 := 26) (a := 2) (as := [.ref 3, .int (x1 + 3)]) (rest := []) rfl rfl rfl (fun hT => hT.t2) rfl rfl ⟨Nat.le_of_ble_eq_true rfl, Nat.le_of_ble_eq_true rfl⟩ (sl_26 e4 ⟨rfl, rfl⟩) rfl rfl (Nat.le_of_ble_eq_true rfl) (Nat.le_of_ble_eq_true rfl) ?_
          refine sh_Lk_lift (T := m.T) (I := m.I) (J := m.J) (s := m.s) (pc2 := 50) (lv2 := [(3, .int r1), (0, .ref 3), (1, .int x1), (2, .int x2)]) (st2 := [.int 108, .int r4]) (I2 := m.I) (J2 := m.J) (fun hT v kk => ?_) ?_
          · refine sh_w (i := (.bipush 108)) (len := 2) (pc2 := 50) (lv2 := [(3, .int r1), (0, .ref 3), (1, .int x1), (2, .int x2)]) (st2 := [.int 108, .int r4]) (h2 := (sh_rep m.T m.I m.J)) rfl rfl rfl ?_
            exact kk
          rcases sh_ite e with ⟨c, e⟩ | ⟨c, e⟩
          · refine sh_Lk_lift (T := m.T) (I := m.I) (J := m.J) (s := m.s) (pc2 := 56) (lv2 := [(3, .int r1), (0, .ref 3), (1, .int x1), (2, .int x2)]) (st2 := [.int 257]) (I2 := m.I) (J2 := m.J) (fun hT v kk => ?_) ?_
            · refine sh_jc (c := .ne) (off := (7)) (pc2 := 53) false rfl (sh_Bnef c) rfl ?_
              refine sh_w (i := (.sipush 257)) (len := 3) (pc2 := 56) (lv2 := [(3, .int r1), (0, .ref 3), (1, .int x1), (2, .int x2)]) (st2 := [.int 257]) (h2 := (sh_rep m.T m.I m.J)) rfl rfl rfl ?_
              exact kk
            obtain rfl := Option.some.inj e
            obtain ⟨rfl, rfl⟩ := tg
            exact sh_Lk_ret (i := .ireturn) rfl rfl rfl (Nat.le_of_ble_eq_true rfl) (Nat.le_of_ble_eq_true rfl)
          · refine sh_Lk_lift (T := m.T) (I := m.I) (J := m.J) (s := m.s) (pc2 := 57) (lv2 := [(3, .int r1), (0, .ref 3), (1, .int x1), (2, .int x2)]) (st2 := []) (I2 := m.I) (J2 := m.J) (fun hT v kk => ?_) ?_
            · refine sh_jc (c := .ne) (off := (7)) (pc2 := 57) true rfl (sh_Bnet c) rfl ?_
              exact kk
            exact sh_Lk_sub (sh_sub_c rfl (sh_sub_c rfl (sh_sub_c rfl (sh_sub_c rfl (sh_sub_n))))) (sl_33_57 e tg)
        · refine sh_Lk_lift (T := m.T) (I := m.I) (J := m.J) (s := m.s) (pc2 := 57) (lv2 := [(3, .int r1), (0, .ref 3), (1, .int x1), (2, .int x2)]) (st2 := []) (I2 := m.I) (J2 := m.J) (fun hT v kk => ?_) ?_
          · refine sh_jc (c := .ne) (off := (19)) (pc2 := 57) true rfl (sh_Bnet c) rfl ?_
            exact kk
          exact sh_Lk_sub (sh_sub_c rfl (sh_sub_c rfl (sh_sub_c rfl (sh_sub_c rfl (sh_sub_n))))) (sl_33_57 e tg)
      · refine sh_Lk_lift (T := m.T) (I := m.I) (J := m.J) (s := m.s) (pc2 := 57) (lv2 := [(3, .int r1), (0, .ref 3), (1, .int x1), (2, .int x2)]) (st2 := []) (I2 := m.I) (J2 := m.J) (fun hT v kk => ?_) ?_
        · refine sh_jc (c := .ne) (off := (31)) (pc2 := 57) true rfl (sh_Bnet c) rfl ?_
          exact kk
        exact sh_Lk_sub (sh_sub_c rfl (sh_sub_c rfl (sh_sub_c rfl (sh_sub_c rfl (sh_sub_n))))) (sl_33_57 e tg)
    · refine sh_Lk_lift (T := m.T) (I := m.I) (J := m.J) (s := m.s) (pc2 := 57) (lv2 := [(3, .int r1), (0, .ref 3), (1, .int x1), (2, .int x2)]) (st2 := []) (I2 := m.I) (J2 := m.J) (fun hT v kk => ?_) ?_
      · refine sh_jc (c := .ne) (off := (43)) (pc2 := 57) true rfl (sh_Bnet c) rfl ?_
        exact kk
      exact sh_Lk_sub (sh_sub_c rfl (sh_sub_c rfl (sh_sub_c rfl (sh_sub_c rfl (sh_sub_n))))) (sl_33_57 e tg)
  · refine sh_Lk_lift (T := m.T) (I := m.I) (J := m.J) (s := m.s) (pc2 := 57) (lv2 := [(3, .int r1), (0, .ref 3), (1, .int x1), (2, .int x2)]) (st2 := []) (I2 := m.I) (J2 := m.J) (fun hT v kk => ?_) ?_
    · refine sh_jc (c := .ne) (off := (49)) (pc2 := 57) true rfl (sh_Bnet c) rfl ?_
      exact kk
    exact sh_Lk_sub (sh_sub_c rfl (sh_sub_c rfl (sh_sub_c rfl (sh_sub_c rfl (sh_sub_n))))) (sl_33_57 e tg)
theorem sl_35_3s {x1 : Int32} {x2 : Int32} {x3 : Int32} {x4 : Int32} {m m2 : sh_X} {o : Outcome} {z : (Int32 ⊕ Bool)} (e : sf_35_3s x1 x2 x3 x4 m = some z) (tg : (sh_el (fun q => sh_Lk 35 3 [(0, .ref 3), (1, .int x1), (2, .int x2), (3, .int x3), (4, .int q)] [] m o m2 30 600) (sh_tZc m o m2)) z) : sh_Lk 35 3 [(0, .ref 3), (1, .int x1), (2, .int x2), (3, .int x3), (4, .int x4)] [] m o m2 30 600 := by
  unfold sf_35_3s at e
  refine sh_Lk_lift (T := m.T) (I := m.I) (J := m.J) (s := m.s) (pc2 := 6) (lv2 := [(0, .ref 3), (1, .int x1), (2, .int x2), (3, .int x3), (4, .int x4)]) (st2 := [.int x3, .int x4]) (I2 := m.I) (J2 := m.J) (fun hT v kk => ?_) ?_
  · refine sh_w (i := (.iload 4)) (len := 2) (pc2 := 5) (lv2 := [(0, .ref 3), (1, .int x1), (2, .int x2), (3, .int x3), (4, .int x4)]) (st2 := [.int x4]) (h2 := (sh_rep m.T m.I m.J)) rfl rfl rfl ?_
    refine sh_w (i := (.iload_n 3)) (len := 1) (pc2 := 6) (lv2 := [(0, .ref 3), (1, .int x1), (2, .int x2), (3, .int x3), (4, .int x4)]) (st2 := [.int x3, .int x4]) (h2 := (sh_rep m.T m.I m.J)) rfl rfl rfl ?_
    exact kk
  rcases sh_ite e with ⟨c, e⟩ | ⟨c, e⟩
  · refine sh_Lk_lift (T := m.T) (I := m.I) (J := m.J) (s := m.s) (pc2 := 15) (lv2 := [(0, .ref 3), (1, .int x1), (2, .int x2), (3, .int x3), (4, .int x4)]) (st2 := [.ref 1000001, .int (x1 + x4)]) (I2 := m.I) (J2 := m.J) (fun hT v kk => ?_) ?_
    · refine sh_jc (c := .ge) (off := (43)) (pc2 := 9) false rfl (sh_Bgef c) rfl ?_
      refine sh_w (i := (.iload_n 1)) (len := 1) (pc2 := 10) (lv2 := [(0, .ref 3), (1, .int x1), (2, .int x2), (3, .int x3), (4, .int x4)]) (st2 := [.int x1]) (h2 := (sh_rep m.T m.I m.J)) rfl rfl rfl ?_
      refine sh_w (i := (.iload 4)) (len := 2) (pc2 := 12) (lv2 := [(0, .ref 3), (1, .int x1), (2, .int x2), (3, .int x3), (4, .int x4)]) (st2 := [.int x4, .int x1]) (h2 := (sh_rep m.T m.I m.J)) rfl rfl rfl ?_
      refine sh_w (i := .iadd) (len := 1) (pc2 := 13) (lv2 := [(0, .ref 3), (1, .int x1), (2, .int x2), (3, .int x3), (4, .int x4)]) (st2 := [.int (x1 + x4)]) (h2 := (sh_rep m.T m.I m.J)) rfl rfl rfl ?_
      refine sh_w (i := (.ldc 121)) (len := 2) (pc2 := 15) (lv2 := [(0, .ref 3), (1, .int x1), (2, .int x2), (3, .int x3), (4, .int x4)]) (st2 := [.ref 1000001, .int (x1 + x4)]) (h2 := (sh_rep m.T m.I m.J)) rfl rfl rfl ?_
      exact kk
    refine sh_Lk_tl (j := 0) (pc2 := 18) rfl rfl rfl (by decide) (Nat.le_of_ble_eq_true rfl) rfl (Nat.le_of_ble_eq_true rfl) (Nat.le_of_ble_eq_true rfl) ?_
    rcases sh_ite e with ⟨c, e⟩ | ⟨c, e⟩
    · refine sh_Lk_lift (T := m.T) (I := m.I) (J := m.J) (s := m.s) (pc2 := 27) (lv2 := [(0, .ref 3), (1, .int x1), (2, .int x2), (3, .int x3), (4, .int x4)]) (st2 := [.int (x1 + x4), .ref 1000001]) (I2 := m.I) (J2 := m.J) (fun hT v kk => ?_) ?_
      · refine sh_jc (c := .ge) (off := (31)) (pc2 := 21) false rfl (sh_Bgef c) rfl ?_
        refine sh_w (i := (.ldc 121)) (len := 2) (pc2 := 23) (lv2 := [(0, .ref 3), (1, .int x1), (2, .int x2), (3, .int x3), (4, .int x4)]) (st2 := [.ref 1000001]) (h2 := (sh_rep m.T m.I m.J)) rfl rfl rfl ?_
        refine sh_w (i := (.iload_n 1)) (len := 1) (pc2 := 24) (lv2 := [(0, .ref 3), (1, .int x1), (2, .int x2), (3, .int x3), (4, .int x4)]) (st2 := [.int x1, .ref 1000001]) (h2 := (sh_rep m.T m.I m.J)) rfl rfl rfl ?_
        refine sh_w (i := (.iload 4)) (len := 2) (pc2 := 26) (lv2 := [(0, .ref 3), (1, .int x1), (2, .int x2), (3, .int x3), (4, .int x4)]) (st2 := [.int x4, .int x1, .ref 1000001]) (h2 := (sh_rep m.T m.I m.J)) rfl rfl rfl ?_
        refine sh_w (i := .iadd) (len := 1) (pc2 := 27) (lv2 := [(0, .ref 3), (1, .int x1), (2, .int x2), (3, .int x3), (4, .int x4)]) (st2 := [.int (x1 + x4), .ref 1000001]) (h2 := (sh_rep m.T m.I m.J)) rfl rfl rfl ?_
        exact kk
      obtain ⟨c, e⟩ := sh_gd e
      refine sh_Lk_tc (j := 0) (pc2 := 30) rfl rfl rfl c (Nat.le_of_ble_eq_true rfl) rfl (Nat.le_of_ble_eq_true rfl) (Nat.le_of_ble_eq_true rfl) ?_
      refine sh_Lk_lift (T := m.T) (I := m.I) (J := m.J) (s := m.s) (pc2 := 35) (lv2 := [(0, .ref 3), (1, .int x1), (2, .int x2), (3, .int x3), (4, .int x4)]) (st2 := [.int (x2 + x4), .ref 3, .int (sh_txc 0 (x1 + x4))]) (I2 := m.I) (J2 := m.J) (fun hT v kk => ?_) ?_
      · refine sh_w (i := (.aload_n 0)) (len := 1) (pc2 := 31) (lv2 := [(0, .ref 3), (1, .int x1), (2, .int x2), (3, .int x3), (4, .int x4)]) (st2 := [.ref 3, .int (sh_txc 0 (x1 + x4))]) (h2 := (sh_rep m.T m.I m.J)) rfl rfl rfl ?_
        refine sh_w (i := (.iload_n 2)) (len := 1) (pc2 := 32) (lv2 := [(0, .ref 3), (1, .int x1), (2, .int x2), (3, .int x3), (4, .int x4)]) (st2 := [.int x2, .ref 3, .int (sh_txc 0 (x1 + x4))]) (h2 := (sh_rep m.T m.I m.J)) rfl rfl rfl ?_
        refine sh_w (i := (.iload 4)) (len := 2) (pc2 := 34) (lv2 := [(0, .ref 3), (1, .int x1), (2, .int x2), (3, .int x3), (4, .int x4)]) (st2 := [.int x4, .int x2, .ref 3, .int (sh_txc 0 (x1 + x4))]) (h2 := (sh_rep m.T m.I m.J)) rfl rfl rfl ?_
        refine sh_w (i := .iadd) (len := 1) (pc2 := 35) (lv2 := [(0, .ref 3), (1, .int x1), (2, .int x2), (3, .int x3), (4, .int x4)]) (st2 := [.int (x2 + x4), .ref 3, .int (sh_txc 0 (x1 + x4))]) (h2 := (sh_rep m.T m.I m.J)) rfl rfl rfl ?_
        exact kk
      obtain ⟨r1, e1, e⟩ := sh_bc_e e
      refine sh_Lk_cV (r := (some (.int r1))) (st2 := [.int r1, .int (sh_txc 0 (x1 + x4))]) (pc2 := 38) (k2 := 26) (a := 2) (as := [.ref 3, .int (x2 + x4)]) (rest := [.int (sh_txc 0 (x1 + x4))]) rfl rfl rfl (fun hT => hT.t2) rfl rfl ⟨Nat.le_of_ble_eq_true rfl, Nat.le_of_ble_eq_true rfl⟩ (sl_26 e1 ⟨rfl, rfl⟩) rfl rfl (Nat.le_of_ble_eq_true rfl) (Nat.le_of_ble_eq_true rfl) ?_
      rcases sh_ite e with ⟨c, e⟩ | ⟨c, e⟩
      · refine sh_Lk_lift (T := m.T) (I := m.I) (J := m.J) (s := m.s) (pc2 := 3) (lv2 := [(4, .int (x4 + 1)), (0, .ref 3), (1, .int x1), (2, .int x2), (3, .int x3)]) (st2 := []) (I2 := m.I) (J2 := m.J) (fun hT v kk => ?_) ?_
        · refine sh_jc (c := .eq) (off := (5)) (pc2 := 43) true rfl (sh_Beqt c) rfl ?_
          refine sh_w (i := (.iinc 4 1)) (len := 3) (pc2 := 46) (lv2 := [(4, .int (x4 + 1)), (0, .ref 3), (1, .int x1), (2, .int x2), (3, .int x3)]) (st2 := []) (h2 := (sh_rep m.T m.I m.J)) rfl rfl rfl ?_
          refine sh_w (i := (.goto (-43))) (len := 3) (pc2 := 3) (lv2 := [(4, .int (x4 + 1)), (0, .ref 3), (1, .int x1), (2, .int x2), (3, .int x3)]) (st2 := []) (h2 := (sh_rep m.T m.I m.J)) rfl rfl rfl ?_
          exact kk
        obtain rfl := Option.some.inj e
        exact sh_Lk_sub (sh_sub_c rfl (sh_sub_c rfl (sh_sub_c rfl (sh_sub_c rfl (sh_sub_c rfl (sh_sub_n)))))) tg
      · refine sh_Lk_lift (T := m.T) (I := m.I) (J := m.J) (s := m.s) (pc2 := 42) (lv2 := [(0, .ref 3), (1, .int x1), (2, .int x2), (3, .int x3), (4, .int x4)]) (st2 := [.int 0]) (I2 := m.I) (J2 := m.J) (fun hT v kk => ?_) ?_
        · refine sh_jc (c := .eq) (off := (5)) (pc2 := 41) false rfl (sh_Beqf c) rfl ?_
          refine sh_w (i := (.iconst 0)) (len := 1) (pc2 := 42) (lv2 := [(0, .ref 3), (1, .int x1), (2, .int x2), (3, .int x3), (4, .int x4)]) (st2 := [.int 0]) (h2 := (sh_rep m.T m.I m.J)) rfl rfl rfl ?_
          exact kk
        obtain rfl := Option.some.inj e
        obtain ⟨rfl, rfl⟩ := tg
        exact sh_Lk_ret (i := .ireturn) rfl rfl rfl (Nat.le_of_ble_eq_true rfl) (Nat.le_of_ble_eq_true rfl)
    · refine sh_Lk_lift (T := m.T) (I := m.I) (J := m.J) (s := m.s) (pc2 := 50) (lv2 := [(0, .ref 3), (1, .int x1), (2, .int x2), (3, .int x3), (4, .int x4)]) (st2 := [.int 1]) (I2 := m.I) (J2 := m.J) (fun hT v kk => ?_) ?_
      · refine sh_jc (c := .ge) (off := (31)) (pc2 := 49) true rfl (sh_Bget c) rfl ?_
        refine sh_w (i := (.iconst 1)) (len := 1) (pc2 := 50) (lv2 := [(0, .ref 3), (1, .int x1), (2, .int x2), (3, .int x3), (4, .int x4)]) (st2 := [.int 1]) (h2 := (sh_rep m.T m.I m.J)) rfl rfl rfl ?_
        exact kk
      obtain rfl := Option.some.inj e
      obtain ⟨rfl, rfl⟩ := tg
      exact sh_Lk_ret (i := .ireturn) rfl rfl rfl (Nat.le_of_ble_eq_true rfl) (Nat.le_of_ble_eq_true rfl)
  · refine sh_Lk_lift (T := m.T) (I := m.I) (J := m.J) (s := m.s) (pc2 := 50) (lv2 := [(0, .ref 3), (1, .int x1), (2, .int x2), (3, .int x3), (4, .int x4)]) (st2 := [.int 1]) (I2 := m.I) (J2 := m.J) (fun hT v kk => ?_) ?_
    · refine sh_jc (c := .ge) (off := (43)) (pc2 := 49) true rfl (sh_Bget c) rfl ?_
      refine sh_w (i := (.iconst 1)) (len := 1) (pc2 := 50) (lv2 := [(0, .ref 3), (1, .int x1), (2, .int x2), (3, .int x3), (4, .int x4)]) (st2 := [.int 1]) (h2 := (sh_rep m.T m.I m.J)) rfl rfl rfl ?_
      exact kk
    obtain rfl := Option.some.inj e
    obtain ⟨rfl, rfl⟩ := tg
    exact sh_Lk_ret (i := .ireturn) rfl rfl rfl (Nat.le_of_ble_eq_true rfl) (Nat.le_of_ble_eq_true rfl)
theorem sl_35_3 {x1 : Int32} {x2 : Int32} {x3 : Int32} {x4 : Int32} {m m2 : sh_X} {o : Outcome} {z : Bool} (e : sf_35_3 x1 x2 x3 x4 m = some z) (tg : (sh_tZc m o m2) z) : sh_Lk 35 3 [(0, .ref 3), (1, .int x1), (2, .int x2), (3, .int x3), (4, .int x4)] [] m o m2 30 600 := by
  unfold sf_35_3 at e
  exact sh_while_lk (P := fun q => sh_Lk 35 3 [(0, .ref 3), (1, .int x1), (2, .int x2), (3, .int x3), (4, .int q)] [] m o m2 30 600) (Q := (sh_tZc m o m2)) (fun q z e tg => sl_35_3s (x1 := x1) (x2 := x2) (x3 := x3) (x4 := q) (m := m) e tg) (s := x4) e tg
theorem sl_35 {x1 : Int32} {x2 : Int32} {x3 : Int32} {m m2 : sh_X} {o : Outcome} {z : Bool} (e : sf_35 x1 x2 x3 m = some z) (tg : (sh_tZc m o m2) z) : sh_Lk 35 0 [(0, .ref 3), (1, .int x1), (2, .int x2), (3, .int x3)] [] m o m2 30 600 := by
  unfold sf_35 at e
  refine sh_Lk_lift (T := m.T) (I := m.I) (J := m.J) (s := m.s) (pc2 := 3) (lv2 := [(4, .int 0), (0, .ref 3), (1, .int x1), (2, .int x2), (3, .int x3)]) (st2 := []) (I2 := m.I) (J2 := m.J) (fun hT v kk => ?_) ?_
  · refine sh_w (i := (.iconst 0)) (len := 1) (pc2 := 1) (lv2 := [(0, .ref 3), (1, .int x1), (2, .int x2), (3, .int x3)]) (st2 := [.int 0]) (h2 := (sh_rep m.T m.I m.J)) rfl rfl rfl ?_
    refine sh_w (i := (.istore 4)) (len := 2) (pc2 := 3) (lv2 := [(4, .int 0), (0, .ref 3), (1, .int x1), (2, .int x2), (3, .int x3)]) (st2 := []) (h2 := (sh_rep m.T m.I m.J)) rfl rfl rfl ?_
    exact kk
  exact sh_Lk_sub (sh_sub_c rfl (sh_sub_c rfl (sh_sub_c rfl (sh_sub_c rfl (sh_sub_c rfl (sh_sub_n)))))) (sl_35_3 e tg)
theorem sl_34_61 {x1 : Int32} {x2 : Int32} {x3 : Int32} {x4 : Int32} {x5 : Int32} {m m2 : sh_X} {o : Outcome} {z : ((Int32 × Int32 × Int32) ⊕ Int32)} (e : sf_34_61 x1 x2 x3 x4 x5 m = some z) (tg : (sh_el (fun q => sh_Lk 34 8 [(0, .ref 3), (1, .int x1), (2, .int x2), (3, .int q.1), (4, .int q.2.1), (5, .int q.2.2)] [] m o m2 31 624) (sh_tIc m o m2)) z) : sh_Lk 34 61 [(0, .ref 3), (1, .int x1), (2, .int x2), (3, .int x3), (4, .int x4), (5, .int x5)] [] m o m2 31 624 := by
  unfold sf_34_61 at e
  refine sh_Lk_lift (T := m.T) (I := m.I) (J := m.J) (s := m.s) (pc2 := 8) (lv2 := [(5, .int (x5 + 1)), (0, .ref 3), (1, .int x1), (2, .int x2), (3, .int x3), (4, .int x4)]) (st2 := []) (I2 := m.I) (J2 := m.J) (fun hT v kk => ?_) ?_
  · refine sh_w (i := (.iinc 5 1)) (len := 3) (pc2 := 64) (lv2 := [(5, .int (x5 + 1)), (0, .ref 3), (1, .int x1), (2, .int x2), (3, .int x3), (4, .int x4)]) (st2 := []) (h2 := (sh_rep m.T m.I m.J)) rfl rfl rfl ?_
    refine sh_w (i := (.goto (-56))) (len := 3) (pc2 := 8) (lv2 := [(5, .int (x5 + 1)), (0, .ref 3), (1, .int x1), (2, .int x2), (3, .int x3), (4, .int x4)]) (st2 := []) (h2 := (sh_rep m.T m.I m.J)) rfl rfl rfl ?_
    exact kk
  obtain rfl := Option.some.inj e
  exact sh_Lk_sub (sh_sub_c rfl (sh_sub_c rfl (sh_sub_c rfl (sh_sub_c rfl (sh_sub_c rfl (sh_sub_c rfl (sh_sub_n))))))) tg
theorem sl_34_52 {x1 : Int32} {x2 : Int32} {x3 : Int32} {x5 : Int32} {m m2 : sh_X} {o : Outcome} {z : ((Int32 × Int32 × Int32) ⊕ Int32)} (e : sf_34_52 x1 x2 x3 x5 m = some z) (tg : (sh_el (fun q => sh_Lk 34 8 [(0, .ref 3), (1, .int x1), (2, .int x2), (3, .int q.1), (4, .int q.2.1), (5, .int q.2.2)] [] m o m2 31 624) (sh_tIc m o m2)) z) : sh_Lk 34 52 [(0, .ref 3), (1, .int x1), (2, .int x2), (3, .int x3), (5, .int x5)] [] m o m2 31 624 := by
  unfold sf_34_52 at e
  refine sh_Lk_lift (T := m.T) (I := m.I) (J := m.J) (s := m.s) (pc2 := 61) (lv2 := [(4, .int (x5 + 1)), (3, .int (x3 + 1)), (0, .ref 3), (1, .int x1), (2, .int x2), (5, .int x5)]) (st2 := []) (I2 := m.I) (J2 := m.J) (fun hT v kk => ?_) ?_
  · refine sh_w (i := (.iinc 3 1)) (len := 3) (pc2 := 55) (lv2 := [(3, .int (x3 + 1)), (0, .ref 3), (1, .int x1), (2, .int x2), (5, .int x5)]) (st2 := []) (h2 := (sh_rep m.T m.I m.J)) rfl rfl rfl ?_
    refine sh_w (i := (.iload 5)) (len := 2) (pc2 := 57) (lv2 := [(3, .int (x3 + 1)), (0, .ref 3), (1, .int x1), (2, .int x2), (5, .int x5)]) (st2 := [.int x5]) (h2 := (sh_rep m.T m.I m.J)) rfl rfl rfl ?_
    refine sh_w (i := (.iconst 1)) (len := 1) (pc2 := 58) (lv2 := [(3, .int (x3 + 1)), (0, .ref 3), (1, .int x1), (2, .int x2), (5, .int x5)]) (st2 := [.int 1, .int x5]) (h2 := (sh_rep m.T m.I m.J)) rfl rfl rfl ?_
    refine sh_w (i := .iadd) (len := 1) (pc2 := 59) (lv2 := [(3, .int (x3 + 1)), (0, .ref 3), (1, .int x1), (2, .int x2), (5, .int x5)]) (st2 := [.int (x5 + 1)]) (h2 := (sh_rep m.T m.I m.J)) rfl rfl rfl ?_
    refine sh_w (i := (.istore 4)) (len := 2) (pc2 := 61) (lv2 := [(4, .int (x5 + 1)), (3, .int (x3 + 1)), (0, .ref 3), (1, .int x1), (2, .int x2), (5, .int x5)]) (st2 := []) (h2 := (sh_rep m.T m.I m.J)) rfl rfl rfl ?_
    exact kk
  exact sh_Lk_sub (sh_sub_c rfl (sh_sub_c rfl (sh_sub_c rfl (sh_sub_c rfl (sh_sub_c rfl (sh_sub_c rfl (sh_sub_n))))))) (sl_34_61 e tg)
theorem sl_34_8s {x1 : Int32} {x2 : Int32} {x3 : Int32} {x4 : Int32} {x5 : Int32} {m m2 : sh_X} {o : Outcome} {z : ((Int32 × Int32 × Int32) ⊕ Int32)} (e : sf_34_8s x1 x2 x3 x4 x5 m = some z) (tg : (sh_el (fun q => sh_Lk 34 8 [(0, .ref 3), (1, .int x1), (2, .int x2), (3, .int q.1), (4, .int q.2.1), (5, .int q.2.2)] [] m o m2 31 624) (sh_tIc m o m2)) z) : sh_Lk 34 8 [(0, .ref 3), (1, .int x1), (2, .int x2), (3, .int x3), (4, .int x4), (5, .int x5)] [] m o m2 31 624 := by
  unfold sf_34_8s at e
  refine sh_Lk_lift (T := m.T) (I := m.I) (J := m.J) (s := m.s) (pc2 := 12) (lv2 := [(0, .ref 3), (1, .int x1), (2, .int x2), (3, .int x3), (4, .int x4), (5, .int x5)]) (st2 := [.ref 1000001, .int x5]) (I2 := m.I) (J2 := m.J) (fun hT v kk => ?_) ?_
  · refine sh_w (i := (.iload 5)) (len := 2) (pc2 := 10) (lv2 := [(0, .ref 3), (1, .int x1), (2, .int x2), (3, .int x3), (4, .int x4), (5, .int x5)]) (st2 := [.int x5]) (h2 := (sh_rep m.T m.I m.J)) rfl rfl rfl ?_
    refine sh_w (i := (.ldc 121)) (len := 2) (pc2 := 12) (lv2 := [(0, .ref 3), (1, .int x1), (2, .int x2), (3, .int x3), (4, .int x4), (5, .int x5)]) (st2 := [.ref 1000001, .int x5]) (h2 := (sh_rep m.T m.I m.J)) rfl rfl rfl ?_
    exact kk
  refine sh_Lk_tl (j := 0) (pc2 := 15) rfl rfl rfl (by decide) (Nat.le_of_ble_eq_true rfl) rfl (Nat.le_of_ble_eq_true rfl) (Nat.le_of_ble_eq_true rfl) ?_
  rcases sh_ite e with ⟨c, e⟩ | ⟨c, e⟩
  · refine sh_Lk_lift (T := m.T) (I := m.I) (J := m.J) (s := m.s) (pc2 := 22) (lv2 := [(0, .ref 3), (1, .int x1), (2, .int x2), (3, .int x3), (4, .int x4), (5, .int x5)]) (st2 := [.int x5, .ref 1000001]) (I2 := m.I) (J2 := m.J) (fun hT v kk => ?_) ?_
    · refine sh_jc (c := .ge) (off := (52)) (pc2 := 18) false rfl (sh_Bgef c) rfl ?_
      refine sh_w (i := (.ldc 121)) (len := 2) (pc2 := 20) (lv2 := [(0, .ref 3), (1, .int x1), (2, .int x2), (3, .int x3), (4, .int x4), (5, .int x5)]) (st2 := [.ref 1000001]) (h2 := (sh_rep m.T m.I m.J)) rfl rfl rfl ?_
      refine sh_w (i := (.iload 5)) (len := 2) (pc2 := 22) (lv2 := [(0, .ref 3), (1, .int x1), (2, .int x2), (3, .int x3), (4, .int x4), (5, .int x5)]) (st2 := [.int x5, .ref 1000001]) (h2 := (sh_rep m.T m.I m.J)) rfl rfl rfl ?_
      exact kk
    obtain ⟨c, e⟩ := sh_gd e
    refine sh_Lk_tc (j := 0) (pc2 := 25) rfl rfl rfl c (Nat.le_of_ble_eq_true rfl) rfl (Nat.le_of_ble_eq_true rfl) (Nat.le_of_ble_eq_true rfl) ?_
    refine sh_Lk_lift (T := m.T) (I := m.I) (J := m.J) (s := m.s) (pc2 := 27) (lv2 := [(0, .ref 3), (1, .int x1), (2, .int x2), (3, .int x3), (4, .int x4), (5, .int x5)]) (st2 := [.int 32, .int (sh_txc 0 x5)]) (I2 := m.I) (J2 := m.J) (fun hT v kk => ?_) ?_
    · refine sh_w (i := (.bipush 32)) (len := 2) (pc2 := 27) (lv2 := [(0, .ref 3), (1, .int x1), (2, .int x2), (3, .int x3), (4, .int x4), (5, .int x5)]) (st2 := [.int 32, .int (sh_txc 0 x5)]) (h2 := (sh_rep m.T m.I m.J)) rfl rfl rfl ?_
      exact kk
    rcases sh_ite e with ⟨c, e⟩ | ⟨c, e⟩
    · refine sh_Lk_lift (T := m.T) (I := m.I) (J := m.J) (s := m.s) (pc2 := 36) (lv2 := [(0, .ref 3), (1, .int x1), (2, .int x2), (3, .int x3), (4, .int x4), (5, .int x5)]) (st2 := [.int x2, .int (x5 - x4)]) (I2 := m.I) (J2 := m.J) (fun hT v kk => ?_) ?_
      · refine sh_jc (c := .ne) (off := (34)) (pc2 := 30) false rfl (sh_Bnef c) rfl ?_
        refine sh_w (i := (.iload 5)) (len := 2) (pc2 := 32) (lv2 := [(0, .ref 3), (1, .int x1), (2, .int x2), (3, .int x3), (4, .int x4), (5, .int x5)]) (st2 := [.int x5]) (h2 := (sh_rep m.T m.I m.J)) rfl rfl rfl ?_
        refine sh_w (i := (.iload 4)) (len := 2) (pc2 := 34) (lv2 := [(0, .ref 3), (1, .int x1), (2, .int x2), (3, .int x3), (4, .int x4), (5, .int x5)]) (st2 := [.int x4, .int x5]) (h2 := (sh_rep m.T m.I m.J)) rfl rfl rfl ?_
        refine sh_w (i := .isub) (len := 1) (pc2 := 35) (lv2 := [(0, .ref 3), (1, .int x1), (2, .int x2), (3, .int x3), (4, .int x4), (5, .int x5)]) (st2 := [.int (x5 - x4)]) (h2 := (sh_rep m.T m.I m.J)) rfl rfl rfl ?_
        refine sh_w (i := (.iload_n 2)) (len := 1) (pc2 := 36) (lv2 := [(0, .ref 3), (1, .int x1), (2, .int x2), (3, .int x3), (4, .int x4), (5, .int x5)]) (st2 := [.int x2, .int (x5 - x4)]) (h2 := (sh_rep m.T m.I m.J)) rfl rfl rfl ?_
        exact kk
      rcases sh_ite e with ⟨c, e⟩ | ⟨c, e⟩
      · refine sh_Lk_lift (T := m.T) (I := m.I) (J := m.J) (s := m.s) (pc2 := 44) (lv2 := [(0, .ref 3), (1, .int x1), (2, .int x2), (3, .int x3), (4, .int x4), (5, .int x5)]) (st2 := [.int x2, .int x1, .int x4, .ref 3]) (I2 := m.I) (J2 := m.J) (fun hT v kk => ?_) ?_
        · refine sh_jc (c := .ne) (off := (16)) (pc2 := 39) false rfl (sh_Bnef c) rfl ?_
          refine sh_w (i := (.aload_n 0)) (len := 1) (pc2 := 40) (lv2 := [(0, .ref 3), (1, .int x1), (2, .int x2), (3, .int x3), (4, .int x4), (5, .int x5)]) (st2 := [.ref 3]) (h2 := (sh_rep m.T m.I m.J)) rfl rfl rfl ?_
          refine sh_w (i := (.iload 4)) (len := 2) (pc2 := 42) (lv2 := [(0, .ref 3), (1, .int x1), (2, .int x2), (3, .int x3), (4, .int x4), (5, .int x5)]) (st2 := [.int x4, .ref 3]) (h2 := (sh_rep m.T m.I m.J)) rfl rfl rfl ?_
          refine sh_w (i := (.iload_n 1)) (len := 1) (pc2 := 43) (lv2 := [(0, .ref 3), (1, .int x1), (2, .int x2), (3, .int x3), (4, .int x4), (5, .int x5)]) (st2 := [.int x1, .int x4, .ref 3]) (h2 := (sh_rep m.T m.I m.J)) rfl rfl rfl ?_
          refine sh_w (i := (.iload_n 2)) (len := 1) (pc2 := 44) (lv2 := [(0, .ref 3), (1, .int x1), (2, .int x2), (3, .int x3), (4, .int x4), (5, .int x5)]) (st2 := [.int x2, .int x1, .int x4, .ref 3]) (h2 := (sh_rep m.T m.I m.J)) rfl rfl rfl ?_
          exact kk
        obtain ⟨r1, e1, e⟩ := sh_bc_e e
        refine sh_Lk_cV (r := (some (.int (sh_b2 r1)))) (st2 := [.int (sh_b2 r1)]) (pc2 := 47) (k2 := 35) (a := 2) (as := [.ref 3, .int x4, .int x1, .int x2]) (rest := []) rfl rfl rfl (fun hT => hT.t2) rfl rfl ⟨Nat.le_of_ble_eq_true rfl, Nat.le_of_ble_eq_true rfl⟩ (sl_35 e1 ⟨rfl, rfl⟩) rfl rfl (Nat.le_of_ble_eq_true rfl) (Nat.le_of_ble_eq_true rfl) ?_
        rcases sh_ite e with ⟨c, e⟩ | ⟨c, e⟩
        · refine sh_Lk_lift (T := m.T) (I := m.I) (J := m.J) (s := m.s) (pc2 := 51) (lv2 := [(0, .ref 3), (1, .int x1), (2, .int x2), (3, .int x3), (4, .int x4), (5, .int x5)]) (st2 := [.int x3]) (I2 := m.I) (J2 := m.J) (fun hT v kk => ?_) ?_
          · refine sh_j0 (c := .eq) (off := (5)) (pc2 := 50) false rfl (sh_Zeqf c) rfl ?_
            refine sh_w (i := (.iload_n 3)) (len := 1) (pc2 := 51) (lv2 := [(0, .ref 3), (1, .int x1), (2, .int x2), (3, .int x3), (4, .int x4), (5, .int x5)]) (st2 := [.int x3]) (h2 := (sh_rep m.T m.I m.J)) rfl rfl rfl ?_
            exact kk
          obtain rfl := Option.some.inj e
          obtain ⟨rfl, rfl⟩ := tg
          exact sh_Lk_ret (i := .ireturn) rfl rfl rfl (Nat.le_of_ble_eq_true rfl) (Nat.le_of_ble_eq_true rfl)
        · refine sh_Lk_lift (T := m.T) (I := m.I) (J := m.J) (s := m.s) (pc2 := 52) (lv2 := [(0, .ref 3), (1, .int x1), (2, .int x2), (3, .int x3), (4, .int x4), (5, .int x5)]) (st2 := []) (I2 := m.I) (J2 := m.J) (fun hT v kk => ?_) ?_
          · refine sh_j0 (c := .eq) (off := (5)) (pc2 := 52) true rfl (sh_Zeqt c) rfl ?_
            exact kk
          exact sh_Lk_sub (sh_sub_c rfl (sh_sub_c rfl (sh_sub_c rfl (sh_sub_c rfl (sh_sub_c rfl (sh_sub_n)))))) (sl_34_52 e tg)
      · refine sh_Lk_lift (T := m.T) (I := m.I) (J := m.J) (s := m.s) (pc2 := 52) (lv2 := [(0, .ref 3), (1, .int x1), (2, .int x2), (3, .int x3), (4, .int x4), (5, .int x5)]) (st2 := []) (I2 := m.I) (J2 := m.J) (fun hT v kk => ?_) ?_
        · refine sh_jc (c := .ne) (off := (16)) (pc2 := 52) true rfl (sh_Bnet c) rfl ?_
          exact kk
        exact sh_Lk_sub (sh_sub_c rfl (sh_sub_c rfl (sh_sub_c rfl (sh_sub_c rfl (sh_sub_c rfl (sh_sub_n)))))) (sl_34_52 e tg)
    · refine sh_Lk_lift (T := m.T) (I := m.I) (J := m.J) (s := m.s) (pc2 := 61) (lv2 := [(0, .ref 3), (1, .int x1), (2, .int x2), (3, .int x3), (4, .int x4), (5, .int x5)]) (st2 := []) (I2 := m.I) (J2 := m.J) (fun hT v kk => ?_) ?_
      · refine sh_jc (c := .ne) (off := (34)) (pc2 := 61) true rfl (sh_Bnet c) rfl ?_
        exact kk
      exact sh_Lk_sub (sh_sub_c rfl (sh_sub_c rfl (sh_sub_c rfl (sh_sub_c rfl (sh_sub_c rfl (sh_sub_c rfl (sh_sub_n))))))) (sl_34_61 e tg)
  · refine sh_Lk_lift (T := m.T) (I := m.I) (J := m.J) (s := m.s) (pc2 := 68) (lv2 := [(0, .ref 3), (1, .int x1), (2, .int x2), (3, .int x3), (4, .int x4), (5, .int x5)]) (st2 := [.int 1]) (I2 := m.I) (J2 := m.J) (fun hT v kk => ?_) ?_
    · refine sh_jc (c := .ge) (off := (52)) (pc2 := 67) true rfl (sh_Bget c) rfl ?_
      refine sh_w (i := (.iconst 1)) (len := 1) (pc2 := 68) (lv2 := [(0, .ref 3), (1, .int x1), (2, .int x2), (3, .int x3), (4, .int x4), (5, .int x5)]) (st2 := [.int 1]) (h2 := (sh_rep m.T m.I m.J)) rfl rfl rfl ?_
      exact kk
    obtain rfl := Option.some.inj e
    obtain ⟨rfl, rfl⟩ := tg
    exact sh_Lk_ret (i := .ireturn) rfl rfl rfl (Nat.le_of_ble_eq_true rfl) (Nat.le_of_ble_eq_true rfl)
theorem sl_34_8 {x1 : Int32} {x2 : Int32} {x3 : Int32} {x4 : Int32} {x5 : Int32} {m m2 : sh_X} {o : Outcome} {z : Int32} (e : sf_34_8 x1 x2 x3 x4 x5 m = some z) (tg : (sh_tIc m o m2) z) : sh_Lk 34 8 [(0, .ref 3), (1, .int x1), (2, .int x2), (3, .int x3), (4, .int x4), (5, .int x5)] [] m o m2 31 624 := by
  unfold sf_34_8 at e
  exact sh_while_lk (P := fun q => sh_Lk 34 8 [(0, .ref 3), (1, .int x1), (2, .int x2), (3, .int q.1), (4, .int q.2.1), (5, .int q.2.2)] [] m o m2 31 624) (Q := (sh_tIc m o m2)) (fun q z e tg => sl_34_8s (x1 := x1) (x2 := x2) (x3 := q.1) (x4 := q.2.1) (x5 := q.2.2) (m := m) e tg) (s := (x3, x4, x5)) e tg
theorem sl_34 {x1 : Int32} {x2 : Int32} {m m2 : sh_X} {o : Outcome} {z : Int32} (e : sf_34 x1 x2 m = some z) (tg : (sh_tIc m o m2) z) : sh_Lk 34 0 [(0, .ref 3), (1, .int x1), (2, .int x2)] [] m o m2 31 624 := by
  unfold sf_34 at e
  refine sh_Lk_lift (T := m.T) (I := m.I) (J := m.J) (s := m.s) (pc2 := 8) (lv2 := [(5, .int 0), (4, .int 0), (3, .int 4), (0, .ref 3), (1, .int x1), (2, .int x2)]) (st2 := []) (I2 := m.I) (J2 := m.J) (fun hT v kk => ?_) ?_
  · refine sh_w (i := (.iconst 4)) (len := 1) (pc2 := 1) (lv2 := [(0, .ref 3), (1, .int x1), (2, .int x2)]) (st2 := [.int 4]) (h2 := (sh_rep m.T m.I m.J)) rfl rfl rfl ?_
    refine sh_w (i := (.istore_n 3)) (len := 1) (pc2 := 2) (lv2 := [(3, .int 4), (0, .ref 3), (1, .int x1), (2, .int x2)]) (st2 := []) (h2 := (sh_rep m.T m.I m.J)) rfl rfl rfl ?_
    refine sh_w (i := (.iconst 0)) (len := 1) (pc2 := 3) (lv2 := [(3, .int 4), (0, .ref 3), (1, .int x1), (2, .int x2)]) (st2 := [.int 0]) (h2 := (sh_rep m.T m.I m.J)) rfl rfl rfl ?_
    refine sh_w (i := (.istore 4)) (len := 2) (pc2 := 5) (lv2 := [(4, .int 0), (3, .int 4), (0, .ref 3), (1, .int x1), (2, .int x2)]) (st2 := []) (h2 := (sh_rep m.T m.I m.J)) rfl rfl rfl ?_
    refine sh_w (i := (.iconst 0)) (len := 1) (pc2 := 6) (lv2 := [(4, .int 0), (3, .int 4), (0, .ref 3), (1, .int x1), (2, .int x2)]) (st2 := [.int 0]) (h2 := (sh_rep m.T m.I m.J)) rfl rfl rfl ?_
    refine sh_w (i := (.istore 5)) (len := 2) (pc2 := 8) (lv2 := [(5, .int 0), (4, .int 0), (3, .int 4), (0, .ref 3), (1, .int x1), (2, .int x2)]) (st2 := []) (h2 := (sh_rep m.T m.I m.J)) rfl rfl rfl ?_
    exact kk
  exact sh_Lk_sub (sh_sub_c rfl (sh_sub_c rfl (sh_sub_c rfl (sh_sub_c rfl (sh_sub_c rfl (sh_sub_c rfl (sh_sub_n))))))) (sl_34_8 e tg)
theorem sl_37_3s {x1 : Int32} {x2 : Int32} {x3 : Int32} {x4 : Int32} {m m2 : sh_X} {o : Outcome} {z : (Int32 ⊕ Bool)} (e : sf_37_3s x1 x2 x3 x4 m = some z) (tg : (sh_el (fun q => sh_Lk 37 3 [(0, .ref 3), (1, .int x1), (2, .int x2), (3, .int x3), (4, .int q)] [] m o m2 9 221) (sh_tZc m o m2)) z) : sh_Lk 37 3 [(0, .ref 3), (1, .int x1), (2, .int x2), (3, .int x3), (4, .int x4)] [] m o m2 9 221 := by
  unfold sf_37_3s at e
  refine sh_Lk_lift (T := m.T) (I := m.I) (J := m.J) (s := m.s) (pc2 := 6) (lv2 := [(0, .ref 3), (1, .int x1), (2, .int x2), (3, .int x3), (4, .int x4)]) (st2 := [.int x3, .int x4]) (I2 := m.I) (J2 := m.J) (fun hT v kk => ?_) ?_
  · refine sh_w (i := (.iload 4)) (len := 2) (pc2 := 5) (lv2 := [(0, .ref 3), (1, .int x1), (2, .int x2), (3, .int x3), (4, .int x4)]) (st2 := [.int x4]) (h2 := (sh_rep m.T m.I m.J)) rfl rfl rfl ?_
    refine sh_w (i := (.iload_n 3)) (len := 1) (pc2 := 6) (lv2 := [(0, .ref 3), (1, .int x1), (2, .int x2), (3, .int x3), (4, .int x4)]) (st2 := [.int x3, .int x4]) (h2 := (sh_rep m.T m.I m.J)) rfl rfl rfl ?_
    exact kk
  rcases sh_ite e with ⟨c, e⟩ | ⟨c, e⟩
  · refine sh_Lk_lift (T := m.T) (I := m.I) (J := m.J) (s := m.s) (pc2 := 14) (lv2 := [(0, .ref 3), (1, .int x1), (2, .int x2), (3, .int x3), (4, .int x4)]) (st2 := [.int (x1 + x4), .ref 3]) (I2 := m.I) (J2 := m.J) (fun hT v kk => ?_) ?_
    · refine sh_jc (c := .ge) (off := (30)) (pc2 := 9) false rfl (sh_Bgef c) rfl ?_
      refine sh_w (i := (.aload_n 0)) (len := 1) (pc2 := 10) (lv2 := [(0, .ref 3), (1, .int x1), (2, .int x2), (3, .int x3), (4, .int x4)]) (st2 := [.ref 3]) (h2 := (sh_rep m.T m.I m.J)) rfl rfl rfl ?_
      refine sh_w (i := (.iload_n 1)) (len := 1) (pc2 := 11) (lv2 := [(0, .ref 3), (1, .int x1), (2, .int x2), (3, .int x3), (4, .int x4)]) (st2 := [.int x1, .ref 3]) (h2 := (sh_rep m.T m.I m.J)) rfl rfl rfl ?_
      refine sh_w (i := (.iload 4)) (len := 2) (pc2 := 13) (lv2 := [(0, .ref 3), (1, .int x1), (2, .int x2), (3, .int x3), (4, .int x4)]) (st2 := [.int x4, .int x1, .ref 3]) (h2 := (sh_rep m.T m.I m.J)) rfl rfl rfl ?_
      refine sh_w (i := .iadd) (len := 1) (pc2 := 14) (lv2 := [(0, .ref 3), (1, .int x1), (2, .int x2), (3, .int x3), (4, .int x4)]) (st2 := [.int (x1 + x4), .ref 3]) (h2 := (sh_rep m.T m.I m.J)) rfl rfl rfl ?_
      exact kk
    obtain ⟨r1, e1, e⟩ := sh_bc_e e
    refine sh_Lk_cV (r := (some (.int r1))) (st2 := [.int r1]) (pc2 := 17) (k2 := 26) (a := 2) (as := [.ref 3, .int (x1 + x4)]) (rest := []) rfl rfl rfl (fun hT => hT.t2) rfl rfl ⟨Nat.le_of_ble_eq_true rfl, Nat.le_of_ble_eq_true rfl⟩ (sl_26 e1 ⟨rfl, rfl⟩) rfl rfl (Nat.le_of_ble_eq_true rfl) (Nat.le_of_ble_eq_true rfl) ?_
    refine sh_Lk_lift (T := m.T) (I := m.I) (J := m.J) (s := m.s) (pc2 := 22) (lv2 := [(0, .ref 3), (1, .int x1), (2, .int x2), (3, .int x3), (4, .int x4)]) (st2 := [.int (x2 + x4), .ref 3, .int r1]) (I2 := m.I) (J2 := m.J) (fun hT v kk => ?_) ?_
    · refine sh_w (i := (.aload_n 0)) (len := 1) (pc2 := 18) (lv2 := [(0, .ref 3), (1, .int x1), (2, .int x2), (3, .int x3), (4, .int x4)]) (st2 := [.ref 3, .int r1]) (h2 := (sh_rep m.T m.I m.J)) rfl rfl rfl ?_
      refine sh_w (i := (.iload_n 2)) (len := 1) (pc2 := 19) (lv2 := [(0, .ref 3), (1, .int x1), (2, .int x2), (3, .int x3), (4, .int x4)]) (st2 := [.int x2, .ref 3, .int r1]) (h2 := (sh_rep m.T m.I m.J)) rfl rfl rfl ?_
      refine sh_w (i := (.iload 4)) (len := 2) (pc2 := 21) (lv2 := [(0, .ref 3), (1, .int x1), (2, .int x2), (3, .int x3), (4, .int x4)]) (st2 := [.int x4, .int x2, .ref 3, .int r1]) (h2 := (sh_rep m.T m.I m.J)) rfl rfl rfl ?_
      refine sh_w (i := .iadd) (len := 1) (pc2 := 22) (lv2 := [(0, .ref 3), (1, .int x1), (2, .int x2), (3, .int x3), (4, .int x4)]) (st2 := [.int (x2 + x4), .ref 3, .int r1]) (h2 := (sh_rep m.T m.I m.J)) rfl rfl rfl ?_
      exact kk
    obtain ⟨r2, e2, e⟩ := sh_bc_e e
    refine sh_Lk_cV (r := (some (.int r2))) (st2 := [.int r2, .int r1]) (pc2 := 25) (k2 := 26) (a := 2) (as := [.ref 3, .int (x2 + x4)]) (rest := [.int r1]) rfl rfl rfl (fun hT => hT.t2) rfl rfl ⟨Nat.le_of_ble_eq_true rfl, Nat.le_of_ble_eq_true rfl⟩ (sl_26 e2 ⟨rfl, rfl⟩) rfl rfl (Nat.le_of_ble_eq_true rfl) (Nat.le_of_ble_eq_true rfl) ?_
    rcases sh_ite e with ⟨c, e⟩ | ⟨c, e⟩
    · refine sh_Lk_lift (T := m.T) (I := m.I) (J := m.J) (s := m.s) (pc2 := 3) (lv2 := [(4, .int (x4 + 1)), (0, .ref 3), (1, .int x1), (2, .int x2), (3, .int x3)]) (st2 := []) (I2 := m.I) (J2 := m.J) (fun hT v kk => ?_) ?_
      · refine sh_jc (c := .eq) (off := (5)) (pc2 := 30) true rfl (sh_Beqt c) rfl ?_
        refine sh_w (i := (.iinc 4 1)) (len := 3) (pc2 := 33) (lv2 := [(4, .int (x4 + 1)), (0, .ref 3), (1, .int x1), (2, .int x2), (3, .int x3)]) (st2 := []) (h2 := (sh_rep m.T m.I m.J)) rfl rfl rfl ?_
        refine sh_w (i := (.goto (-30))) (len := 3) (pc2 := 3) (lv2 := [(4, .int (x4 + 1)), (0, .ref 3), (1, .int x1), (2, .int x2), (3, .int x3)]) (st2 := []) (h2 := (sh_rep m.T m.I m.J)) rfl rfl rfl ?_
        exact kk
      obtain rfl := Option.some.inj e
      exact sh_Lk_sub (sh_sub_c rfl (sh_sub_c rfl (sh_sub_c rfl (sh_sub_c rfl (sh_sub_c rfl (sh_sub_n)))))) tg
    · refine sh_Lk_lift (T := m.T) (I := m.I) (J := m.J) (s := m.s) (pc2 := 29) (lv2 := [(0, .ref 3), (1, .int x1), (2, .int x2), (3, .int x3), (4, .int x4)]) (st2 := [.int 0]) (I2 := m.I) (J2 := m.J) (fun hT v kk => ?_) ?_
      · refine sh_jc (c := .eq) (off := (5)) (pc2 := 28) false rfl (sh_Beqf c) rfl ?_
        refine sh_w (i := (.iconst 0)) (len := 1) (pc2 := 29) (lv2 := [(0, .ref 3), (1, .int x1), (2, .int x2), (3, .int x3), (4, .int x4)]) (st2 := [.int 0]) (h2 := (sh_rep m.T m.I m.J)) rfl rfl rfl ?_
        exact kk
      obtain rfl := Option.some.inj e
      obtain ⟨rfl, rfl⟩ := tg
      exact sh_Lk_ret (i := .ireturn) rfl rfl rfl (Nat.le_of_ble_eq_true rfl) (Nat.le_of_ble_eq_true rfl)
  · refine sh_Lk_lift (T := m.T) (I := m.I) (J := m.J) (s := m.s) (pc2 := 37) (lv2 := [(0, .ref 3), (1, .int x1), (2, .int x2), (3, .int x3), (4, .int x4)]) (st2 := [.int 1]) (I2 := m.I) (J2 := m.J) (fun hT v kk => ?_) ?_
    · refine sh_jc (c := .ge) (off := (30)) (pc2 := 36) true rfl (sh_Bget c) rfl ?_
      refine sh_w (i := (.iconst 1)) (len := 1) (pc2 := 37) (lv2 := [(0, .ref 3), (1, .int x1), (2, .int x2), (3, .int x3), (4, .int x4)]) (st2 := [.int 1]) (h2 := (sh_rep m.T m.I m.J)) rfl rfl rfl ?_
      exact kk
    obtain rfl := Option.some.inj e
    obtain ⟨rfl, rfl⟩ := tg
    exact sh_Lk_ret (i := .ireturn) rfl rfl rfl (Nat.le_of_ble_eq_true rfl) (Nat.le_of_ble_eq_true rfl)
theorem sl_37_3 {x1 : Int32} {x2 : Int32} {x3 : Int32} {x4 : Int32} {m m2 : sh_X} {o : Outcome} {z : Bool} (e : sf_37_3 x1 x2 x3 x4 m = some z) (tg : (sh_tZc m o m2) z) : sh_Lk 37 3 [(0, .ref 3), (1, .int x1), (2, .int x2), (3, .int x3), (4, .int x4)] [] m o m2 9 221 := by
  unfold sf_37_3 at e
  exact sh_while_lk (P := fun q => sh_Lk 37 3 [(0, .ref 3), (1, .int x1), (2, .int x2), (3, .int x3), (4, .int q)] [] m o m2 9 221) (Q := (sh_tZc m o m2)) (fun q z e tg => sl_37_3s (x1 := x1) (x2 := x2) (x3 := x3) (x4 := q) (m := m) e tg) (s := x4) e tg
theorem sl_37 {x1 : Int32} {x2 : Int32} {x3 : Int32} {m m2 : sh_X} {o : Outcome} {z : Bool} (e : sf_37 x1 x2 x3 m = some z) (tg : (sh_tZc m o m2) z) : sh_Lk 37 0 [(0, .ref 3), (1, .int x1), (2, .int x2), (3, .int x3)] [] m o m2 9 221 := by
  unfold sf_37 at e
  refine sh_Lk_lift (T := m.T) (I := m.I) (J := m.J) (s := m.s) (pc2 := 3) (lv2 := [(4, .int 0), (0, .ref 3), (1, .int x1), (2, .int x2), (3, .int x3)]) (st2 := []) (I2 := m.I) (J2 := m.J) (fun hT v kk => ?_) ?_
  · refine sh_w (i := (.iconst 0)) (len := 1) (pc2 := 1) (lv2 := [(0, .ref 3), (1, .int x1), (2, .int x2), (3, .int x3)]) (st2 := [.int 0]) (h2 := (sh_rep m.T m.I m.J)) rfl rfl rfl ?_
    refine sh_w (i := (.istore 4)) (len := 2) (pc2 := 3) (lv2 := [(4, .int 0), (0, .ref 3), (1, .int x1), (2, .int x2), (3, .int x3)]) (st2 := []) (h2 := (sh_rep m.T m.I m.J)) rfl rfl rfl ?_
    exact kk
  exact sh_Lk_sub (sh_sub_c rfl (sh_sub_c rfl (sh_sub_c rfl (sh_sub_c rfl (sh_sub_c rfl (sh_sub_n)))))) (sl_37_3 e tg)
theorem sl_36_37 {x1 : Int32} {x2 : Int32} {x3 : Int32} {m m2 : sh_X} {o : Outcome} {z : ((Int32 × sh_X) ⊕ (Int32 × sh_X))} (e : sf_36_37 x1 x2 x3 m = some z) (tg : (sh_el (fun q => sh_Lk 36 2 [(0, .ref 3), (1, .int x1), (2, .int x2), (3, .int q.1)] [] q.2 o m2 10 245) (sh_tI o m2)) z) : sh_Lk 36 37 [(0, .ref 3), (1, .int x1), (2, .int x2), (3, .int x3)] [] m o m2 10 245 := by
  unfold sf_36_37 at e
  refine sh_Lk_lift (T := m.T) (I := m.I) (J := m.J) (s := m.s) (pc2 := 2) (lv2 := [(3, .int (x3 + 1)), (0, .ref 3), (1, .int x1), (2, .int x2)]) (st2 := []) (I2 := m.I) (J2 := m.J) (fun hT v kk => ?_) ?_
  · refine sh_w (i := (.iinc 3 1)) (len := 3) (pc2 := 40) (lv2 := [(3, .int (x3 + 1)), (0, .ref 3), (1, .int x1), (2, .int x2)]) (st2 := []) (h2 := (sh_rep m.T m.I m.J)) rfl rfl rfl ?_
    refine sh_w (i := (.goto (-38))) (len := 3) (pc2 := 2) (lv2 := [(3, .int (x3 + 1)), (0, .ref 3), (1, .int x1), (2, .int x2)]) (st2 := []) (h2 := (sh_rep m.T m.I m.J)) rfl rfl rfl ?_
    exact kk
  obtain rfl := Option.some.inj e
  exact sh_Lk_sub (sh_sub_c rfl (sh_sub_c rfl (sh_sub_c rfl (sh_sub_c rfl (sh_sub_n))))) tg
theorem sl_36_83 {m m2 : sh_X} {o : Outcome} {z : (Int32 × sh_X)} (e : sf_36_83 m = some z) (tg : (sh_tI o m2) z) : sh_Lk 36 83 [(0, .ref 3)] [] m o m2 10 245 := by
  unfold sf_36_83 at e
  refine sh_Lk_lift (T := m.T) (I := m.I) (J := m.J) (s := m.s) (pc2 := 89) (lv2 := [(0, .ref 3)]) (st2 := [.int ((m.I 2 8) - 1)]) (I2 := m.I) (J2 := m.J) (fun hT v kk => ?_) ?_
  · refine sh_w (i := (.aload_n 0)) (len := 1) (pc2 := 84) (lv2 := [(0, .ref 3)]) (st2 := [.ref 3]) (h2 := (sh_rep m.T m.I m.J)) rfl rfl rfl ?_
    refine sh_gI1 (len := 3) (x := m.I 2 8) (pc2 := 87) rfl rfl hT.t2 rfl rfl rfl ?_
    refine sh_w (i := (.iconst 1)) (len := 1) (pc2 := 88) (lv2 := [(0, .ref 3)]) (st2 := [.int 1, .int (m.I 2 8)]) (h2 := (sh_rep m.T m.I m.J)) rfl rfl rfl ?_
    refine sh_w (i := .isub) (len := 1) (pc2 := 89) (lv2 := [(0, .ref 3)]) (st2 := [.int ((m.I 2 8) - 1)]) (h2 := (sh_rep m.T m.I m.J)) rfl rfl rfl ?_
    exact kk
  obtain rfl := Option.some.inj e
  obtain ⟨rfl, rfl⟩ := tg
  exact sh_Lk_ret (i := .ireturn) rfl rfl rfl (Nat.le_of_ble_eq_true rfl) (Nat.le_of_ble_eq_true rfl)
theorem sl_36_2s {x1 : Int32} {x2 : Int32} {x3 : Int32} {m m2 : sh_X} {o : Outcome} {z : ((Int32 × sh_X) ⊕ (Int32 × sh_X))} (e : sf_36_2s x1 x2 x3 m = some z) (tg : (sh_el (fun q => sh_Lk 36 2 [(0, .ref 3), (1, .int x1), (2, .int x2), (3, .int q.1)] [] q.2 o m2 10 245) (sh_tI o m2)) z) : sh_Lk 36 2 [(0, .ref 3), (1, .int x1), (2, .int x2), (3, .int x3)] [] m o m2 10 245 := by
  unfold sf_36_2s at e
  refine sh_Lk_lift (T := m.T) (I := m.I) (J := m.J) (s := m.s) (pc2 := 7) (lv2 := [(0, .ref 3), (1, .int x1), (2, .int x2), (3, .int x3)]) (st2 := [.int (m.I 2 8), .int x3]) (I2 := m.I) (J2 := m.J) (fun hT v kk => ?_) ?_
  · refine sh_w (i := (.iload_n 3)) (len := 1) (pc2 := 3) (lv2 := [(0, .ref 3), (1, .int x1), (2, .int x2), (3, .int x3)]) (st2 := [.int x3]) (h2 := (sh_rep m.T m.I m.J)) rfl rfl rfl ?_
    refine sh_w (i := (.aload_n 0)) (len := 1) (pc2 := 4) (lv2 := [(0, .ref 3), (1, .int x1), (2, .int x2), (3, .int x3)]) (st2 := [.ref 3, .int x3]) (h2 := (sh_rep m.T m.I m.J)) rfl rfl rfl ?_
    refine sh_gI1 (len := 3) (x := m.I 2 8) (pc2 := 7) rfl rfl hT.t2 rfl rfl rfl ?_
    exact kk
  rcases sh_ite e with ⟨c, e⟩ | ⟨c, e⟩
  · refine sh_Lk_lift (T := m.T) (I := m.I) (J := m.J) (s := m.s) (pc2 := 15) (lv2 := [(0, .ref 3), (1, .int x1), (2, .int x2), (3, .int x3)]) (st2 := [.int x3, .ref 8]) (I2 := m.I) (J2 := m.J) (fun hT v kk => ?_) ?_
    · refine sh_jc (c := .ge) (off := (36)) (pc2 := 10) false rfl (sh_Bgef c) rfl ?_
      refine sh_w (i := (.aload_n 0)) (len := 1) (pc2 := 11) (lv2 := [(0, .ref 3), (1, .int x1), (2, .int x2), (3, .int x3)]) (st2 := [.ref 3]) (h2 := (sh_rep m.T m.I m.J)) rfl rfl rfl ?_
      refine sh_gR1 (len := 3) (x := .ref 8) (pc2 := 14) rfl rfl hT.t2 rfl rfl ?_
      refine sh_w (i := (.iload_n 3)) (len := 1) (pc2 := 15) (lv2 := [(0, .ref 3), (1, .int x1), (2, .int x2), (3, .int x3)]) (st2 := [.int x3, .ref 8]) (h2 := (sh_rep m.T m.I m.J)) rfl rfl rfl ?_
      exact kk
    obtain ⟨c, e⟩ := sh_gd e
    refine sh_Lk_lift (T := m.T) (I := m.I) (J := m.J) (s := m.s) (pc2 := 17) (lv2 := [(0, .ref 3), (1, .int x1), (2, .int x2), (3, .int x3)]) (st2 := [.int x2, .int (m.I 7 (Int32.toNatClampNeg x3))]) (I2 := m.I) (J2 := m.J) (fun hT v kk => ?_) ?_
    · refine sh_ia1 (x := m.I 7 (Int32.toNatClampNeg x3)) (pc2 := 16) rfl (sh_s7 hT.st) (sh_okb1 c) (sh_okb2 c) rfl rfl ?_
      refine sh_w (i := (.iload_n 2)) (len := 1) (pc2 := 17) (lv2 := [(0, .ref 3), (1, .int x1), (2, .int x2), (3, .int x3)]) (st2 := [.int x2, .int (m.I 7 (Int32.toNatClampNeg x3))]) (h2 := (sh_rep m.T m.I m.J)) rfl rfl rfl ?_
      exact kk
    rcases sh_ite e with ⟨c, e⟩ | ⟨c, e⟩
    · refine sh_Lk_lift (T := m.T) (I := m.I) (J := m.J) (s := m.s) (pc2 := 26) (lv2 := [(0, .ref 3), (1, .int x1), (2, .int x2), (3, .int x3)]) (st2 := [.int x3, .ref 7, .ref 3]) (I2 := m.I) (J2 := m.J) (fun hT v kk => ?_) ?_
      · refine sh_jc (c := .ne) (off := (20)) (pc2 := 20) false rfl (sh_Bnef c) rfl ?_
        refine sh_w (i := (.aload_n 0)) (len := 1) (pc2 := 21) (lv2 := [(0, .ref 3), (1, .int x1), (2, .int x2), (3, .int x3)]) (st2 := [.ref 3]) (h2 := (sh_rep m.T m.I m.J)) rfl rfl rfl ?_
        refine sh_w (i := (.aload_n 0)) (len := 1) (pc2 := 22) (lv2 := [(0, .ref 3), (1, .int x1), (2, .int x2), (3, .int x3)]) (st2 := [.ref 3, .ref 3]) (h2 := (sh_rep m.T m.I m.J)) rfl rfl rfl ?_
        refine sh_gR1 (len := 3) (x := .ref 7) (pc2 := 25) rfl rfl hT.t2 rfl rfl ?_
        refine sh_w (i := (.iload_n 3)) (len := 1) (pc2 := 26) (lv2 := [(0, .ref 3), (1, .int x1), (2, .int x2), (3, .int x3)]) (st2 := [.int x3, .ref 7, .ref 3]) (h2 := (sh_rep m.T m.I m.J)) rfl rfl rfl ?_
        exact kk
      obtain ⟨c, e⟩ := sh_gd e
      refine sh_Lk_lift (T := m.T) (I := m.I) (J := m.J) (s := m.s) (pc2 := 29) (lv2 := [(0, .ref 3), (1, .int x1), (2, .int x2), (3, .int x3)]) (st2 := [.int x2, .int x1, .int (m.I 6 (Int32.toNatClampNeg x3)), .ref 3]) (I2 := m.I) (J2 := m.J) (fun hT v kk => ?_) ?_
      · refine sh_ia1 (x := m.I 6 (Int32.toNatClampNeg x3)) (pc2 := 27) rfl (sh_s6 hT.st) (sh_okb1 c) (sh_okb2 c) rfl rfl ?_
        refine sh_w (i := (.iload_n 1)) (len := 1) (pc2 := 28) (lv2 := [(0, .ref 3), (1, .int x1), (2, .int x2), (3, .int x3)]) (st2 := [.int x1, .int (m.I 6 (Int32.toNatClampNeg x3)), .ref 3]) (h2 := (sh_rep m.T m.I m.J)) rfl rfl rfl ?_
        refine sh_w (i := (.iload_n 2)) (len := 1) (pc2 := 29) (lv2 := [(0, .ref 3), (1, .int x1), (2, .int x2), (3, .int x3)]) (st2 := [.int x2, .int x1, .int (m.I 6 (Int32.toNatClampNeg x3)), .ref 3]) (h2 := (sh_rep m.T m.I m.J)) rfl rfl rfl ?_
        exact kk
      obtain ⟨r1, e1, e⟩ := sh_bc_e e
      refine sh_Lk_cV (r := (some (.int (sh_b2 r1)))) (st2 := [.int (sh_b2 r1)]) (pc2 := 32) (k2 := 37) (a := 2) (as := [.ref 3, .int (m.I 6 (Int32.toNatClampNeg x3)), .int x1, .int x2]) (rest := []) rfl rfl rfl (fun hT => hT.t2) rfl rfl ⟨Nat.le_of_ble_eq_true rfl, Nat.le_of_ble_eq_true rfl⟩ (sl_37 e1 ⟨rfl, rfl⟩) rfl rfl (Nat.le_of_ble_eq_true rfl) (Nat.le_of_ble_eq_true rfl) ?_
      rcases sh_ite e with ⟨c, e⟩ | ⟨c, e⟩
      · refine sh_Lk_lift (T := m.T) (I := m.I) (J := m.J) (s := m.s) (pc2 := 36) (lv2 := [(0, .ref 3), (1, .int x1), (2, .int x2), (3, .int x3)]) (st2 := [.int x3]) (I2 := m.I) (J2 := m.J) (fun hT v kk => ?_) ?_
        · refine sh_j0 (c := .eq) (off := (5)) (pc2 := 35) false rfl (sh_Zeqf c) rfl ?_
          refine sh_w (i := (.iload_n 3)) (len := 1) (pc2 := 36) (lv2 := [(0, .ref 3), (1, .int x1), (2, .int x2), (3, .int x3)]) (st2 := [.int x3]) (h2 := (sh_rep m.T m.I m.J)) rfl rfl rfl ?_
          exact kk
        obtain rfl := Option.some.inj e
        obtain ⟨rfl, rfl⟩ := tg
        exact sh_Lk_ret (i := .ireturn) rfl rfl rfl (Nat.le_of_ble_eq_true rfl) (Nat.le_of_ble_eq_true rfl)
      · refine sh_Lk_lift (T := m.T) (I := m.I) (J := m.J) (s := m.s) (pc2 := 37) (lv2 := [(0, .ref 3), (1, .int x1), (2, .int x2), (3, .int x3)]) (st2 := []) (I2 := m.I) (J2 := m.J) (fun hT v kk => ?_) ?_
        · refine sh_j0 (c := .eq) (off := (5)) (pc2 := 37) true rfl (sh_Zeqt c) rfl ?_
          exact kk
        exact sh_Lk_sub (sh_sub_c rfl (sh_sub_c rfl (sh_sub_c rfl (sh_sub_c rfl (sh_sub_n))))) (sl_36_37 e tg)
    · refine sh_Lk_lift (T := m.T) (I := m.I) (J := m.J) (s := m.s) (pc2 := 37) (lv2 := [(0, .ref 3), (1, .int x1), (2, .int x2), (3, .int x3)]) (st2 := []) (I2 := m.I) (J2 := m.J) (fun hT v kk => ?_) ?_
      · refine sh_jc (c := .ne) (off := (20)) (pc2 := 37) true rfl (sh_Bnet c) rfl ?_
        exact kk
      exact sh_Lk_sub (sh_sub_c rfl (sh_sub_c rfl (sh_sub_c rfl (sh_sub_c rfl (sh_sub_n))))) (sl_36_37 e tg)
  · refine sh_Lk_lift (T := m.T) (I := m.I) (J := m.J) (s := m.s) (pc2 := 50) (lv2 := [(0, .ref 3), (1, .int x1), (2, .int x2), (3, .int x3)]) (st2 := [.int 2001, .int (m.I 2 8)]) (I2 := m.I) (J2 := m.J) (fun hT v kk => ?_) ?_
    · refine sh_jc (c := .ge) (off := (36)) (pc2 := 43) true rfl (sh_Bget c) rfl ?_
      refine sh_w (i := (.aload_n 0)) (len := 1) (pc2 := 44) (lv2 := [(0, .ref 3), (1, .int x1), (2, .int x2), (3, .int x3)]) (st2 := [.ref 3]) (h2 := (sh_rep m.T m.I m.J)) rfl rfl rfl ?_
      refine sh_gI1 (len := 3) (x := m.I 2 8) (pc2 := 47) rfl rfl hT.t2 rfl rfl rfl ?_
      refine sh_w (i := (.sipush 2001)) (len := 3) (pc2 := 50) (lv2 := [(0, .ref 3), (1, .int x1), (2, .int x2), (3, .int x3)]) (st2 := [.int 2001, .int (m.I 2 8)]) (h2 := (sh_rep m.T m.I m.J)) rfl rfl rfl ?_
      exact kk
    rcases sh_ite e with ⟨c, e⟩ | ⟨c, e⟩
    · refine sh_Lk_lift (T := m.T) (I := m.I) (J := m.J) (s := m.s) (pc2 := 62) (lv2 := [(0, .ref 3), (1, .int x1), (2, .int x2), (3, .int x3)]) (st2 := [.int x1, .int (m.I 2 8), .ref 7]) (I2 := m.I) (J2 := m.J) (fun hT v kk => ?_) ?_
      · refine sh_jc (c := .ge) (off := (33)) (pc2 := 53) false rfl (sh_Bgef c) rfl ?_
        refine sh_w (i := (.aload_n 0)) (len := 1) (pc2 := 54) (lv2 := [(0, .ref 3), (1, .int x1), (2, .int x2), (3, .int x3)]) (st2 := [.ref 3]) (h2 := (sh_rep m.T m.I m.J)) rfl rfl rfl ?_
        refine sh_gR1 (len := 3) (x := .ref 7) (pc2 := 57) rfl rfl hT.t2 rfl rfl ?_
        refine sh_w (i := (.aload_n 0)) (len := 1) (pc2 := 58) (lv2 := [(0, .ref 3), (1, .int x1), (2, .int x2), (3, .int x3)]) (st2 := [.ref 3, .ref 7]) (h2 := (sh_rep m.T m.I m.J)) rfl rfl rfl ?_
        refine sh_gI1 (len := 3) (x := m.I 2 8) (pc2 := 61) rfl rfl hT.t2 rfl rfl rfl ?_
        refine sh_w (i := (.iload_n 1)) (len := 1) (pc2 := 62) (lv2 := [(0, .ref 3), (1, .int x1), (2, .int x2), (3, .int x3)]) (st2 := [.int x1, .int (m.I 2 8), .ref 7]) (h2 := (sh_rep m.T m.I m.J)) rfl rfl rfl ?_
        exact kk
      obtain ⟨c, e⟩ := sh_gd e
      refine sh_Lk_lift (T := m.T) (I := m.I) (J := m.J) (s := m.s) (pc2 := 72) (lv2 := [(0, .ref 3), (1, .int x1), (2, .int x2), (3, .int x3)]) (st2 := [.int x2, .int (m.I 2 8), .ref 8]) (I2 := sh_u2 m.I 6 (Int32.toNatClampNeg (m.I 2 8)) x1) (J2 := m.J) (fun hT v kk => ?_) ?_
      · refine sh_is1 (x := x1) (i := m.I 2 8) (pc2 := 63) rfl (sh_s6 hT.st) (sh_okb1 c) (sh_okb2 c) rfl ?_
        refine sh_w (i := (.aload_n 0)) (len := 1) (pc2 := 64) (lv2 := [(0, .ref 3), (1, .int x1), (2, .int x2), (3, .int x3)]) (st2 := [.ref 3]) (h2 := (sh_rep m.T (sh_u2 m.I 6 (Int32.toNatClampNeg (m.I 2 8)) x1) m.J)) rfl rfl rfl ?_
        refine sh_gR1 (len := 3) (x := .ref 8) (pc2 := 67) rfl rfl hT.t2 rfl rfl ?_
        refine sh_w (i := (.aload_n 0)) (len := 1) (pc2 := 68) (lv2 := [(0, .ref 3), (1, .int x1), (2, .int x2), (3, .int x3)]) (st2 := [.ref 3, .ref 8]) (h2 := (sh_rep m.T (sh_u2 m.I 6 (Int32.toNatClampNeg (m.I 2 8)) x1) m.J)) rfl rfl rfl ?_
        refine sh_gI1 (len := 3) (x := m.I 2 8) (pc2 := 71) rfl rfl hT.t2 rfl rfl rfl ?_
        refine sh_w (i := (.iload_n 2)) (len := 1) (pc2 := 72) (lv2 := [(0, .ref 3), (1, .int x1), (2, .int x2), (3, .int x3)]) (st2 := [.int x2, .int (m.I 2 8), .ref 8]) (h2 := (sh_rep m.T (sh_u2 m.I 6 (Int32.toNatClampNeg (m.I 2 8)) x1) m.J)) rfl rfl rfl ?_
        exact kk
      obtain ⟨c, e⟩ := sh_gd e
      refine sh_Lk_lift (T := m.T) (I := sh_u2 m.I 6 (Int32.toNatClampNeg (m.I 2 8)) x1) (J := m.J) (s := m.s) (pc2 := 83) (lv2 := [(0, .ref 3), (1, .int x1), (2, .int x2), (3, .int x3)]) (st2 := []) (I2 := sh_u2 (sh_u2 (sh_u2 m.I 6 (Int32.toNatClampNeg (m.I 2 8)) x1) 7 (Int32.toNatClampNeg (m.I 2 8)) x2) 2 8 ((m.I 2 8) + 1)) (J2 := m.J) (fun hT v kk => ?_) ?_
      · refine sh_is1 (x := x2) (i := m.I 2 8) (pc2 := 73) rfl (sh_s7 hT.st) (sh_okb1 c) (sh_okb2 c) rfl ?_
        refine sh_w (i := (.aload_n 0)) (len := 1) (pc2 := 74) (lv2 := [(0, .ref 3), (1, .int x1), (2, .int x2), (3, .int x3)]) (st2 := [.ref 3]) (h2 := (sh_rep m.T (sh_u2 (sh_u2 m.I 6 (Int32.toNatClampNeg (m.I 2 8)) x1) 7 (Int32.toNatClampNeg (m.I 2 8)) x2) m.J)) rfl rfl rfl ?_
        refine sh_w (i := .dup) (len := 1) (pc2 := 75) (lv2 := [(0, .ref 3), (1, .int x1), (2, .int x2), (3, .int x3)]) (st2 := [.ref 3, .ref 3]) (h2 := (sh_rep m.T (sh_u2 (sh_u2 m.I 6 (Int32.toNatClampNeg (m.I 2 8)) x1) 7 (Int32.toNatClampNeg (m.I 2 8)) x2) m.J)) rfl rfl rfl ?_
        refine sh_gI1 (len := 3) (x := m.I 2 8) (pc2 := 78) rfl rfl hT.t2 rfl rfl rfl ?_
        refine sh_w (i := (.iconst 1)) (len := 1) (pc2 := 79) (lv2 := [(0, .ref 3), (1, .int x1), (2, .int x2), (3, .int x3)]) (st2 := [.int 1, .int (m.I 2 8), .ref 3]) (h2 := (sh_rep m.T (sh_u2 (sh_u2 m.I 6 (Int32.toNatClampNeg (m.I 2 8)) x1) 7 (Int32.toNatClampNeg (m.I 2 8)) x2) m.J)) rfl rfl rfl ?_
        refine sh_w (i := .iadd) (len := 1) (pc2 := 80) (lv2 := [(0, .ref 3), (1, .int x1), (2, .int x2), (3, .int x3)]) (st2 := [.int ((m.I 2 8) + 1), .ref 3]) (h2 := (sh_rep m.T (sh_u2 (sh_u2 m.I 6 (Int32.toNatClampNeg (m.I 2 8)) x1) 7 (Int32.toNatClampNeg (m.I 2 8)) x2) m.J)) rfl rfl rfl ?_
        refine sh_pI1 (x := (m.I 2 8) + 1) (pc2 := 83) rfl rfl hT.t2 rfl rfl rfl rfl ?_
        exact kk
      obtain ⟨_, eu, rfl⟩ := sh_up_e e
      exact sh_Lk_sub (sh_sub_c rfl (sh_sub_n)) (sl_36_83 eu tg)
    · refine sh_Lk_lift (T := m.T) (I := m.I) (J := m.J) (s := m.s) (pc2 := 83) (lv2 := [(0, .ref 3), (1, .int x1), (2, .int x2), (3, .int x3)]) (st2 := []) (I2 := m.I) (J2 := m.J) (fun hT v kk => ?_) ?_
      · refine sh_jc (c := .ge) (off := (33)) (pc2 := 83) true rfl (sh_Bget c) rfl ?_
        exact kk
      obtain ⟨_, eu, rfl⟩ := sh_up_e e
      exact sh_Lk_sub (sh_sub_c rfl (sh_sub_n)) (sl_36_83 eu tg)
theorem sl_36_2 {x1 : Int32} {x2 : Int32} {x3 : Int32} {m m2 : sh_X} {o : Outcome} {z : (Int32 × sh_X)} (e : sf_36_2 x1 x2 x3 m = some z) (tg : (sh_tI o m2) z) : sh_Lk 36 2 [(0, .ref 3), (1, .int x1), (2, .int x2), (3, .int x3)] [] m o m2 10 245 := by
  unfold sf_36_2 at e
  exact sh_while_lk (P := fun q => sh_Lk 36 2 [(0, .ref 3), (1, .int x1), (2, .int x2), (3, .int q.1)] [] q.2 o m2 10 245) (Q := (sh_tI o m2)) (fun q z e tg => sl_36_2s (x1 := x1) (x2 := x2) (x3 := q.1) (m := q.2) e tg) (s := (x3, m)) e tg
theorem sl_36 {x1 : Int32} {x2 : Int32} {m m2 : sh_X} {o : Outcome} {z : (Int32 × sh_X)} (e : sf_36 x1 x2 m = some z) (tg : (sh_tI o m2) z) : sh_Lk 36 0 [(0, .ref 3), (1, .int x1), (2, .int x2)] [] m o m2 10 245 := by
  unfold sf_36 at e
  refine sh_Lk_lift (T := m.T) (I := m.I) (J := m.J) (s := m.s) (pc2 := 2) (lv2 := [(3, .int 0), (0, .ref 3), (1, .int x1), (2, .int x2)]) (st2 := []) (I2 := m.I) (J2 := m.J) (fun hT v kk => ?_) ?_
  · refine sh_w (i := (.iconst 0)) (len := 1) (pc2 := 1) (lv2 := [(0, .ref 3), (1, .int x1), (2, .int x2)]) (st2 := [.int 0]) (h2 := (sh_rep m.T m.I m.J)) rfl rfl rfl ?_
    refine sh_w (i := (.istore_n 3)) (len := 1) (pc2 := 2) (lv2 := [(3, .int 0), (0, .ref 3), (1, .int x1), (2, .int x2)]) (st2 := []) (h2 := (sh_rep m.T m.I m.J)) rfl rfl rfl ?_
    exact kk
  exact sh_Lk_sub (sh_sub_c rfl (sh_sub_c rfl (sh_sub_c rfl (sh_sub_c rfl (sh_sub_n))))) (sl_36_2 e tg)
theorem sl_38 {x1 : Int32} {x2 : Int32} {x3 : Int64} {m m2 : sh_X} {o : Outcome} {z : (Unit × sh_X)} (e : sf_38 x1 x2 x3 m = some z) (tg : (sh_tV o m2) z) : sh_Lk 38 0 [(0, .ref 3), (1, .int x1), (2, .int x2), (3, .long x3)] [] m o m2 8 200 := by
  unfold sf_38 at e
  refine sh_Lk_lift (T := m.T) (I := m.I) (J := m.J) (s := m.s) (pc2 := 9) (lv2 := [(0, .ref 3), (1, .int x1), (2, .int x2), (3, .long x3)]) (st2 := [.int 4001, .int (m.I 2 7)]) (I2 := m.I) (J2 := m.J) (fun hT v kk => ?_) ?_
  · refine sh_w (i := (.aload_n 0)) (len := 1) (pc2 := 1) (lv2 := [(0, .ref 3), (1, .int x1), (2, .int x2), (3, .long x3)]) (st2 := [.ref 3]) (h2 := (sh_rep m.T m.I m.J)) rfl rfl rfl ?_
    refine sh_gI1 (len := 3) (x := m.I 2 7) (pc2 := 4) rfl rfl hT.t2 rfl rfl rfl ?_
    refine sh_w (i := (.aload_n 0)) (len := 1) (pc2 := 5) (lv2 := [(0, .ref 3), (1, .int x1), (2, .int x2), (3, .long x3)]) (st2 := [.ref 3, .int (m.I 2 7)]) (h2 := (sh_rep m.T m.I m.J)) rfl rfl rfl ?_
    refine sh_gR1 (len := 3) (x := .ref 4) (pc2 := 8) rfl rfl hT.t2 rfl rfl ?_
    refine sh_al1 (pc2 := 9) rfl (sh_s3 hT.st) (by decide) rfl ?_
    exact kk
  rcases sh_ite e with ⟨c, e⟩ | ⟨c, e⟩
  · refine sh_Lk_lift (T := m.T) (I := m.I) (J := m.J) (s := m.s) (pc2 := 21) (lv2 := [(0, .ref 3), (1, .int x1), (2, .int x2), (3, .long x3)]) (st2 := [.int x1, .int (m.I 2 7), .ref 4]) (I2 := m.I) (J2 := m.J) (fun hT v kk => ?_) ?_
    · refine sh_jc (c := .ge) (off := (43)) (pc2 := 12) false rfl (sh_Bgef c) rfl ?_
      refine sh_w (i := (.aload_n 0)) (len := 1) (pc2 := 13) (lv2 := [(0, .ref 3), (1, .int x1), (2, .int x2), (3, .long x3)]) (st2 := [.ref 3]) (h2 := (sh_rep m.T m.I m.J)) rfl rfl rfl ?_
      refine sh_gR1 (len := 3) (x := .ref 4) (pc2 := 16) rfl rfl hT.t2 rfl rfl ?_
      refine sh_w (i := (.aload_n 0)) (len := 1) (pc2 := 17) (lv2 := [(0, .ref 3), (1, .int x1), (2, .int x2), (3, .long x3)]) (st2 := [.ref 3, .ref 4]) (h2 := (sh_rep m.T m.I m.J)) rfl rfl rfl ?_
      refine sh_gI1 (len := 3) (x := m.I 2 7) (pc2 := 20) rfl rfl hT.t2 rfl rfl rfl ?_
      refine sh_w (i := (.iload_n 1)) (len := 1) (pc2 := 21) (lv2 := [(0, .ref 3), (1, .int x1), (2, .int x2), (3, .long x3)]) (st2 := [.int x1, .int (m.I 2 7), .ref 4]) (h2 := (sh_rep m.T m.I m.J)) rfl rfl rfl ?_
      exact kk
    obtain ⟨c, e⟩ := sh_gd e
    refine sh_Lk_lift (T := m.T) (I := m.I) (J := m.J) (s := m.s) (pc2 := 31) (lv2 := [(0, .ref 3), (1, .int x1), (2, .int x2), (3, .long x3)]) (st2 := [.int x2, .int (m.I 2 7), .ref 5]) (I2 := sh_u2 m.I 3 (Int32.toNatClampNeg (m.I 2 7)) x1) (J2 := m.J) (fun hT v kk => ?_) ?_
    · refine sh_is1 (x := x1) (i := m.I 2 7) (pc2 := 22) rfl (sh_s3 hT.st) (sh_okb1 c) (sh_okb2 c) rfl ?_
      refine sh_w (i := (.aload_n 0)) (len := 1) (pc2 := 23) (lv2 := [(0, .ref 3), (1, .int x1), (2, .int x2), (3, .long x3)]) (st2 := [.ref 3]) (h2 := (sh_rep m.T (sh_u2 m.I 3 (Int32.toNatClampNeg (m.I 2 7)) x1) m.J)) rfl rfl rfl ?_
      refine sh_gR1 (len := 3) (x := .ref 5) (pc2 := 26) rfl rfl hT.t2 rfl rfl ?_
      refine sh_w (i := (.aload_n 0)) (len := 1) (pc2 := 27) (lv2 := [(0, .ref 3), (1, .int x1), (2, .int x2), (3, .long x3)]) (st2 := [.ref 3, .ref 5]) (h2 := (sh_rep m.T (sh_u2 m.I 3 (Int32.toNatClampNeg (m.I 2 7)) x1) m.J)) rfl rfl rfl ?_
      refine sh_gI1 (len := 3) (x := m.I 2 7) (pc2 := 30) rfl rfl hT.t2 rfl rfl rfl ?_
      refine sh_w (i := (.iload_n 2)) (len := 1) (pc2 := 31) (lv2 := [(0, .ref 3), (1, .int x1), (2, .int x2), (3, .long x3)]) (st2 := [.int x2, .int (m.I 2 7), .ref 5]) (h2 := (sh_rep m.T (sh_u2 m.I 3 (Int32.toNatClampNeg (m.I 2 7)) x1) m.J)) rfl rfl rfl ?_
      exact kk
    obtain ⟨c, e⟩ := sh_gd e
    refine sh_Lk_lift (T := m.T) (I := sh_u2 m.I 3 (Int32.toNatClampNeg (m.I 2 7)) x1) (J := m.J) (s := m.s) (pc2 := 41) (lv2 := [(0, .ref 3), (1, .int x1), (2, .int x2), (3, .long x3)]) (st2 := [.long x3, .int (m.I 2 7), .ref 6]) (I2 := sh_u2 (sh_u2 m.I 3 (Int32.toNatClampNeg (m.I 2 7)) x1) 4 (Int32.toNatClampNeg (m.I 2 7)) x2) (J2 := m.J) (fun hT v kk => ?_) ?_
    · refine sh_is1 (x := x2) (i := m.I 2 7) (pc2 := 32) rfl (sh_s4 hT.st) (sh_okb1 c) (sh_okb2 c) rfl ?_
      refine sh_w (i := (.aload_n 0)) (len := 1) (pc2 := 33) (lv2 := [(0, .ref 3), (1, .int x1), (2, .int x2), (3, .long x3)]) (st2 := [.ref 3]) (h2 := (sh_rep m.T (sh_u2 (sh_u2 m.I 3 (Int32.toNatClampNeg (m.I 2 7)) x1) 4 (Int32.toNatClampNeg (m.I 2 7)) x2) m.J)) rfl rfl rfl ?_
      refine sh_gR1 (len := 3) (x := .ref 6) (pc2 := 36) rfl rfl hT.t2 rfl rfl ?_
      refine sh_w (i := (.aload_n 0)) (len := 1) (pc2 := 37) (lv2 := [(0, .ref 3), (1, .int x1), (2, .int x2), (3, .long x3)]) (st2 := [.ref 3, .ref 6]) (h2 := (sh_rep m.T (sh_u2 (sh_u2 m.I 3 (Int32.toNatClampNeg (m.I 2 7)) x1) 4 (Int32.toNatClampNeg (m.I 2 7)) x2) m.J)) rfl rfl rfl ?_
      refine sh_gI1 (len := 3) (x := m.I 2 7) (pc2 := 40) rfl rfl hT.t2 rfl rfl rfl ?_
      refine sh_w (i := (.lload_n 3)) (len := 1) (pc2 := 41) (lv2 := [(0, .ref 3), (1, .int x1), (2, .int x2), (3, .long x3)]) (st2 := [.long x3, .int (m.I 2 7), .ref 6]) (h2 := (sh_rep m.T (sh_u2 (sh_u2 m.I 3 (Int32.toNatClampNeg (m.I 2 7)) x1) 4 (Int32.toNatClampNeg (m.I 2 7)) x2) m.J)) rfl rfl rfl ?_
      exact kk
    obtain ⟨c, e⟩ := sh_gd e
    refine sh_Lk_lift (T := m.T) (I := sh_u2 (sh_u2 m.I 3 (Int32.toNatClampNeg (m.I 2 7)) x1) 4 (Int32.toNatClampNeg (m.I 2 7)) x2) (J := m.J) (s := m.s) (pc2 := 52) (lv2 := [(0, .ref 3), (1, .int x1), (2, .int x2), (3, .long x3)]) (st2 := []) (I2 := sh_u2 (sh_u2 (sh_u2 m.I 3 (Int32.toNatClampNeg (m.I 2 7)) x1) 4 (Int32.toNatClampNeg (m.I 2 7)) x2) 2 7 ((m.I 2 7) + 1)) (J2 := sh_u2 m.J 5 (Int32.toNatClampNeg (m.I 2 7)) x3) (fun hT v kk => ?_) ?_
    · refine sh_ls1 (x := x3) (i := m.I 2 7) (pc2 := 42) rfl (sh_s5 hT.st) (sh_okb1 c) (sh_okb2 c) rfl ?_
      refine sh_w (i := (.aload_n 0)) (len := 1) (pc2 := 43) (lv2 := [(0, .ref 3), (1, .int x1), (2, .int x2), (3, .long x3)]) (st2 := [.ref 3]) (h2 := (sh_rep m.T (sh_u2 (sh_u2 m.I 3 (Int32.toNatClampNeg (m.I 2 7)) x1) 4 (Int32.toNatClampNeg (m.I 2 7)) x2) (sh_u2 m.J 5 (Int32.toNatClampNeg (m.I 2 7)) x3))) rfl rfl rfl ?_
      refine sh_w (i := .dup) (len := 1) (pc2 := 44) (lv2 := [(0, .ref 3), (1, .int x1), (2, .int x2), (3, .long x3)]) (st2 := [.ref 3, .ref 3]) (h2 := (sh_rep m.T (sh_u2 (sh_u2 m.I 3 (Int32.toNatClampNeg (m.I 2 7)) x1) 4 (Int32.toNatClampNeg (m.I 2 7)) x2) (sh_u2 m.J 5 (Int32.toNatClampNeg (m.I 2 7)) x3))) rfl rfl rfl ?_
      refine sh_gI1 (len := 3) (x := m.I 2 7) (pc2 := 47) rfl rfl hT.t2 rfl rfl rfl ?_
      refine sh_w (i := (.iconst 1)) (len := 1) (pc2 := 48) (lv2 := [(0, .ref 3), (1, .int x1), (2, .int x2), (3, .long x3)]) (st2 := [.int 1, .int (m.I 2 7), .ref 3]) (h2 := (sh_rep m.T (sh_u2 (sh_u2 m.I 3 (Int32.toNatClampNeg (m.I 2 7)) x1) 4 (Int32.toNatClampNeg (m.I 2 7)) x2) (sh_u2 m.J 5 (Int32.toNatClampNeg (m.I 2 7)) x3))) rfl rfl rfl ?_
      refine sh_w (i := .iadd) (len := 1) (pc2 := 49) (lv2 := [(0, .ref 3), (1, .int x1), (2, .int x2), (3, .long x3)]) (st2 := [.int ((m.I 2 7) + 1), .ref 3]) (h2 := (sh_rep m.T (sh_u2 (sh_u2 m.I 3 (Int32.toNatClampNeg (m.I 2 7)) x1) 4 (Int32.toNatClampNeg (m.I 2 7)) x2) (sh_u2 m.J 5 (Int32.toNatClampNeg (m.I 2 7)) x3))) rfl rfl rfl ?_
      refine sh_pI1 (x := (m.I 2 7) + 1) (pc2 := 52) rfl rfl hT.t2 rfl rfl rfl rfl ?_
      exact kk
    obtain rfl := Option.some.inj e
    obtain ⟨rfl, rfl⟩ := tg
    exact sh_Lk_ret (i := .return_) rfl rfl rfl (Nat.le_of_ble_eq_true rfl) (Nat.le_of_ble_eq_true rfl)
  · refine sh_Lk_lift (T := m.T) (I := m.I) (J := m.J) (s := m.s) (pc2 := 52) (lv2 := [(0, .ref 3), (1, .int x1), (2, .int x2), (3, .long x3)]) (st2 := []) (I2 := m.I) (J2 := m.J) (fun hT v kk => ?_) ?_
    · refine sh_jc (c := .ge) (off := (43)) (pc2 := 52) true rfl (sh_Bget c) rfl ?_
      exact kk
    obtain rfl := Option.some.inj e
    obtain ⟨rfl, rfl⟩ := tg
    exact sh_Lk_ret (i := .return_) rfl rfl rfl (Nat.le_of_ble_eq_true rfl) (Nat.le_of_ble_eq_true rfl)
theorem sl_29_92 {x2 : Int32} {y1 : Int32} {y2 : Int32} {y3 : Int64} {m m2 : sh_X} {o : Outcome} {z : (Option Int32 × sh_X)} (e : sf_29_92 x2 y1 y2 y3 m = some z) (tg : (sh_tIt o m2) z) : sh_Lk 29 92 [(2, .int x2)] [.long y3, .int y2, .int y1, .ref 3] m o m2 32 649 := by
  unfold sf_29_92 at e
  obtain ⟨r1, m11, e1, e⟩ := sh_bn_e e
  refine sh_Lk_cV (r := none) (st2 := []) (pc2 := 95) (k2 := 38) (a := 2) (as := [.ref 3, .int y1, .int y2, .long y3]) (rest := []) rfl rfl rfl (fun hT => hT.t2) rfl rfl ⟨Nat.le_of_ble_eq_true rfl, Nat.le_of_ble_eq_true rfl⟩ (sl_38 e1 ⟨rfl, rfl⟩) rfl rfl (Nat.le_of_ble_eq_true rfl) (Nat.le_of_ble_eq_true rfl) ?_
  refine sh_Lk_lift (T := m11.T) (I := m11.I) (J := m11.J) (s := m11.s) (pc2 := 96) (lv2 := [(2, .int x2)]) (st2 := [.int x2]) (I2 := m11.I) (J2 := m11.J) (fun hT v kk => ?_) ?_
  · refine sh_w (i := (.iload_n 2)) (len := 1) (pc2 := 96) (lv2 := [(2, .int x2)]) (st2 := [.int x2]) (h2 := (sh_rep m11.T m11.I m11.J)) rfl rfl rfl ?_
    exact kk
  obtain rfl := Option.some.inj e
  obtain ⟨rfl, rfl⟩ := tg
  exact sh_Lk_ret (i := .ireturn) rfl rfl rfl (Nat.le_of_ble_eq_true rfl) (Nat.le_of_ble_eq_true rfl)
theorem sl_29_66 {x1 : Int32} {x2 : Int32} {x3 : Int32} {y0 : Int32} {m m2 : sh_X} {o : Outcome} {z : (Option Int32 × sh_X)} (e : sf_29_66 x1 x2 x3 y0 m = some z) (tg : (sh_tIt o m2) z) : sh_Lk 29 66 [(0, .ref 3), (1, .int x1), (2, .int x2), (3, .int x3)] [.int y0] m o m2 32 649 := by
  unfold sf_29_66 at e
  refine sh_Lk_lift (T := m.T) (I := m.I) (J := m.J) (s := m.s) (pc2 := 75) (lv2 := [(4, .int y0), (0, .ref 3), (1, .int x1), (2, .int x2), (3, .int x3)]) (st2 := [.int 1, .int y0, .int x1, .int y0, .ref 3]) (I2 := m.I) (J2 := m.J) (fun hT v kk => ?_) ?_
  · refine sh_w (i := (.istore 4)) (len := 2) (pc2 := 68) (lv2 := [(4, .int y0), (0, .ref 3), (1, .int x1), (2, .int x2), (3, .int x3)]) (st2 := []) (h2 := (sh_rep m.T m.I m.J)) rfl rfl rfl ?_
    refine sh_w (i := (.aload_n 0)) (len := 1) (pc2 := 69) (lv2 := [(4, .int y0), (0, .ref 3), (1, .int x1), (2, .int x2), (3, .int x3)]) (st2 := [.ref 3]) (h2 := (sh_rep m.T m.I m.J)) rfl rfl rfl ?_
    refine sh_w (i := (.iload 4)) (len := 2) (pc2 := 71) (lv2 := [(4, .int y0), (0, .ref 3), (1, .int x1), (2, .int x2), (3, .int x3)]) (st2 := [.int y0, .ref 3]) (h2 := (sh_rep m.T m.I m.J)) rfl rfl rfl ?_
    refine sh_w (i := (.iload_n 1)) (len := 1) (pc2 := 72) (lv2 := [(4, .int y0), (0, .ref 3), (1, .int x1), (2, .int x2), (3, .int x3)]) (st2 := [.int x1, .int y0, .ref 3]) (h2 := (sh_rep m.T m.I m.J)) rfl rfl rfl ?_
    refine sh_w (i := (.iload 4)) (len := 2) (pc2 := 74) (lv2 := [(4, .int y0), (0, .ref 3), (1, .int x1), (2, .int x2), (3, .int x3)]) (st2 := [.int y0, .int x1, .int y0, .ref 3]) (h2 := (sh_rep m.T m.I m.J)) rfl rfl rfl ?_
    refine sh_w (i := (.iconst 1)) (len := 1) (pc2 := 75) (lv2 := [(4, .int y0), (0, .ref 3), (1, .int x1), (2, .int x2), (3, .int x3)]) (st2 := [.int 1, .int y0, .int x1, .int y0, .ref 3]) (h2 := (sh_rep m.T m.I m.J)) rfl rfl rfl ?_
    exact kk
  rcases sh_ite e with ⟨c, e⟩ | ⟨c, e⟩
  · refine sh_Lk_lift (T := m.T) (I := m.I) (J := m.J) (s := m.s) (pc2 := 83) (lv2 := [(4, .int y0), (0, .ref 3), (1, .int x1), (2, .int x2), (3, .int x3)]) (st2 := [.int (x2 - x1), .int x1, .ref 3, .int x1, .int y0, .ref 3]) (I2 := m.I) (J2 := m.J) (fun hT v kk => ?_) ?_
    · refine sh_jc (c := .ne) (off := (15)) (pc2 := 78) false rfl (sh_Bnef c) rfl ?_
      refine sh_w (i := (.aload_n 0)) (len := 1) (pc2 := 79) (lv2 := [(4, .int y0), (0, .ref 3), (1, .int x1), (2, .int x2), (3, .int x3)]) (st2 := [.ref 3, .int x1, .int y0, .ref 3]) (h2 := (sh_rep m.T m.I m.J)) rfl rfl rfl ?_
      refine sh_w (i := (.iload_n 1)) (len := 1) (pc2 := 80) (lv2 := [(4, .int y0), (0, .ref 3), (1, .int x1), (2, .int x2), (3, .int x3)]) (st2 := [.int x1, .ref 3, .int x1, .int y0, .ref 3]) (h2 := (sh_rep m.T m.I m.J)) rfl rfl rfl ?_
      refine sh_w (i := (.iload_n 2)) (len := 1) (pc2 := 81) (lv2 := [(4, .int y0), (0, .ref 3), (1, .int x1), (2, .int x2), (3, .int x3)]) (st2 := [.int x2, .int x1, .ref 3, .int x1, .int y0, .ref 3]) (h2 := (sh_rep m.T m.I m.J)) rfl rfl rfl ?_
      refine sh_w (i := (.iload_n 1)) (len := 1) (pc2 := 82) (lv2 := [(4, .int y0), (0, .ref 3), (1, .int x1), (2, .int x2), (3, .int x3)]) (st2 := [.int x1, .int x2, .int x1, .ref 3, .int x1, .int y0, .ref 3]) (h2 := (sh_rep m.T m.I m.J)) rfl rfl rfl ?_
      refine sh_w (i := .isub) (len := 1) (pc2 := 83) (lv2 := [(4, .int y0), (0, .ref 3), (1, .int x1), (2, .int x2), (3, .int x3)]) (st2 := [.int (x2 - x1), .int x1, .ref 3, .int x1, .int y0, .ref 3]) (h2 := (sh_rep m.T m.I m.J)) rfl rfl rfl ?_
      exact kk
    obtain ⟨r1, m11, e1, e⟩ := sh_bn_e e
    refine sh_Lk_cV (r := (some (.int r1))) (st2 := [.int r1, .int x1, .int y0, .ref 3]) (pc2 := 86) (k2 := 36) (a := 2) (as := [.ref 3, .int x1, .int (x2 - x1)]) (rest := [.int x1, .int y0, .ref 3]) rfl rfl rfl (fun hT => hT.t2) rfl rfl ⟨Nat.le_of_ble_eq_true rfl, Nat.le_of_ble_eq_true rfl⟩ (sl_36 e1 ⟨rfl, rfl⟩) rfl rfl (Nat.le_of_ble_eq_true rfl) (Nat.le_of_ble_eq_true rfl) ?_
    refine sh_Lk_lift (T := m11.T) (I := m11.I) (J := m11.J) (s := m11.s) (pc2 := 92) (lv2 := [(4, .int y0), (0, .ref 3), (1, .int x1), (2, .int x2), (3, .int x3)]) (st2 := [.long (Int32.toInt64 r1), .int x1, .int y0, .ref 3]) (I2 := m11.I) (J2 := m11.J) (fun hT v kk => ?_) ?_
    · refine sh_w (i := .i2l) (len := 1) (pc2 := 87) (lv2 := [(4, .int y0), (0, .ref 3), (1, .int x1), (2, .int x2), (3, .int x3)]) (st2 := [.long (Int32.toInt64 r1), .int x1, .int y0, .ref 3]) (h2 := (sh_rep m11.T m11.I m11.J)) rfl rfl rfl ?_
      refine sh_w (i := (.goto 5)) (len := 3) (pc2 := 92) (lv2 := [(4, .int y0), (0, .ref 3), (1, .int x1), (2, .int x2), (3, .int x3)]) (st2 := [.long (Int32.toInt64 r1), .int x1, .int y0, .ref 3]) (h2 := (sh_rep m11.T m11.I m11.J)) rfl rfl rfl ?_
      exact kk
    exact sh_Lk_sub (sh_sub_c rfl (sh_sub_n)) (sl_29_92 e tg)
  · refine sh_Lk_lift (T := m.T) (I := m.I) (J := m.J) (s := m.s) (pc2 := 92) (lv2 := [(4, .int y0), (0, .ref 3), (1, .int x1), (2, .int x2), (3, .int x3)]) (st2 := [.long (Int32.toInt64 x3), .int x1, .int y0, .ref 3]) (I2 := m.I) (J2 := m.J) (fun hT v kk => ?_) ?_
    · refine sh_jc (c := .ne) (off := (15)) (pc2 := 90) true rfl (sh_Bnet c) rfl ?_
      refine sh_w (i := (.iload_n 3)) (len := 1) (pc2 := 91) (lv2 := [(4, .int y0), (0, .ref 3), (1, .int x1), (2, .int x2), (3, .int x3)]) (st2 := [.int x3, .int x1, .int y0, .ref 3]) (h2 := (sh_rep m.T m.I m.J)) rfl rfl rfl ?_
      refine sh_w (i := .i2l) (len := 1) (pc2 := 92) (lv2 := [(4, .int y0), (0, .ref 3), (1, .int x1), (2, .int x2), (3, .int x3)]) (st2 := [.long (Int32.toInt64 x3), .int x1, .int y0, .ref 3]) (h2 := (sh_rep m.T m.I m.J)) rfl rfl rfl ?_
      exact kk
    exact sh_Lk_sub (sh_sub_c rfl (sh_sub_n)) (sl_29_92 e tg)
theorem sl_29_41 {x1 : Int32} {x2 : Int32} {m m2 : sh_X} {o : Outcome} {z : (Option Int32 × sh_X)} (e : sf_29_41 x1 x2 m = some z) (tg : (sh_tIt o m2) z) : sh_Lk 29 41 [(0, .ref 3), (1, .int x1), (2, .int x2)] [] m o m2 32 649 := by
  unfold sf_29_41 at e
  refine sh_Lk_lift (T := m.T) (I := m.I) (J := m.J) (s := m.s) (pc2 := 46) (lv2 := [(0, .ref 3), (1, .int x1), (2, .int x2)]) (st2 := [.int (x2 - x1), .int x1, .ref 3]) (I2 := m.I) (J2 := m.J) (fun hT v kk => ?_) ?_
  · refine sh_w (i := (.aload_n 0)) (len := 1) (pc2 := 42) (lv2 := [(0, .ref 3), (1, .int x1), (2, .int x2)]) (st2 := [.ref 3]) (h2 := (sh_rep m.T m.I m.J)) rfl rfl rfl ?_
    refine sh_w (i := (.iload_n 1)) (len := 1) (pc2 := 43) (lv2 := [(0, .ref 3), (1, .int x1), (2, .int x2)]) (st2 := [.int x1, .ref 3]) (h2 := (sh_rep m.T m.I m.J)) rfl rfl rfl ?_
    refine sh_w (i := (.iload_n 2)) (len := 1) (pc2 := 44) (lv2 := [(0, .ref 3), (1, .int x1), (2, .int x2)]) (st2 := [.int x2, .int x1, .ref 3]) (h2 := (sh_rep m.T m.I m.J)) rfl rfl rfl ?_
    refine sh_w (i := (.iload_n 1)) (len := 1) (pc2 := 45) (lv2 := [(0, .ref 3), (1, .int x1), (2, .int x2)]) (st2 := [.int x1, .int x2, .int x1, .ref 3]) (h2 := (sh_rep m.T m.I m.J)) rfl rfl rfl ?_
    refine sh_w (i := .isub) (len := 1) (pc2 := 46) (lv2 := [(0, .ref 3), (1, .int x1), (2, .int x2)]) (st2 := [.int (x2 - x1), .int x1, .ref 3]) (h2 := (sh_rep m.T m.I m.J)) rfl rfl rfl ?_
    exact kk
  obtain ⟨r1, e1, e⟩ := sh_bc_e e
  refine sh_Lk_cV (r := (some (.int r1))) (st2 := [.int r1]) (pc2 := 49) (k2 := 33) (a := 2) (as := [.ref 3, .int x1, .int (x2 - x1)]) (rest := []) rfl rfl rfl (fun hT => hT.t2) rfl rfl ⟨Nat.le_of_ble_eq_true rfl, Nat.le_of_ble_eq_true rfl⟩ (sl_33 e1 ⟨rfl, rfl⟩) rfl rfl (Nat.le_of_ble_eq_true rfl) (Nat.le_of_ble_eq_true rfl) ?_
  refine sh_Lk_lift (T := m.T) (I := m.I) (J := m.J) (s := m.s) (pc2 := 51) (lv2 := [(3, .int r1), (0, .ref 3), (1, .int x1), (2, .int x2)]) (st2 := [.int r1]) (I2 := m.I) (J2 := m.J) (fun hT v kk => ?_) ?_
  · refine sh_w (i := (.istore_n 3)) (len := 1) (pc2 := 50) (lv2 := [(3, .int r1), (0, .ref 3), (1, .int x1), (2, .int x2)]) (st2 := []) (h2 := (sh_rep m.T m.I m.J)) rfl rfl rfl ?_
    refine sh_w (i := (.iload_n 3)) (len := 1) (pc2 := 51) (lv2 := [(3, .int r1), (0, .ref 3), (1, .int x1), (2, .int x2)]) (st2 := [.int r1]) (h2 := (sh_rep m.T m.I m.J)) rfl rfl rfl ?_
    exact kk
  rcases sh_ite e with ⟨c, e⟩ | ⟨c, e⟩
  · refine sh_Lk_lift (T := m.T) (I := m.I) (J := m.J) (s := m.s) (pc2 := 63) (lv2 := [(3, .int r1), (0, .ref 3), (1, .int x1), (2, .int x2)]) (st2 := [.int (x2 - x1), .int x1, .ref 3]) (I2 := m.I) (J2 := m.J) (fun hT v kk => ?_) ?_
    · refine sh_j0 (c := .eq) (off := (7)) (pc2 := 58) true rfl (sh_Beqt c) rfl ?_
      refine sh_w (i := (.aload_n 0)) (len := 1) (pc2 := 59) (lv2 := [(3, .int r1), (0, .ref 3), (1, .int x1), (2, .int x2)]) (st2 := [.ref 3]) (h2 := (sh_rep m.T m.I m.J)) rfl rfl rfl ?_
      refine sh_w (i := (.iload_n 1)) (len := 1) (pc2 := 60) (lv2 := [(3, .int r1), (0, .ref 3), (1, .int x1), (2, .int x2)]) (st2 := [.int x1, .ref 3]) (h2 := (sh_rep m.T m.I m.J)) rfl rfl rfl ?_
      refine sh_w (i := (.iload_n 2)) (len := 1) (pc2 := 61) (lv2 := [(3, .int r1), (0, .ref 3), (1, .int x1), (2, .int x2)]) (st2 := [.int x2, .int x1, .ref 3]) (h2 := (sh_rep m.T m.I m.J)) rfl rfl rfl ?_
      refine sh_w (i := (.iload_n 1)) (len := 1) (pc2 := 62) (lv2 := [(3, .int r1), (0, .ref 3), (1, .int x1), (2, .int x2)]) (st2 := [.int x1, .int x2, .int x1, .ref 3]) (h2 := (sh_rep m.T m.I m.J)) rfl rfl rfl ?_
      refine sh_w (i := .isub) (len := 1) (pc2 := 63) (lv2 := [(3, .int r1), (0, .ref 3), (1, .int x1), (2, .int x2)]) (st2 := [.int (x2 - x1), .int x1, .ref 3]) (h2 := (sh_rep m.T m.I m.J)) rfl rfl rfl ?_
      exact kk
    obtain ⟨r2, e2, e⟩ := sh_bc_e e
    refine sh_Lk_cV (r := (some (.int r2))) (st2 := [.int r2]) (pc2 := 66) (k2 := 34) (a := 2) (as := [.ref 3, .int x1, .int (x2 - x1)]) (rest := []) rfl rfl rfl (fun hT => hT.t2) rfl rfl ⟨Nat.le_of_ble_eq_true rfl, Nat.le_of_ble_eq_true rfl⟩ (sl_34 e2 ⟨rfl, rfl⟩) rfl rfl (Nat.le_of_ble_eq_true rfl) (Nat.le_of_ble_eq_true rfl) ?_
    exact sh_Lk_sub (sh_sub_c rfl (sh_sub_c rfl (sh_sub_c rfl (sh_sub_c rfl (sh_sub_n))))) (sl_29_66 e tg)
  · refine sh_Lk_lift (T := m.T) (I := m.I) (J := m.J) (s := m.s) (pc2 := 66) (lv2 := [(3, .int r1), (0, .ref 3), (1, .int x1), (2, .int x2)]) (st2 := [.int 3]) (I2 := m.I) (J2 := m.J) (fun hT v kk => ?_) ?_
    · refine sh_j0 (c := .eq) (off := (7)) (pc2 := 54) false rfl (sh_Beqf c) rfl ?_
      refine sh_w (i := (.iconst 3)) (len := 1) (pc2 := 55) (lv2 := [(3, .int r1), (0, .ref 3), (1, .int x1), (2, .int x2)]) (st2 := [.int 3]) (h2 := (sh_rep m.T m.I m.J)) rfl rfl rfl ?_
      refine sh_w (i := (.goto 11)) (len := 3) (pc2 := 66) (lv2 := [(3, .int r1), (0, .ref 3), (1, .int x1), (2, .int x2)]) (st2 := [.int 3]) (h2 := (sh_rep m.T m.I m.J)) rfl rfl rfl ?_
      exact kk
    exact sh_Lk_sub (sh_sub_c rfl (sh_sub_c rfl (sh_sub_c rfl (sh_sub_c rfl (sh_sub_n))))) (sl_29_66 e tg)
theorem sl_29_27 {x1 : Int32} {x2 : Int32} {m m2 : sh_X} {o : Outcome} {z : (Option Int32 × sh_X)} (e : sf_29_27 x1 x2 m = some z) (tg : (sh_tIt o m2) z) : sh_Lk 29 27 [(0, .ref 3), (1, .int x1), (2, .int x2)] [] m o m2 32 649 := by
  unfold sf_29_27 at e
  refine sh_Lk_lift (T := m.T) (I := m.I) (J := m.J) (s := m.s) (pc2 := 32) (lv2 := [(0, .ref 3), (1, .int x1), (2, .int x2)]) (st2 := [.int 12, .int (x2 - x1)]) (I2 := m.I) (J2 := m.J) (fun hT v kk => ?_) ?_
  · refine sh_w (i := (.iload_n 2)) (len := 1) (pc2 := 28) (lv2 := [(0, .ref 3), (1, .int x1), (2, .int x2)]) (st2 := [.int x2]) (h2 := (sh_rep m.T m.I m.J)) rfl rfl rfl ?_
    refine sh_w (i := (.iload_n 1)) (len := 1) (pc2 := 29) (lv2 := [(0, .ref 3), (1, .int x1), (2, .int x2)]) (st2 := [.int x1, .int x2]) (h2 := (sh_rep m.T m.I m.J)) rfl rfl rfl ?_
    refine sh_w (i := .isub) (len := 1) (pc2 := 30) (lv2 := [(0, .ref 3), (1, .int x1), (2, .int x2)]) (st2 := [.int (x2 - x1)]) (h2 := (sh_rep m.T m.I m.J)) rfl rfl rfl ?_
    refine sh_w (i := (.bipush 12)) (len := 2) (pc2 := 32) (lv2 := [(0, .ref 3), (1, .int x1), (2, .int x2)]) (st2 := [.int 12, .int (x2 - x1)]) (h2 := (sh_rep m.T m.I m.J)) rfl rfl rfl ?_
    exact kk
  rcases sh_ite e with ⟨c, e⟩ | ⟨c, e⟩
  · refine sh_Lk_lift (T := m.T) (I := m.I) (J := m.J) (s := m.s) (pc2 := 38) (lv2 := [(0, .ref 3), (1, .int x1), (2, .int x2)]) (st2 := [.int x1, .int 1, .ref 3]) (I2 := m.I) (J2 := m.J) (fun hT v kk => ?_) ?_
    · refine sh_jc (c := .le) (off := (9)) (pc2 := 35) false rfl (sh_Blef c) rfl ?_
      refine sh_w (i := (.aload_n 0)) (len := 1) (pc2 := 36) (lv2 := [(0, .ref 3), (1, .int x1), (2, .int x2)]) (st2 := [.ref 3]) (h2 := (sh_rep m.T m.I m.J)) rfl rfl rfl ?_
      refine sh_w (i := (.iconst 1)) (len := 1) (pc2 := 37) (lv2 := [(0, .ref 3), (1, .int x1), (2, .int x2)]) (st2 := [.int 1, .ref 3]) (h2 := (sh_rep m.T m.I m.J)) rfl rfl rfl ?_
      refine sh_w (i := (.iload_n 1)) (len := 1) (pc2 := 38) (lv2 := [(0, .ref 3), (1, .int x1), (2, .int x2)]) (st2 := [.int x1, .int 1, .ref 3]) (h2 := (sh_rep m.T m.I m.J)) rfl rfl rfl ?_
      exact kk
    rcases sh_bt_e e with ⟨m11, e1, rfl⟩ | ⟨r1, m11, e1, e⟩
    · obtain ⟨rfl, rfl⟩ := tg
      exact sh_Lk_tV (k2 := 32) (a := 2) (as := [.ref 3, .int 1, .int x1]) (rest := []) rfl rfl rfl (fun hT => hT.t2) rfl rfl ⟨Nat.le_of_ble_eq_true rfl, Nat.le_of_ble_eq_true rfl⟩ (sl_32 e1 ⟨rfl, rfl⟩) rfl (Nat.le_of_ble_eq_true rfl) (Nat.le_of_ble_eq_true rfl) (Nat.le_of_ble_eq_true rfl) (Nat.le_of_ble_eq_true rfl) rfl
    refine sh_Lk_cV (r := none) (st2 := []) (pc2 := 41) (k2 := 32) (a := 2) (as := [.ref 3, .int 1, .int x1]) (rest := []) rfl rfl rfl (fun hT => hT.t2) rfl rfl ⟨Nat.le_of_ble_eq_true rfl, Nat.le_of_ble_eq_true rfl⟩ (sl_32 e1 ⟨rfl, rfl⟩) rfl rfl (Nat.le_of_ble_eq_true rfl) (Nat.le_of_ble_eq_true rfl) ?_
    exact sh_Lk_sub (sh_sub_c rfl (sh_sub_c rfl (sh_sub_c rfl (sh_sub_n)))) (sl_29_41 e tg)
  · refine sh_Lk_lift (T := m.T) (I := m.I) (J := m.J) (s := m.s) (pc2 := 41) (lv2 := [(0, .ref 3), (1, .int x1), (2, .int x2)]) (st2 := []) (I2 := m.I) (J2 := m.J) (fun hT v kk => ?_) ?_
    · refine sh_jc (c := .le) (off := (9)) (pc2 := 41) true rfl (sh_Blet c) rfl ?_
      exact kk
    exact sh_Lk_sub (sh_sub_c rfl (sh_sub_c rfl (sh_sub_c rfl (sh_sub_n)))) (sl_29_41 e tg)
theorem sl_29_2s {x1 : Int32} {x2 : Int32} {m m2 : sh_X} {o : Outcome} {z : ((Int32 × sh_X) ⊕ (Option Int32 × sh_X))} (e : sf_29_2s x1 x2 m = some z) (tg : (sh_el (fun q => sh_Lk 29 2 [(0, .ref 3), (1, .int x1), (2, .int q.1)] [] q.2 o m2 32 649) (sh_tIt o m2)) z) : sh_Lk 29 2 [(0, .ref 3), (1, .int x1), (2, .int x2)] [] m o m2 32 649 := by
  unfold sf_29_2s at e
  refine sh_Lk_lift (T := m.T) (I := m.I) (J := m.J) (s := m.s) (pc2 := 7) (lv2 := [(0, .ref 3), (1, .int x1), (2, .int x2)]) (st2 := [.int (m.I 2 6), .int x2]) (I2 := m.I) (J2 := m.J) (fun hT v kk => ?_) ?_
  · refine sh_w (i := (.iload_n 2)) (len := 1) (pc2 := 3) (lv2 := [(0, .ref 3), (1, .int x1), (2, .int x2)]) (st2 := [.int x2]) (h2 := (sh_rep m.T m.I m.J)) rfl rfl rfl ?_
    refine sh_w (i := (.aload_n 0)) (len := 1) (pc2 := 4) (lv2 := [(0, .ref 3), (1, .int x1), (2, .int x2)]) (st2 := [.ref 3, .int x2]) (h2 := (sh_rep m.T m.I m.J)) rfl rfl rfl ?_
    refine sh_gI1 (len := 3) (x := m.I 2 6) (pc2 := 7) rfl rfl hT.t2 rfl rfl rfl ?_
    exact kk
  rcases sh_ite e with ⟨c, e⟩ | ⟨c, e⟩
  · refine sh_Lk_lift (T := m.T) (I := m.I) (J := m.J) (s := m.s) (pc2 := 12) (lv2 := [(0, .ref 3), (1, .int x1), (2, .int x2)]) (st2 := [.int x2, .ref 3]) (I2 := m.I) (J2 := m.J) (fun hT v kk => ?_) ?_
    · refine sh_jc (c := .ge) (off := (20)) (pc2 := 10) false rfl (sh_Bgef c) rfl ?_
      refine sh_w (i := (.aload_n 0)) (len := 1) (pc2 := 11) (lv2 := [(0, .ref 3), (1, .int x1), (2, .int x2)]) (st2 := [.ref 3]) (h2 := (sh_rep m.T m.I m.J)) rfl rfl rfl ?_
      refine sh_w (i := (.iload_n 2)) (len := 1) (pc2 := 12) (lv2 := [(0, .ref 3), (1, .int x1), (2, .int x2)]) (st2 := [.int x2, .ref 3]) (h2 := (sh_rep m.T m.I m.J)) rfl rfl rfl ?_
      exact kk
    obtain ⟨r1, e1, e⟩ := sh_bc_e e
    refine sh_Lk_cV (r := (some (.int r1))) (st2 := [.int r1]) (pc2 := 15) (k2 := 26) (a := 2) (as := [.ref 3, .int x2]) (rest := []) rfl rfl rfl (fun hT => hT.t2) rfl rfl ⟨Nat.le_of_ble_eq_true rfl, Nat.le_of_ble_eq_true rfl⟩ (sl_26 e1 ⟨rfl, rfl⟩) rfl rfl (Nat.le_of_ble_eq_true rfl) (Nat.le_of_ble_eq_true rfl) ?_
    refine sh_Lk_cS (r := (some (.int (sh_b2 (sf_30 r1))))) (st2 := [.int (sh_b2 (sf_30 r1))]) (pc2 := 18) (k2 := 30) (as := [.int r1]) (rest := []) rfl rfl (by decide) (Nat.le_of_ble_eq_true rfl) rfl rfl ⟨Nat.le_of_ble_eq_true rfl, Nat.le_of_ble_eq_true rfl⟩ (sl_30 (m := m) rfl ⟨rfl, rfl⟩) rfl rfl (Nat.le_of_ble_eq_true rfl) (Nat.le_of_ble_eq_true rfl) ?_
    rcases sh_ite e with ⟨c, e⟩ | ⟨c, e⟩
    · refine sh_Lk_lift (T := m.T) (I := m.I) (J := m.J) (s := m.s) (pc2 := 2) (lv2 := [(2, .int (x2 + 1)), (0, .ref 3), (1, .int x1)]) (st2 := []) (I2 := m.I) (J2 := m.J) (fun hT v kk => ?_) ?_
      · refine sh_j0 (c := .eq) (off := (9)) (pc2 := 21) false rfl (sh_Zeqf c) rfl ?_
        refine sh_w (i := (.iinc 2 1)) (len := 3) (pc2 := 24) (lv2 := [(2, .int (x2 + 1)), (0, .ref 3), (1, .int x1)]) (st2 := []) (h2 := (sh_rep m.T m.I m.J)) rfl rfl rfl ?_
        refine sh_w (i := (.goto (-22))) (len := 3) (pc2 := 2) (lv2 := [(2, .int (x2 + 1)), (0, .ref 3), (1, .int x1)]) (st2 := []) (h2 := (sh_rep m.T m.I m.J)) rfl rfl rfl ?_
        exact kk
      obtain rfl := Option.some.inj e
      exact sh_Lk_sub (sh_sub_c rfl (sh_sub_c rfl (sh_sub_c rfl (sh_sub_n)))) tg
    · refine sh_Lk_lift (T := m.T) (I := m.I) (J := m.J) (s := m.s) (pc2 := 27) (lv2 := [(0, .ref 3), (1, .int x1), (2, .int x2)]) (st2 := []) (I2 := m.I) (J2 := m.J) (fun hT v kk => ?_) ?_
      · refine sh_j0 (c := .eq) (off := (9)) (pc2 := 27) true rfl (sh_Zeqt c) rfl ?_
        exact kk
      obtain ⟨_, eu, rfl⟩ := sh_up_e e
      exact sh_Lk_sub (sh_sub_c rfl (sh_sub_c rfl (sh_sub_c rfl (sh_sub_n)))) (sl_29_27 eu tg)
  · refine sh_Lk_lift (T := m.T) (I := m.I) (J := m.J) (s := m.s) (pc2 := 27) (lv2 := [(0, .ref 3), (1, .int x1), (2, .int x2)]) (st2 := []) (I2 := m.I) (J2 := m.J) (fun hT v kk => ?_) ?_
    · refine sh_jc (c := .ge) (off := (20)) (pc2 := 27) true rfl (sh_Bget c) rfl ?_
      exact kk
    obtain ⟨_, eu, rfl⟩ := sh_up_e e
    exact sh_Lk_sub (sh_sub_c rfl (sh_sub_c rfl (sh_sub_c rfl (sh_sub_n)))) (sl_29_27 eu tg)
theorem sl_29_2 {x1 : Int32} {x2 : Int32} {m m2 : sh_X} {o : Outcome} {z : (Option Int32 × sh_X)} (e : sf_29_2 x1 x2 m = some z) (tg : (sh_tIt o m2) z) : sh_Lk 29 2 [(0, .ref 3), (1, .int x1), (2, .int x2)] [] m o m2 32 649 := by
  unfold sf_29_2 at e
  exact sh_while_lk (P := fun q => sh_Lk 29 2 [(0, .ref 3), (1, .int x1), (2, .int q.1)] [] q.2 o m2 32 649) (Q := (sh_tIt o m2)) (fun q z e tg => sl_29_2s (x1 := x1) (x2 := q.1) (m := q.2) e tg) (s := (x2, m)) e tg
theorem sl_29 {x1 : Int32} {m m2 : sh_X} {o : Outcome} {z : (Option Int32 × sh_X)} (e : sf_29 x1 m = some z) (tg : (sh_tIt o m2) z) : sh_Lk 29 0 [(0, .ref 3), (1, .int x1)] [] m o m2 32 649 := by
  unfold sf_29 at e
  refine sh_Lk_lift (T := m.T) (I := m.I) (J := m.J) (s := m.s) (pc2 := 2) (lv2 := [(2, .int x1), (0, .ref 3), (1, .int x1)]) (st2 := []) (I2 := m.I) (J2 := m.J) (fun hT v kk => ?_) ?_
  · refine sh_w (i := (.iload_n 1)) (len := 1) (pc2 := 1) (lv2 := [(0, .ref 3), (1, .int x1)]) (st2 := [.int x1]) (h2 := (sh_rep m.T m.I m.J)) rfl rfl rfl ?_
    refine sh_w (i := (.istore_n 2)) (len := 1) (pc2 := 2) (lv2 := [(2, .int x1), (0, .ref 3), (1, .int x1)]) (st2 := []) (h2 := (sh_rep m.T m.I m.J)) rfl rfl rfl ?_
    exact kk
  exact sh_Lk_sub (sh_sub_c rfl (sh_sub_c rfl (sh_sub_c rfl (sh_sub_n)))) (sl_29_2 e tg)
theorem sl_39_60 {x1 : Int32} {x2 : Int32} {x3 : Int64} {m m2 : sh_X} {o : Outcome} {z : (Option Int32 × sh_X)} (e : sf_39_60 x1 x2 x3 m = some z) (tg : (sh_tIt o m2) z) : sh_Lk 39 60 [(0, .ref 3), (1, .int x1), (2, .int x2), (3, .long x3)] [] m o m2 9 224 := by
  unfold sf_39_60 at e
  refine sh_Lk_lift (T := m.T) (I := m.I) (J := m.J) (s := m.s) (pc2 := 64) (lv2 := [(0, .ref 3), (1, .int x1), (2, .int x2), (3, .long x3)]) (st2 := [.long x3, .int x1, .int 2, .ref 3]) (I2 := m.I) (J2 := m.J) (fun hT v kk => ?_) ?_
  · refine sh_w (i := (.aload_n 0)) (len := 1) (pc2 := 61) (lv2 := [(0, .ref 3), (1, .int x1), (2, .int x2), (3, .long x3)]) (st2 := [.ref 3]) (h2 := (sh_rep m.T m.I m.J)) rfl rfl rfl ?_
    refine sh_w (i := (.iconst 2)) (len := 1) (pc2 := 62) (lv2 := [(0, .ref 3), (1, .int x1), (2, .int x2), (3, .long x3)]) (st2 := [.int 2, .ref 3]) (h2 := (sh_rep m.T m.I m.J)) rfl rfl rfl ?_
    refine sh_w (i := (.iload_n 1)) (len := 1) (pc2 := 63) (lv2 := [(0, .ref 3), (1, .int x1), (2, .int x2), (3, .long x3)]) (st2 := [.int x1, .int 2, .ref 3]) (h2 := (sh_rep m.T m.I m.J)) rfl rfl rfl ?_
    refine sh_w (i := (.lload_n 3)) (len := 1) (pc2 := 64) (lv2 := [(0, .ref 3), (1, .int x1), (2, .int x2), (3, .long x3)]) (st2 := [.long x3, .int x1, .int 2, .ref 3]) (h2 := (sh_rep m.T m.I m.J)) rfl rfl rfl ?_
    exact kk
  obtain ⟨r1, m11, e1, e⟩ := sh_bn_e e
  refine sh_Lk_cV (r := none) (st2 := []) (pc2 := 67) (k2 := 38) (a := 2) (as := [.ref 3, .int 2, .int x1, .long x3]) (rest := []) rfl rfl rfl (fun hT => hT.t2) rfl rfl ⟨Nat.le_of_ble_eq_true rfl, Nat.le_of_ble_eq_true rfl⟩ (sl_38 e1 ⟨rfl, rfl⟩) rfl rfl (Nat.le_of_ble_eq_true rfl) (Nat.le_of_ble_eq_true rfl) ?_
  refine sh_Lk_lift (T := m11.T) (I := m11.I) (J := m11.J) (s := m11.s) (pc2 := 68) (lv2 := [(0, .ref 3), (1, .int x1), (2, .int x2), (3, .long x3)]) (st2 := [.int x2]) (I2 := m11.I) (J2 := m11.J) (fun hT v kk => ?_) ?_
  · refine sh_w (i := (.iload_n 2)) (len := 1) (pc2 := 68) (lv2 := [(0, .ref 3), (1, .int x1), (2, .int x2), (3, .long x3)]) (st2 := [.int x2]) (h2 := (sh_rep m11.T m11.I m11.J)) rfl rfl rfl ?_
    exact kk
  obtain rfl := Option.some.inj e
  obtain ⟨rfl, rfl⟩ := tg
  exact sh_Lk_ret (i := .ireturn) rfl rfl rfl (Nat.le_of_ble_eq_true rfl) (Nat.le_of_ble_eq_true rfl)
theorem sl_39_46 {x1 : Int32} {x2 : Int32} {x3 : Int64} {m m2 : sh_X} {o : Outcome} {z : (Option Int32 × sh_X)} (e : sf_39_46 x1 x2 x3 m = some z) (tg : (sh_tIt o m2) z) : sh_Lk 39 46 [(0, .ref 3), (1, .int x1), (2, .int x2), (3, .long x3)] [] m o m2 9 224 := by
  unfold sf_39_46 at e
  refine sh_Lk_lift (T := m.T) (I := m.I) (J := m.J) (s := m.s) (pc2 := 51) (lv2 := [(0, .ref 3), (1, .int x1), (2, .int x2), (3, .long x3)]) (st2 := [.int 18, .int (x2 - x1)]) (I2 := m.I) (J2 := m.J) (fun hT v kk => ?_) ?_
  · refine sh_w (i := (.iload_n 2)) (len := 1) (pc2 := 47) (lv2 := [(0, .ref 3), (1, .int x1), (2, .int x2), (3, .long x3)]) (st2 := [.int x2]) (h2 := (sh_rep m.T m.I m.J)) rfl rfl rfl ?_
    refine sh_w (i := (.iload_n 1)) (len := 1) (pc2 := 48) (lv2 := [(0, .ref 3), (1, .int x1), (2, .int x2), (3, .long x3)]) (st2 := [.int x1, .int x2]) (h2 := (sh_rep m.T m.I m.J)) rfl rfl rfl ?_
    refine sh_w (i := .isub) (len := 1) (pc2 := 49) (lv2 := [(0, .ref 3), (1, .int x1), (2, .int x2), (3, .long x3)]) (st2 := [.int (x2 - x1)]) (h2 := (sh_rep m.T m.I m.J)) rfl rfl rfl ?_
    refine sh_w (i := (.bipush 18)) (len := 2) (pc2 := 51) (lv2 := [(0, .ref 3), (1, .int x1), (2, .int x2), (3, .long x3)]) (st2 := [.int 18, .int (x2 - x1)]) (h2 := (sh_rep m.T m.I m.J)) rfl rfl rfl ?_
    exact kk
  rcases sh_ite e with ⟨c, e⟩ | ⟨c, e⟩
  · refine sh_Lk_lift (T := m.T) (I := m.I) (J := m.J) (s := m.s) (pc2 := 57) (lv2 := [(0, .ref 3), (1, .int x1), (2, .int x2), (3, .long x3)]) (st2 := [.int x1, .int 1, .ref 3]) (I2 := m.I) (J2 := m.J) (fun hT v kk => ?_) ?_
    · refine sh_jc (c := .le) (off := (9)) (pc2 := 54) false rfl (sh_Blef c) rfl ?_
      refine sh_w (i := (.aload_n 0)) (len := 1) (pc2 := 55) (lv2 := [(0, .ref 3), (1, .int x1), (2, .int x2), (3, .long x3)]) (st2 := [.ref 3]) (h2 := (sh_rep m.T m.I m.J)) rfl rfl rfl ?_
      refine sh_w (i := (.iconst 1)) (len := 1) (pc2 := 56) (lv2 := [(0, .ref 3), (1, .int x1), (2, .int x2), (3, .long x3)]) (st2 := [.int 1, .ref 3]) (h2 := (sh_rep m.T m.I m.J)) rfl rfl rfl ?_
      refine sh_w (i := (.iload_n 1)) (len := 1) (pc2 := 57) (lv2 := [(0, .ref 3), (1, .int x1), (2, .int x2), (3, .long x3)]) (st2 := [.int x1, .int 1, .ref 3]) (h2 := (sh_rep m.T m.I m.J)) rfl rfl rfl ?_
      exact kk
    rcases sh_bt_e e with ⟨m11, e1, rfl⟩ | ⟨r1, m11, e1, e⟩
    · obtain ⟨rfl, rfl⟩ := tg
      exact sh_Lk_tV (k2 := 32) (a := 2) (as := [.ref 3, .int 1, .int x1]) (rest := []) rfl rfl rfl (fun hT => hT.t2) rfl rfl ⟨Nat.le_of_ble_eq_true rfl, Nat.le_of_ble_eq_true rfl⟩ (sl_32 e1 ⟨rfl, rfl⟩) rfl (Nat.le_of_ble_eq_true rfl) (Nat.le_of_ble_eq_true rfl) (Nat.le_of_ble_eq_true rfl) (Nat.le_of_ble_eq_true rfl) rfl
    refine sh_Lk_cV (r := none) (st2 := []) (pc2 := 60) (k2 := 32) (a := 2) (as := [.ref 3, .int 1, .int x1]) (rest := []) rfl rfl rfl (fun hT => hT.t2) rfl rfl ⟨Nat.le_of_ble_eq_true rfl, Nat.le_of_ble_eq_true rfl⟩ (sl_32 e1 ⟨rfl, rfl⟩) rfl rfl (Nat.le_of_ble_eq_true rfl) (Nat.le_of_ble_eq_true rfl) ?_
    exact sh_Lk_sub (sh_sub_c rfl (sh_sub_c rfl (sh_sub_c rfl (sh_sub_c rfl (sh_sub_n))))) (sl_39_60 e tg)
  · refine sh_Lk_lift (T := m.T) (I := m.I) (J := m.J) (s := m.s) (pc2 := 60) (lv2 := [(0, .ref 3), (1, .int x1), (2, .int x2), (3, .long x3)]) (st2 := []) (I2 := m.I) (J2 := m.J) (fun hT v kk => ?_) ?_
    · refine sh_jc (c := .le) (off := (9)) (pc2 := 60) true rfl (sh_Blet c) rfl ?_
      exact kk
    exact sh_Lk_sub (sh_sub_c rfl (sh_sub_c rfl (sh_sub_c rfl (sh_sub_c rfl (sh_sub_n))))) (sl_39_60 e tg)
theorem sl_39_4s {x1 : Int32} {x2 : Int32} {x3 : Int64} {m m2 : sh_X} {o : Outcome} {z : ((Int32 × Int64 × sh_X) ⊕ (Option Int32 × sh_X))} (e : sf_39_4s x1 x2 x3 m = some z) (tg : (sh_el (fun q => sh_Lk 39 4 [(0, .ref 3), (1, .int x1), (2, .int q.1), (3, .long q.2.1)] [] q.2.2 o m2 9 224) (sh_tIt o m2)) z) : sh_Lk 39 4 [(0, .ref 3), (1, .int x1), (2, .int x2), (3, .long x3)] [] m o m2 9 224 := by
  unfold sf_39_4s at e
  refine sh_Lk_lift (T := m.T) (I := m.I) (J := m.J) (s := m.s) (pc2 := 9) (lv2 := [(0, .ref 3), (1, .int x1), (2, .int x2), (3, .long x3)]) (st2 := [.int (m.I 2 6), .int x2]) (I2 := m.I) (J2 := m.J) (fun hT v kk => ?_) ?_
  · refine sh_w (i := (.iload_n 2)) (len := 1) (pc2 := 5) (lv2 := [(0, .ref 3), (1, .int x1), (2, .int x2), (3, .long x3)]) (st2 := [.int x2]) (h2 := (sh_rep m.T m.I m.J)) rfl rfl rfl ?_
    refine sh_w (i := (.aload_n 0)) (len := 1) (pc2 := 6) (lv2 := [(0, .ref 3), (1, .int x1), (2, .int x2), (3, .long x3)]) (st2 := [.ref 3, .int x2]) (h2 := (sh_rep m.T m.I m.J)) rfl rfl rfl ?_
    refine sh_gI1 (len := 3) (x := m.I 2 6) (pc2 := 9) rfl rfl hT.t2 rfl rfl rfl ?_
    exact kk
  rcases sh_ite e with ⟨c, e⟩ | ⟨c, e⟩
  · refine sh_Lk_lift (T := m.T) (I := m.I) (J := m.J) (s := m.s) (pc2 := 14) (lv2 := [(0, .ref 3), (1, .int x1), (2, .int x2), (3, .long x3)]) (st2 := [.int x2, .ref 3]) (I2 := m.I) (J2 := m.J) (fun hT v kk => ?_) ?_
    · refine sh_jc (c := .ge) (off := (37)) (pc2 := 12) false rfl (sh_Bgef c) rfl ?_
      refine sh_w (i := (.aload_n 0)) (len := 1) (pc2 := 13) (lv2 := [(0, .ref 3), (1, .int x1), (2, .int x2), (3, .long x3)]) (st2 := [.ref 3]) (h2 := (sh_rep m.T m.I m.J)) rfl rfl rfl ?_
      refine sh_w (i := (.iload_n 2)) (len := 1) (pc2 := 14) (lv2 := [(0, .ref 3), (1, .int x1), (2, .int x2), (3, .long x3)]) (st2 := [.int x2, .ref 3]) (h2 := (sh_rep m.T m.I m.J)) rfl rfl rfl ?_
      exact kk
    obtain ⟨r1, e1, e⟩ := sh_bc_e e
    refine sh_Lk_cV (r := (some (.int r1))) (st2 := [.int r1]) (pc2 := 17) (k2 := 26) (a := 2) (as := [.ref 3, .int x2]) (rest := []) rfl rfl rfl (fun hT => hT.t2) rfl rfl ⟨Nat.le_of_ble_eq_true rfl, Nat.le_of_ble_eq_true rfl⟩ (sl_26 e1 ⟨rfl, rfl⟩) rfl rfl (Nat.le_of_ble_eq_true rfl) (Nat.le_of_ble_eq_true rfl) ?_
    refine sh_Lk_cS (r := (some (.int (sh_b2 (sf_31 r1))))) (st2 := [.int (sh_b2 (sf_31 r1))]) (pc2 := 20) (k2 := 31) (as := [.int r1]) (rest := []) rfl rfl (by decide) (Nat.le_of_ble_eq_true rfl) rfl rfl ⟨Nat.le_of_ble_eq_true rfl, Nat.le_of_ble_eq_true rfl⟩ (sl_31 (m := m) rfl ⟨rfl, rfl⟩) rfl rfl (Nat.le_of_ble_eq_true rfl) (Nat.le_of_ble_eq_true rfl) ?_
    rcases sh_ite e with ⟨c, e⟩ | ⟨c, e⟩
    · refine sh_Lk_lift (T := m.T) (I := m.I) (J := m.J) (s := m.s) (pc2 := 30) (lv2 := [(0, .ref 3), (1, .int x1), (2, .int x2), (3, .long x3)]) (st2 := [.int x2, .ref 3, .long ((10 : Int64) * x3)]) (I2 := m.I) (J2 := m.J) (fun hT v kk => ?_) ?_
      · refine sh_j0 (c := .eq) (off := (26)) (pc2 := 23) false rfl (sh_Zeqf c) rfl ?_
        refine sh_w (i := (.ldc2_w 107)) (len := 3) (pc2 := 26) (lv2 := [(0, .ref 3), (1, .int x1), (2, .int x2), (3, .long x3)]) (st2 := [.long 10]) (h2 := (sh_rep m.T m.I m.J)) rfl rfl rfl ?_
        refine sh_w (i := (.lload_n 3)) (len := 1) (pc2 := 27) (lv2 := [(0, .ref 3), (1, .int x1), (2, .int x2), (3, .long x3)]) (st2 := [.long x3, .long 10]) (h2 := (sh_rep m.T m.I m.J)) rfl rfl rfl ?_
        refine sh_w (i := .lmul) (len := 1) (pc2 := 28) (lv2 := [(0, .ref 3), (1, .int x1), (2, .int x2), (3, .long x3)]) (st2 := [.long ((10 : Int64) * x3)]) (h2 := (sh_rep m.T m.I m.J)) rfl rfl rfl ?_
        refine sh_w (i := (.aload_n 0)) (len := 1) (pc2 := 29) (lv2 := [(0, .ref 3), (1, .int x1), (2, .int x2), (3, .long x3)]) (st2 := [.ref 3, .long ((10 : Int64) * x3)]) (h2 := (sh_rep m.T m.I m.J)) rfl rfl rfl ?_
        refine sh_w (i := (.iload_n 2)) (len := 1) (pc2 := 30) (lv2 := [(0, .ref 3), (1, .int x1), (2, .int x2), (3, .long x3)]) (st2 := [.int x2, .ref 3, .long ((10 : Int64) * x3)]) (h2 := (sh_rep m.T m.I m.J)) rfl rfl rfl ?_
        exact kk
      obtain ⟨r3, e3, e⟩ := sh_bc_e e
      refine sh_Lk_cV (r := (some (.int r3))) (st2 := [.int r3, .long ((10 : Int64) * x3)]) (pc2 := 33) (k2 := 26) (a := 2) (as := [.ref 3, .int x2]) (rest := [.long ((10 : Int64) * x3)]) rfl rfl rfl (fun hT => hT.t2) rfl rfl ⟨Nat.le_of_ble_eq_true rfl, Nat.le_of_ble_eq_true rfl⟩ (sl_26 e3 ⟨rfl, rfl⟩) rfl rfl (Nat.le_of_ble_eq_true rfl) (Nat.le_of_ble_eq_true rfl) ?_
      refine sh_Lk_lift (T := m.T) (I := m.I) (J := m.J) (s := m.s) (pc2 := 4) (lv2 := [(2, .int (x2 + 1)), (3, .long ((((10 : Int64) * x3) + (Int32.toInt64 r3)) - (48 : Int64))), (0, .ref 3), (1, .int x1)]) (st2 := []) (I2 := m.I) (J2 := m.J) (fun hT v kk => ?_) ?_
      · refine sh_w (i := .i2l) (len := 1) (pc2 := 34) (lv2 := [(0, .ref 3), (1, .int x1), (2, .int x2), (3, .long x3)]) (st2 := [.long (Int32.toInt64 r3), .long ((10 : Int64) * x3)]) (h2 := (sh_rep m.T m.I m.J)) rfl rfl rfl ?_
        refine sh_w (i := .ladd) (len := 1) (pc2 := 35) (lv2 := [(0, .ref 3), (1, .int x1), (2, .int x2), (3, .long x3)]) (st2 := [.long (((10 : Int64) * x3) + (Int32.toInt64 r3))]) (h2 := (sh_rep m.T m.I m.J)) rfl rfl rfl ?_
        refine sh_w (i := (.ldc2_w 109)) (len := 3) (pc2 := 38) (lv2 := [(0, .ref 3), (1, .int x1), (2, .int x2), (3, .long x3)]) (st2 := [.long 48, .long (((10 : Int64) * x3) + (Int32.toInt64 r3))]) (h2 := (sh_rep m.T m.I m.J)) rfl rfl rfl ?_
        refine sh_w (i := .lsub) (len := 1) (pc2 := 39) (lv2 := [(0, .ref 3), (1, .int x1), (2, .int x2), (3, .long x3)]) (st2 := [.long ((((10 : Int64) * x3) + (Int32.toInt64 r3)) - (48 : Int64))]) (h2 := (sh_rep m.T m.I m.J)) rfl rfl rfl ?_
        refine sh_w (i := (.lstore_n 3)) (len := 1) (pc2 := 40) (lv2 := [(3, .long ((((10 : Int64) * x3) + (Int32.toInt64 r3)) - (48 : Int64))), (0, .ref 3), (1, .int x1), (2, .int x2)]) (st2 := []) (h2 := (sh_rep m.T m.I m.J)) rfl rfl rfl ?_
        refine sh_w (i := (.iinc 2 1)) (len := 3) (pc2 := 43) (lv2 := [(2, .int (x2 + 1)), (3, .long ((((10 : Int64) * x3) + (Int32.toInt64 r3)) - (48 : Int64))), (0, .ref 3), (1, .int x1)]) (st2 := []) (h2 := (sh_rep m.T m.I m.J)) rfl rfl rfl ?_
        refine sh_w (i := (.goto (-39))) (len := 3) (pc2 := 4) (lv2 := [(2, .int (x2 + 1)), (3, .long ((((10 : Int64) * x3) + (Int32.toInt64 r3)) - (48 : Int64))), (0, .ref 3), (1, .int x1)]) (st2 := []) (h2 := (sh_rep m.T m.I m.J)) rfl rfl rfl ?_
        exact kk
      obtain rfl := Option.some.inj e
      exact sh_Lk_sub (sh_sub_c rfl (sh_sub_c rfl (sh_sub_c rfl (sh_sub_c rfl (sh_sub_n))))) tg
    · refine sh_Lk_lift (T := m.T) (I := m.I) (J := m.J) (s := m.s) (pc2 := 46) (lv2 := [(0, .ref 3), (1, .int x1), (2, .int x2), (3, .long x3)]) (st2 := []) (I2 := m.I) (J2 := m.J) (fun hT v kk => ?_) ?_
      · refine sh_j0 (c := .eq) (off := (26)) (pc2 := 46) true rfl (sh_Zeqt c) rfl ?_
        exact kk
      obtain ⟨_, eu, rfl⟩ := sh_up_e e
      exact sh_Lk_sub (sh_sub_c rfl (sh_sub_c rfl (sh_sub_c rfl (sh_sub_c rfl (sh_sub_n))))) (sl_39_46 eu tg)
  · refine sh_Lk_lift (T := m.T) (I := m.I) (J := m.J) (s := m.s) (pc2 := 46) (lv2 := [(0, .ref 3), (1, .int x1), (2, .int x2), (3, .long x3)]) (st2 := []) (I2 := m.I) (J2 := m.J) (fun hT v kk => ?_) ?_
    · refine sh_jc (c := .ge) (off := (37)) (pc2 := 46) true rfl (sh_Bget c) rfl ?_
      exact kk
    obtain ⟨_, eu, rfl⟩ := sh_up_e e
    exact sh_Lk_sub (sh_sub_c rfl (sh_sub_c rfl (sh_sub_c rfl (sh_sub_c rfl (sh_sub_n))))) (sl_39_46 eu tg)
theorem sl_39_4 {x1 : Int32} {x2 : Int32} {x3 : Int64} {m m2 : sh_X} {o : Outcome} {z : (Option Int32 × sh_X)} (e : sf_39_4 x1 x2 x3 m = some z) (tg : (sh_tIt o m2) z) : sh_Lk 39 4 [(0, .ref 3), (1, .int x1), (2, .int x2), (3, .long x3)] [] m o m2 9 224 := by
  unfold sf_39_4 at e
  exact sh_while_lk (P := fun q => sh_Lk 39 4 [(0, .ref 3), (1, .int x1), (2, .int q.1), (3, .long q.2.1)] [] q.2.2 o m2 9 224) (Q := (sh_tIt o m2)) (fun q z e tg => sl_39_4s (x1 := x1) (x2 := q.1) (x3 := q.2.1) (m := q.2.2) e tg) (s := (x2, x3, m)) e tg
theorem sl_39 {x1 : Int32} {m m2 : sh_X} {o : Outcome} {z : (Option Int32 × sh_X)} (e : sf_39 x1 m = some z) (tg : (sh_tIt o m2) z) : sh_Lk 39 0 [(0, .ref 3), (1, .int x1)] [] m o m2 9 224 := by
  unfold sf_39 at e
  refine sh_Lk_lift (T := m.T) (I := m.I) (J := m.J) (s := m.s) (pc2 := 4) (lv2 := [(3, .long 0), (2, .int x1), (0, .ref 3), (1, .int x1)]) (st2 := []) (I2 := m.I) (J2 := m.J) (fun hT v kk => ?_) ?_
  · refine sh_w (i := (.iload_n 1)) (len := 1) (pc2 := 1) (lv2 := [(0, .ref 3), (1, .int x1)]) (st2 := [.int x1]) (h2 := (sh_rep m.T m.I m.J)) rfl rfl rfl ?_
    refine sh_w (i := (.istore_n 2)) (len := 1) (pc2 := 2) (lv2 := [(2, .int x1), (0, .ref 3), (1, .int x1)]) (st2 := []) (h2 := (sh_rep m.T m.I m.J)) rfl rfl rfl ?_
    refine sh_w (i := (.lconst 0)) (len := 1) (pc2 := 3) (lv2 := [(2, .int x1), (0, .ref 3), (1, .int x1)]) (st2 := [.long 0]) (h2 := (sh_rep m.T m.I m.J)) rfl rfl rfl ?_
    refine sh_w (i := (.lstore_n 3)) (len := 1) (pc2 := 4) (lv2 := [(3, .long 0), (2, .int x1), (0, .ref 3), (1, .int x1)]) (st2 := []) (h2 := (sh_rep m.T m.I m.J)) rfl rfl rfl ?_
    exact kk
  exact sh_Lk_sub (sh_sub_c rfl (sh_sub_c rfl (sh_sub_c rfl (sh_sub_c rfl (sh_sub_n))))) (sl_39_4 e tg)
theorem sl_41 {x0 : Int32} {m m2 : sh_X} {o : Outcome} {z : Bool} (e : sf_41 x0 = z) (tg : (sh_tZc m o m2) z) : sh_Lk 41 0 [(0, .int x0)] [] m o m2 8 200 := by
  unfold sf_41 at e
  refine sh_Lk_lift (T := m.T) (I := m.I) (J := m.J) (s := m.s) (pc2 := 1) (lv2 := [(0, .int x0)]) (st2 := [.int x0]) (I2 := m.I) (J2 := m.J) (fun hT v kk => ?_) ?_
  · refine sh_w (i := (.iload_n 0)) (len := 1) (pc2 := 1) (lv2 := [(0, .int x0)]) (st2 := [.int x0]) (h2 := (sh_rep m.T m.I m.J)) rfl rfl rfl ?_
    exact kk
  rcases sh_ite e with ⟨c, e⟩ | ⟨c0, e⟩
  · refine sh_Lk_lift (T := m.T) (I := m.I) (J := m.J) (s := m.s) (pc2 := 85) (lv2 := [(0, .int x0)]) (st2 := [.int 1]) (I2 := m.I) (J2 := m.J) (fun hT v kk => ?_) ?_
    · refine sh_w (i := (.lookupswitch 85 #[(8509, 83), (9766, 83), (11822, 83), (15420, 83), (15421, 83), (15677, 83), (15933, 83), (15934, 83), (31868, 83)])) (len := 83) (pc2 := 84) (lv2 := [(0, .int x0)]) (st2 := []) (h2 := (sh_rep m.T m.I m.J)) rfl rfl (c.elim (fun c => sh_sw c rfl) (fun c => c.elim (fun c => sh_sw c rfl) (fun c => c.elim (fun c => sh_sw c rfl) (fun c => c.elim (fun c => sh_sw c rfl) (fun c => c.elim (fun c => sh_sw c rfl) (fun c => c.elim (fun c => sh_sw c rfl) (fun c => c.elim (fun c => sh_sw c rfl) (fun c => c.elim (fun c => sh_sw c rfl) (fun c => sh_sw c rfl))))))))) ?_
      refine sh_w (i := (.iconst 1)) (len := 1) (pc2 := 85) (lv2 := [(0, .int x0)]) (st2 := [.int 1]) (h2 := (sh_rep m.T m.I m.J)) rfl rfl rfl ?_
      exact kk
    obtain rfl := e
    obtain ⟨rfl, rfl⟩ := tg
    exact sh_Lk_ret (i := .ireturn) rfl rfl rfl (Nat.le_of_ble_eq_true rfl) (Nat.le_of_ble_eq_true rfl)
  refine sh_Lk_lift (T := m.T) (I := m.I) (J := m.J) (s := m.s) (pc2 := 87) (lv2 := [(0, .int x0)]) (st2 := [.int 0]) (I2 := m.I) (J2 := m.J) (fun hT v kk => ?_) ?_
  · refine sh_w (i := (.lookupswitch 85 #[(8509, 83), (9766, 83), (11822, 83), (15420, 83), (15421, 83), (15677, 83), (15933, 83), (15934, 83), (31868, 83)])) (len := 83) (pc2 := 86) (lv2 := [(0, .int x0)]) (st2 := []) (h2 := (sh_rep m.T m.I m.J)) rfl rfl (sh_swl rfl (sh_fc (fun h => c0 (Or.inl h)) (sh_fc (fun h => c0 (Or.inr (Or.inl h))) (sh_fc (fun h => c0 (Or.inr (Or.inr (Or.inl h)))) (sh_fc (fun h => c0 (Or.inr (Or.inr (Or.inr (Or.inl h))))) (sh_fc (fun h => c0 (Or.inr (Or.inr (Or.inr (Or.inr (Or.inl h)))))) (sh_fc (fun h => c0 (Or.inr (Or.inr (Or.inr (Or.inr (Or.inr (Or.inl h))))))) (sh_fc (fun h => c0 (Or.inr (Or.inr (Or.inr (Or.inr (Or.inr (Or.inr (Or.inl h)))))))) (sh_fc (fun h => c0 (Or.inr (Or.inr (Or.inr (Or.inr (Or.inr (Or.inr (Or.inr (Or.inl h))))))))) (sh_fc (fun h => c0 (Or.inr (Or.inr (Or.inr (Or.inr (Or.inr (Or.inr (Or.inr (Or.inr (h)))))))))) sh_fn))))))))) rfl) ?_
    refine sh_w (i := (.iconst 0)) (len := 1) (pc2 := 87) (lv2 := [(0, .int x0)]) (st2 := [.int 0]) (h2 := (sh_rep m.T m.I m.J)) rfl rfl rfl ?_
    exact kk
  obtain rfl := e
  obtain ⟨rfl, rfl⟩ := tg
  exact sh_Lk_ret (i := .ireturn) rfl rfl rfl (Nat.le_of_ble_eq_true rfl) (Nat.le_of_ble_eq_true rfl)
theorem sl_40_48 {x1 : Int32} {x2 : Int32} {m m2 : sh_X} {o : Outcome} {z : (Option Int32 × sh_X)} (e : sf_40_48 x1 x2 m = some z) (tg : (sh_tIt o m2) z) : sh_Lk 40 48 [(0, .ref 3), (1, .int x1), (2, .int x2)] [] m o m2 30 600 := by
  unfold sf_40_48 at e
  refine sh_Lk_lift (T := m.T) (I := m.I) (J := m.J) (s := m.s) (pc2 := 52) (lv2 := [(0, .ref 3), (1, .int x1), (2, .int x2)]) (st2 := [.long 0, .int x1, .int x2, .ref 3]) (I2 := m.I) (J2 := m.J) (fun hT v kk => ?_) ?_
  · refine sh_w (i := (.aload_n 0)) (len := 1) (pc2 := 49) (lv2 := [(0, .ref 3), (1, .int x1), (2, .int x2)]) (st2 := [.ref 3]) (h2 := (sh_rep m.T m.I m.J)) rfl rfl rfl ?_
    refine sh_w (i := (.iload_n 2)) (len := 1) (pc2 := 50) (lv2 := [(0, .ref 3), (1, .int x1), (2, .int x2)]) (st2 := [.int x2, .ref 3]) (h2 := (sh_rep m.T m.I m.J)) rfl rfl rfl ?_
    refine sh_w (i := (.iload_n 1)) (len := 1) (pc2 := 51) (lv2 := [(0, .ref 3), (1, .int x1), (2, .int x2)]) (st2 := [.int x1, .int x2, .ref 3]) (h2 := (sh_rep m.T m.I m.J)) rfl rfl rfl ?_
    refine sh_w (i := (.lconst 0)) (len := 1) (pc2 := 52) (lv2 := [(0, .ref 3), (1, .int x1), (2, .int x2)]) (st2 := [.long 0, .int x1, .int x2, .ref 3]) (h2 := (sh_rep m.T m.I m.J)) rfl rfl rfl ?_
    exact kk
  obtain ⟨r1, m11, e1, e⟩ := sh_bn_e e
  refine sh_Lk_cV (r := none) (st2 := []) (pc2 := 55) (k2 := 38) (a := 2) (as := [.ref 3, .int x2, .int x1, .long 0]) (rest := []) rfl rfl rfl (fun hT => hT.t2) rfl rfl ⟨Nat.le_of_ble_eq_true rfl, Nat.le_of_ble_eq_true rfl⟩ (sl_38 e1 ⟨rfl, rfl⟩) rfl rfl (Nat.le_of_ble_eq_true rfl) (Nat.le_of_ble_eq_true rfl) ?_
  refine sh_Lk_lift (T := m11.T) (I := m11.I) (J := m11.J) (s := m11.s) (pc2 := 58) (lv2 := [(0, .ref 3), (1, .int x1), (2, .int x2)]) (st2 := [.int (x1 + 1)]) (I2 := m11.I) (J2 := m11.J) (fun hT v kk => ?_) ?_
  · refine sh_w (i := (.iload_n 1)) (len := 1) (pc2 := 56) (lv2 := [(0, .ref 3), (1, .int x1), (2, .int x2)]) (st2 := [.int x1]) (h2 := (sh_rep m11.T m11.I m11.J)) rfl rfl rfl ?_
    refine sh_w (i := (.iconst 1)) (len := 1) (pc2 := 57) (lv2 := [(0, .ref 3), (1, .int x1), (2, .int x2)]) (st2 := [.int 1, .int x1]) (h2 := (sh_rep m11.T m11.I m11.J)) rfl rfl rfl ?_
    refine sh_w (i := .iadd) (len := 1) (pc2 := 58) (lv2 := [(0, .ref 3), (1, .int x1), (2, .int x2)]) (st2 := [.int (x1 + 1)]) (h2 := (sh_rep m11.T m11.I m11.J)) rfl rfl rfl ?_
    exact kk
  obtain rfl := Option.some.inj e
  obtain ⟨rfl, rfl⟩ := tg
  exact sh_Lk_ret (i := .ireturn) rfl rfl rfl (Nat.le_of_ble_eq_true rfl) (Nat.le_of_ble_eq_true rfl)
theorem sl_40 {x1 : Int32} {x2 : Int32} {m m2 : sh_X} {o : Outcome} {z : (Option Int32 × sh_X)} (e : sf_40 x1 x2 m = some z) (tg : (sh_tIt o m2) z) : sh_Lk 40 0 [(0, .ref 3), (1, .int x1), (2, .int x2)] [] m o m2 30 600 := by
  unfold sf_40 at e
  refine sh_Lk_lift (T := m.T) (I := m.I) (J := m.J) (s := m.s) (pc2 := 9) (lv2 := [(0, .ref 3), (1, .int x1), (2, .int x2)]) (st2 := [.int (x1 + 1), .ref 3, .int (x2 * 256)]) (I2 := m.I) (J2 := m.J) (fun hT v kk => ?_) ?_
  · refine sh_w (i := (.iload_n 2)) (len := 1) (pc2 := 1) (lv2 := [(0, .ref 3), (1, .int x1), (2, .int x2)]) (st2 := [.int x2]) (h2 := (sh_rep m.T m.I m.J)) rfl rfl rfl ?_
    refine sh_w (i := (.sipush 256)) (len := 3) (pc2 := 4) (lv2 := [(0, .ref 3), (1, .int x1), (2, .int x2)]) (st2 := [.int 256, .int x2]) (h2 := (sh_rep m.T m.I m.J)) rfl rfl rfl ?_
    refine sh_w (i := .imul) (len := 1) (pc2 := 5) (lv2 := [(0, .ref 3), (1, .int x1), (2, .int x2)]) (st2 := [.int (x2 * 256)]) (h2 := (sh_rep m.T m.I m.J)) rfl rfl rfl ?_
    refine sh_w (i := (.aload_n 0)) (len := 1) (pc2 := 6) (lv2 := [(0, .ref 3), (1, .int x1), (2, .int x2)]) (st2 := [.ref 3, .int (x2 * 256)]) (h2 := (sh_rep m.T m.I m.J)) rfl rfl rfl ?_
    refine sh_w (i := (.iload_n 1)) (len := 1) (pc2 := 7) (lv2 := [(0, .ref 3), (1, .int x1), (2, .int x2)]) (st2 := [.int x1, .ref 3, .int (x2 * 256)]) (h2 := (sh_rep m.T m.I m.J)) rfl rfl rfl ?_
    refine sh_w (i := (.iconst 1)) (len := 1) (pc2 := 8) (lv2 := [(0, .ref 3), (1, .int x1), (2, .int x2)]) (st2 := [.int 1, .int x1, .ref 3, .int (x2 * 256)]) (h2 := (sh_rep m.T m.I m.J)) rfl rfl rfl ?_
    refine sh_w (i := .iadd) (len := 1) (pc2 := 9) (lv2 := [(0, .ref 3), (1, .int x1), (2, .int x2)]) (st2 := [.int (x1 + 1), .ref 3, .int (x2 * 256)]) (h2 := (sh_rep m.T m.I m.J)) rfl rfl rfl ?_
    exact kk
  obtain ⟨r1, e1, e⟩ := sh_bc_e e
  refine sh_Lk_cV (r := (some (.int r1))) (st2 := [.int r1, .int (x2 * 256)]) (pc2 := 12) (k2 := 26) (a := 2) (as := [.ref 3, .int (x1 + 1)]) (rest := [.int (x2 * 256)]) rfl rfl rfl (fun hT => hT.t2) rfl rfl ⟨Nat.le_of_ble_eq_true rfl, Nat.le_of_ble_eq_true rfl⟩ (sl_26 e1 ⟨rfl, rfl⟩) rfl rfl (Nat.le_of_ble_eq_true rfl) (Nat.le_of_ble_eq_true rfl) ?_
  refine sh_Lk_lift (T := m.T) (I := m.I) (J := m.J) (s := m.s) (pc2 := 15) (lv2 := [(3, .int ((x2 * 256) + r1)), (0, .ref 3), (1, .int x1), (2, .int x2)]) (st2 := [.int ((x2 * 256) + r1)]) (I2 := m.I) (J2 := m.J) (fun hT v kk => ?_) ?_
  · refine sh_w (i := .iadd) (len := 1) (pc2 := 13) (lv2 := [(0, .ref 3), (1, .int x1), (2, .int x2)]) (st2 := [.int ((x2 * 256) + r1)]) (h2 := (sh_rep m.T m.I m.J)) rfl rfl rfl ?_
    refine sh_w (i := (.istore_n 3)) (len := 1) (pc2 := 14) (lv2 := [(3, .int ((x2 * 256) + r1)), (0, .ref 3), (1, .int x1), (2, .int x2)]) (st2 := []) (h2 := (sh_rep m.T m.I m.J)) rfl rfl rfl ?_
    refine sh_w (i := (.iload_n 3)) (len := 1) (pc2 := 15) (lv2 := [(3, .int ((x2 * 256) + r1)), (0, .ref 3), (1, .int x1), (2, .int x2)]) (st2 := [.int ((x2 * 256) + r1)]) (h2 := (sh_rep m.T m.I m.J)) rfl rfl rfl ?_
    exact kk
  refine sh_Lk_cS (r := (some (.int (sh_b2 (sf_41 ((x2 * 256) + r1)))))) (st2 := [.int (sh_b2 (sf_41 ((x2 * 256) + r1)))]) (pc2 := 18) (k2 := 41) (as := [.int ((x2 * 256) + r1)]) (rest := []) rfl rfl (by decide) (Nat.le_of_ble_eq_true rfl) rfl rfl ⟨Nat.le_of_ble_eq_true rfl, Nat.le_of_ble_eq_true rfl⟩ (sl_41 (m := m) rfl ⟨rfl, rfl⟩) rfl rfl (Nat.le_of_ble_eq_true rfl) (Nat.le_of_ble_eq_true rfl) ?_
  rcases sh_ite e with ⟨c, e⟩ | ⟨c, e⟩
  · refine sh_Lk_lift (T := m.T) (I := m.I) (J := m.J) (s := m.s) (pc2 := 25) (lv2 := [(3, .int ((x2 * 256) + r1)), (0, .ref 3), (1, .int x1), (2, .int x2)]) (st2 := [.long 0, .int x1, .int ((x2 * 256) + r1), .ref 3]) (I2 := m.I) (J2 := m.J) (fun hT v kk => ?_) ?_
    · refine sh_j0 (c := .eq) (off := (14)) (pc2 := 21) false rfl (sh_Zeqf c) rfl ?_
      refine sh_w (i := (.aload_n 0)) (len := 1) (pc2 := 22) (lv2 := [(3, .int ((x2 * 256) + r1)), (0, .ref 3), (1, .int x1), (2, .int x2)]) (st2 := [.ref 3]) (h2 := (sh_rep m.T m.I m.J)) rfl rfl rfl ?_
      refine sh_w (i := (.iload_n 3)) (len := 1) (pc2 := 23) (lv2 := [(3, .int ((x2 * 256) + r1)), (0, .ref 3), (1, .int x1), (2, .int x2)]) (st2 := [.int ((x2 * 256) + r1), .ref 3]) (h2 := (sh_rep m.T m.I m.J)) rfl rfl rfl ?_
      refine sh_w (i := (.iload_n 1)) (len := 1) (pc2 := 24) (lv2 := [(3, .int ((x2 * 256) + r1)), (0, .ref 3), (1, .int x1), (2, .int x2)]) (st2 := [.int x1, .int ((x2 * 256) + r1), .ref 3]) (h2 := (sh_rep m.T m.I m.J)) rfl rfl rfl ?_
      refine sh_w (i := (.lconst 0)) (len := 1) (pc2 := 25) (lv2 := [(3, .int ((x2 * 256) + r1)), (0, .ref 3), (1, .int x1), (2, .int x2)]) (st2 := [.long 0, .int x1, .int ((x2 * 256) + r1), .ref 3]) (h2 := (sh_rep m.T m.I m.J)) rfl rfl rfl ?_
      exact kk
    obtain ⟨r3, m13, e3, e⟩ := sh_bn_e e
    refine sh_Lk_cV (r := none) (st2 := []) (pc2 := 28) (k2 := 38) (a := 2) (as := [.ref 3, .int ((x2 * 256) + r1), .int x1, .long 0]) (rest := []) rfl rfl rfl (fun hT => hT.t2) rfl rfl ⟨Nat.le_of_ble_eq_true rfl, Nat.le_of_ble_eq_true rfl⟩ (sl_38 e3 ⟨rfl, rfl⟩) rfl rfl (Nat.le_of_ble_eq_true rfl) (Nat.le_of_ble_eq_true rfl) ?_
    refine sh_Lk_lift (T := m13.T) (I := m13.I) (J := m13.J) (s := m13.s) (pc2 := 31) (lv2 := [(3, .int ((x2 * 256) + r1)), (0, .ref 3), (1, .int x1), (2, .int x2)]) (st2 := [.int (x1 + 2)]) (I2 := m13.I) (J2 := m13.J) (fun hT v kk => ?_) ?_
    · refine sh_w (i := (.iload_n 1)) (len := 1) (pc2 := 29) (lv2 := [(3, .int ((x2 * 256) + r1)), (0, .ref 3), (1, .int x1), (2, .int x2)]) (st2 := [.int x1]) (h2 := (sh_rep m13.T m13.I m13.J)) rfl rfl rfl ?_
      refine sh_w (i := (.iconst 2)) (len := 1) (pc2 := 30) (lv2 := [(3, .int ((x2 * 256) + r1)), (0, .ref 3), (1, .int x1), (2, .int x2)]) (st2 := [.int 2, .int x1]) (h2 := (sh_rep m13.T m13.I m13.J)) rfl rfl rfl ?_
      refine sh_w (i := .iadd) (len := 1) (pc2 := 31) (lv2 := [(3, .int ((x2 * 256) + r1)), (0, .ref 3), (1, .int x1), (2, .int x2)]) (st2 := [.int (x1 + 2)]) (h2 := (sh_rep m13.T m13.I m13.J)) rfl rfl rfl ?_
      exact kk
    obtain rfl := Option.some.inj e
    obtain ⟨rfl, rfl⟩ := tg
    exact sh_Lk_ret (i := .ireturn) rfl rfl rfl (Nat.le_of_ble_eq_true rfl) (Nat.le_of_ble_eq_true rfl)
  · refine sh_Lk_lift (T := m.T) (I := m.I) (J := m.J) (s := m.s) (pc2 := 36) (lv2 := [(3, .int ((x2 * 256) + r1)), (0, .ref 3), (1, .int x1), (2, .int x2)]) (st2 := [.int ((Int32.toUInt32 x2 % 65536).toInt32), .ref 1000002]) (I2 := m.I) (J2 := m.J) (fun hT v kk => ?_) ?_
    · refine sh_j0 (c := .eq) (off := (14)) (pc2 := 32) true rfl (sh_Zeqt c) rfl ?_
      refine sh_w (i := (.ldc 114)) (len := 2) (pc2 := 34) (lv2 := [(3, .int ((x2 * 256) + r1)), (0, .ref 3), (1, .int x1), (2, .int x2)]) (st2 := [.ref 1000002]) (h2 := (sh_rep m.T m.I m.J)) rfl rfl rfl ?_
      refine sh_w (i := (.iload_n 2)) (len := 1) (pc2 := 35) (lv2 := [(3, .int ((x2 * 256) + r1)), (0, .ref 3), (1, .int x1), (2, .int x2)]) (st2 := [.int x2, .ref 1000002]) (h2 := (sh_rep m.T m.I m.J)) rfl rfl rfl ?_
      refine sh_w (i := .i2c) (len := 1) (pc2 := 36) (lv2 := [(3, .int ((x2 * 256) + r1)), (0, .ref 3), (1, .int x1), (2, .int x2)]) (st2 := [.int ((Int32.toUInt32 x2 % 65536).toInt32), .ref 1000002]) (h2 := (sh_rep m.T m.I m.J)) rfl rfl rfl ?_
      exact kk
    refine sh_Lk_ti (j := 1) (pc2 := 39) rfl rfl rfl (by decide) (Nat.le_of_ble_eq_true rfl) rfl (Nat.le_of_ble_eq_true rfl) (Nat.le_of_ble_eq_true rfl) ?_
    rcases sh_ite e with ⟨c, e⟩ | ⟨c, e⟩
    · refine sh_Lk_lift (T := m.T) (I := m.I) (J := m.J) (s := m.s) (pc2 := 45) (lv2 := [(3, .int ((x2 * 256) + r1)), (0, .ref 3), (1, .int x1), (2, .int x2)]) (st2 := [.int x1, .int 1, .ref 3]) (I2 := m.I) (J2 := m.J) (fun hT v kk => ?_) ?_
      · refine sh_j0 (c := .ge) (off := (9)) (pc2 := 42) false rfl (sh_Bgef c) rfl ?_
        refine sh_w (i := (.aload_n 0)) (len := 1) (pc2 := 43) (lv2 := [(3, .int ((x2 * 256) + r1)), (0, .ref 3), (1, .int x1), (2, .int x2)]) (st2 := [.ref 3]) (h2 := (sh_rep m.T m.I m.J)) rfl rfl rfl ?_
        refine sh_w (i := (.iconst 1)) (len := 1) (pc2 := 44) (lv2 := [(3, .int ((x2 * 256) + r1)), (0, .ref 3), (1, .int x1), (2, .int x2)]) (st2 := [.int 1, .ref 3]) (h2 := (sh_rep m.T m.I m.J)) rfl rfl rfl ?_
        refine sh_w (i := (.iload_n 1)) (len := 1) (pc2 := 45) (lv2 := [(3, .int ((x2 * 256) + r1)), (0, .ref 3), (1, .int x1), (2, .int x2)]) (st2 := [.int x1, .int 1, .ref 3]) (h2 := (sh_rep m.T m.I m.J)) rfl rfl rfl ?_
        exact kk
      rcases sh_bt_e e with ⟨m14, e4, rfl⟩ | ⟨r4, m14, e4, e⟩
      · obtain ⟨rfl, rfl⟩ := tg
        exact sh_Lk_tV (k2 := 32) (a := 2) (as := [.ref 3, .int 1, .int x1]) (rest := []) rfl rfl rfl (fun hT => hT.t2) rfl rfl ⟨Nat.le_of_ble_eq_true rfl, Nat.le_of_ble_eq_true rfl⟩ (sl_32 e4 ⟨rfl, rfl⟩) rfl (Nat.le_of_ble_eq_true rfl) (Nat.le_of_ble_eq_true rfl) (Nat.le_of_ble_eq_true rfl) (Nat.le_of_ble_eq_true rfl) rfl
      refine sh_Lk_cV (r := none) (st2 := []) (pc2 := 48) (k2 := 32) (a := 2) (as := [.ref 3, .int 1, .int x1]) (rest := []) rfl rfl rfl (fun hT => hT.t2) rfl rfl ⟨Nat.le_of_ble_eq_true rfl, Nat.le_of_ble_eq_true rfl⟩ (sl_32 e4 ⟨rfl, rfl⟩) rfl rfl (Nat.le_of_ble_eq_true rfl) (Nat.le_of_ble_eq_true rfl) ?_
      exact sh_Lk_sub (sh_sub_c rfl (sh_sub_c rfl (sh_sub_c rfl (sh_sub_n)))) (sl_40_48 e tg)
    · refine sh_Lk_lift (T := m.T) (I := m.I) (J := m.J) (s := m.s) (pc2 := 48) (lv2 := [(3, .int ((x2 * 256) + r1)), (0, .ref 3), (1, .int x1), (2, .int x2)]) (st2 := []) (I2 := m.I) (J2 := m.J) (fun hT v kk => ?_) ?_
      · refine sh_j0 (c := .ge) (off := (9)) (pc2 := 48) true rfl (sh_Bget c) rfl ?_
        exact kk
      exact sh_Lk_sub (sh_sub_c rfl (sh_sub_c rfl (sh_sub_c rfl (sh_sub_n)))) (sl_40_48 e tg)
theorem sl_25_30 {x1 : Int32} {m m2 : sh_X} {o : Outcome} {z : (Option Int32 × sh_X)} (e : sf_25_30 x1 m = some z) (tg : (sh_tIt o m2) z) : sh_Lk 25 30 [(1, .int x1)] [] m o m2 33 673 := by
  unfold sf_25_30 at e
  refine sh_Lk_lift (T := m.T) (I := m.I) (J := m.J) (s := m.s) (pc2 := 33) (lv2 := [(1, .int x1)]) (st2 := [.int (x1 + 1)]) (I2 := m.I) (J2 := m.J) (fun hT v kk => ?_) ?_
  · refine sh_w (i := (.iload_n 1)) (len := 1) (pc2 := 31) (lv2 := [(1, .int x1)]) (st2 := [.int x1]) (h2 := (sh_rep m.T m.I m.J)) rfl rfl rfl ?_
    refine sh_w (i := (.iconst 1)) (len := 1) (pc2 := 32) (lv2 := [(1, .int x1)]) (st2 := [.int 1, .int x1]) (h2 := (sh_rep m.T m.I m.J)) rfl rfl rfl ?_
    refine sh_w (i := .iadd) (len := 1) (pc2 := 33) (lv2 := [(1, .int x1)]) (st2 := [.int (x1 + 1)]) (h2 := (sh_rep m.T m.I m.J)) rfl rfl rfl ?_
    exact kk
  obtain rfl := Option.some.inj e
  obtain ⟨rfl, rfl⟩ := tg
  exact sh_Lk_ret (i := .ireturn) rfl rfl rfl (Nat.le_of_ble_eq_true rfl) (Nat.le_of_ble_eq_true rfl)
theorem sl_25 {x1 : Int32} {m m2 : sh_X} {o : Outcome} {z : (Option Int32 × sh_X)} (e : sf_25 x1 m = some z) (tg : (sh_tIt o m2) z) : sh_Lk 25 0 [(0, .ref 3), (1, .int x1)] [] m o m2 33 673 := by
  unfold sf_25 at e
  refine sh_Lk_lift (T := m.T) (I := m.I) (J := m.J) (s := m.s) (pc2 := 2) (lv2 := [(0, .ref 3), (1, .int x1)]) (st2 := [.int x1, .ref 3]) (I2 := m.I) (J2 := m.J) (fun hT v kk => ?_) ?_
  · refine sh_w (i := (.aload_n 0)) (len := 1) (pc2 := 1) (lv2 := [(0, .ref 3), (1, .int x1)]) (st2 := [.ref 3]) (h2 := (sh_rep m.T m.I m.J)) rfl rfl rfl ?_
    refine sh_w (i := (.iload_n 1)) (len := 1) (pc2 := 2) (lv2 := [(0, .ref 3), (1, .int x1)]) (st2 := [.int x1, .ref 3]) (h2 := (sh_rep m.T m.I m.J)) rfl rfl rfl ?_
    exact kk
  obtain ⟨r1, e1, e⟩ := sh_bc_e e
  refine sh_Lk_cV (r := (some (.int r1))) (st2 := [.int r1]) (pc2 := 5) (k2 := 26) (a := 2) (as := [.ref 3, .int x1]) (rest := []) rfl rfl rfl (fun hT => hT.t2) rfl rfl ⟨Nat.le_of_ble_eq_true rfl, Nat.le_of_ble_eq_true rfl⟩ (sl_26 e1 ⟨rfl, rfl⟩) rfl rfl (Nat.le_of_ble_eq_true rfl) (Nat.le_of_ble_eq_true rfl) ?_
  refine sh_Lk_lift (T := m.T) (I := m.I) (J := m.J) (s := m.s) (pc2 := 9) (lv2 := [(2, .int r1), (0, .ref 3), (1, .int x1)]) (st2 := [.int 32, .int r1]) (I2 := m.I) (J2 := m.J) (fun hT v kk => ?_) ?_
  · refine sh_w (i := (.istore_n 2)) (len := 1) (pc2 := 6) (lv2 := [(2, .int r1), (0, .ref 3), (1, .int x1)]) (st2 := []) (h2 := (sh_rep m.T m.I m.J)) rfl rfl rfl ?_
    refine sh_w (i := (.iload_n 2)) (len := 1) (pc2 := 7) (lv2 := [(2, .int r1), (0, .ref 3), (1, .int x1)]) (st2 := [.int r1]) (h2 := (sh_rep m.T m.I m.J)) rfl rfl rfl ?_
    refine sh_w (i := (.bipush 32)) (len := 2) (pc2 := 9) (lv2 := [(2, .int r1), (0, .ref 3), (1, .int x1)]) (st2 := [.int 32, .int r1]) (h2 := (sh_rep m.T m.I m.J)) rfl rfl rfl ?_
    exact kk
  rcases sh_ite e with ⟨c, e⟩ | ⟨c, e⟩
  · refine sh_Lk_lift (T := m.T) (I := m.I) (J := m.J) (s := m.s) (pc2 := 30) (lv2 := [(2, .int r1), (0, .ref 3), (1, .int x1)]) (st2 := []) (I2 := m.I) (J2 := m.J) (fun hT v kk => ?_) ?_
    · refine sh_jc (c := .eq) (off := (21)) (pc2 := 30) true rfl (sh_Beqt c) rfl ?_
      exact kk
    exact sh_Lk_sub (sh_sub_c rfl (sh_sub_n)) (sl_25_30 e tg)
  · refine sh_Lk_lift (T := m.T) (I := m.I) (J := m.J) (s := m.s) (pc2 := 15) (lv2 := [(2, .int r1), (0, .ref 3), (1, .int x1)]) (st2 := [.int 9, .int r1]) (I2 := m.I) (J2 := m.J) (fun hT v kk => ?_) ?_
    · refine sh_jc (c := .eq) (off := (21)) (pc2 := 12) false rfl (sh_Beqf c) rfl ?_
      refine sh_w (i := (.iload_n 2)) (len := 1) (pc2 := 13) (lv2 := [(2, .int r1), (0, .ref 3), (1, .int x1)]) (st2 := [.int r1]) (h2 := (sh_rep m.T m.I m.J)) rfl rfl rfl ?_
      refine sh_w (i := (.bipush 9)) (len := 2) (pc2 := 15) (lv2 := [(2, .int r1), (0, .ref 3), (1, .int x1)]) (st2 := [.int 9, .int r1]) (h2 := (sh_rep m.T m.I m.J)) rfl rfl rfl ?_
      exact kk
    rcases sh_ite e with ⟨c, e⟩ | ⟨c, e⟩
    · refine sh_Lk_lift (T := m.T) (I := m.I) (J := m.J) (s := m.s) (pc2 := 30) (lv2 := [(2, .int r1), (0, .ref 3), (1, .int x1)]) (st2 := []) (I2 := m.I) (J2 := m.J) (fun hT v kk => ?_) ?_
      · refine sh_jc (c := .eq) (off := (15)) (pc2 := 30) true rfl (sh_Beqt c) rfl ?_
        exact kk
      exact sh_Lk_sub (sh_sub_c rfl (sh_sub_n)) (sl_25_30 e tg)
    · refine sh_Lk_lift (T := m.T) (I := m.I) (J := m.J) (s := m.s) (pc2 := 21) (lv2 := [(2, .int r1), (0, .ref 3), (1, .int x1)]) (st2 := [.int 10, .int r1]) (I2 := m.I) (J2 := m.J) (fun hT v kk => ?_) ?_
      · refine sh_jc (c := .eq) (off := (15)) (pc2 := 18) false rfl (sh_Beqf c) rfl ?_
        refine sh_w (i := (.iload_n 2)) (len := 1) (pc2 := 19) (lv2 := [(2, .int r1), (0, .ref 3), (1, .int x1)]) (st2 := [.int r1]) (h2 := (sh_rep m.T m.I m.J)) rfl rfl rfl ?_
        refine sh_w (i := (.bipush 10)) (len := 2) (pc2 := 21) (lv2 := [(2, .int r1), (0, .ref 3), (1, .int x1)]) (st2 := [.int 10, .int r1]) (h2 := (sh_rep m.T m.I m.J)) rfl rfl rfl ?_
        exact kk
      rcases sh_ite e with ⟨c, e⟩ | ⟨c, e⟩
      · refine sh_Lk_lift (T := m.T) (I := m.I) (J := m.J) (s := m.s) (pc2 := 30) (lv2 := [(2, .int r1), (0, .ref 3), (1, .int x1)]) (st2 := []) (I2 := m.I) (J2 := m.J) (fun hT v kk => ?_) ?_
        · refine sh_jc (c := .eq) (off := (9)) (pc2 := 30) true rfl (sh_Beqt c) rfl ?_
          exact kk
        exact sh_Lk_sub (sh_sub_c rfl (sh_sub_n)) (sl_25_30 e tg)
      · refine sh_Lk_lift (T := m.T) (I := m.I) (J := m.J) (s := m.s) (pc2 := 27) (lv2 := [(2, .int r1), (0, .ref 3), (1, .int x1)]) (st2 := [.int 13, .int r1]) (I2 := m.I) (J2 := m.J) (fun hT v kk => ?_) ?_
        · refine sh_jc (c := .eq) (off := (9)) (pc2 := 24) false rfl (sh_Beqf c) rfl ?_
          refine sh_w (i := (.iload_n 2)) (len := 1) (pc2 := 25) (lv2 := [(2, .int r1), (0, .ref 3), (1, .int x1)]) (st2 := [.int r1]) (h2 := (sh_rep m.T m.I m.J)) rfl rfl rfl ?_
          refine sh_w (i := (.bipush 13)) (len := 2) (pc2 := 27) (lv2 := [(2, .int r1), (0, .ref 3), (1, .int x1)]) (st2 := [.int 13, .int r1]) (h2 := (sh_rep m.T m.I m.J)) rfl rfl rfl ?_
          exact kk
        rcases sh_ite e with ⟨c, e⟩ | ⟨c, e⟩
        · refine sh_Lk_lift (T := m.T) (I := m.I) (J := m.J) (s := m.s) (pc2 := 30) (lv2 := [(2, .int r1), (0, .ref 3), (1, .int x1)]) (st2 := []) (I2 := m.I) (J2 := m.J) (fun hT v kk => ?_) ?_
          · refine sh_jc (c := .ne) (off := (7)) (pc2 := 30) false rfl (sh_Bnef c) rfl ?_
            exact kk
          exact sh_Lk_sub (sh_sub_c rfl (sh_sub_n)) (sl_25_30 e tg)
        · refine sh_Lk_lift (T := m.T) (I := m.I) (J := m.J) (s := m.s) (pc2 := 37) (lv2 := [(2, .int r1), (0, .ref 3), (1, .int x1)]) (st2 := [.int 35, .int r1]) (I2 := m.I) (J2 := m.J) (fun hT v kk => ?_) ?_
          · refine sh_jc (c := .ne) (off := (7)) (pc2 := 34) true rfl (sh_Bnet c) rfl ?_
            refine sh_w (i := (.iload_n 2)) (len := 1) (pc2 := 35) (lv2 := [(2, .int r1), (0, .ref 3), (1, .int x1)]) (st2 := [.int r1]) (h2 := (sh_rep m.T m.I m.J)) rfl rfl rfl ?_
            refine sh_w (i := (.bipush 35)) (len := 2) (pc2 := 37) (lv2 := [(2, .int r1), (0, .ref 3), (1, .int x1)]) (st2 := [.int 35, .int r1]) (h2 := (sh_rep m.T m.I m.J)) rfl rfl rfl ?_
            exact kk
          rcases sh_ite e with ⟨c, e⟩ | ⟨c, e⟩
          · refine sh_Lk_lift (T := m.T) (I := m.I) (J := m.J) (s := m.s) (pc2 := 42) (lv2 := [(2, .int r1), (0, .ref 3), (1, .int x1)]) (st2 := [.int x1, .ref 3]) (I2 := m.I) (J2 := m.J) (fun hT v kk => ?_) ?_
            · refine sh_jc (c := .ne) (off := (9)) (pc2 := 40) false rfl (sh_Bnef c) rfl ?_
              refine sh_w (i := (.aload_n 0)) (len := 1) (pc2 := 41) (lv2 := [(2, .int r1), (0, .ref 3), (1, .int x1)]) (st2 := [.ref 3]) (h2 := (sh_rep m.T m.I m.J)) rfl rfl rfl ?_
              refine sh_w (i := (.iload_n 1)) (len := 1) (pc2 := 42) (lv2 := [(2, .int r1), (0, .ref 3), (1, .int x1)]) (st2 := [.int x1, .ref 3]) (h2 := (sh_rep m.T m.I m.J)) rfl rfl rfl ?_
              exact kk
            obtain ⟨r2, e2, e⟩ := sh_bc_e e
            refine sh_Lk_cV (r := (some (.int r2))) (st2 := [.int r2]) (pc2 := 45) (k2 := 27) (a := 2) (as := [.ref 3, .int x1]) (rest := []) rfl rfl rfl (fun hT => hT.t2) rfl rfl ⟨Nat.le_of_ble_eq_true rfl, Nat.le_of_ble_eq_true rfl⟩ (sl_27 e2 ⟨rfl, rfl⟩) rfl rfl (Nat.le_of_ble_eq_true rfl) (Nat.le_of_ble_eq_true rfl) ?_
            obtain rfl := Option.some.inj e
            obtain ⟨rfl, rfl⟩ := tg
            exact sh_Lk_ret (i := .ireturn) rfl rfl rfl (Nat.le_of_ble_eq_true rfl) (Nat.le_of_ble_eq_true rfl)
          · refine sh_Lk_lift (T := m.T) (I := m.I) (J := m.J) (s := m.s) (pc2 := 47) (lv2 := [(2, .int r1), (0, .ref 3), (1, .int x1)]) (st2 := [.int r1]) (I2 := m.I) (J2 := m.J) (fun hT v kk => ?_) ?_
            · refine sh_jc (c := .ne) (off := (9)) (pc2 := 46) true rfl (sh_Bnet c) rfl ?_
              refine sh_w (i := (.iload_n 2)) (len := 1) (pc2 := 47) (lv2 := [(2, .int r1), (0, .ref 3), (1, .int x1)]) (st2 := [.int r1]) (h2 := (sh_rep m.T m.I m.J)) rfl rfl rfl ?_
              exact kk
            refine sh_Lk_cS (r := (some (.int (sh_b2 (sf_28 r1))))) (st2 := [.int (sh_b2 (sf_28 r1))]) (pc2 := 50) (k2 := 28) (as := [.int r1]) (rest := []) rfl rfl (by decide) (Nat.le_of_ble_eq_true rfl) rfl rfl ⟨Nat.le_of_ble_eq_true rfl, Nat.le_of_ble_eq_true rfl⟩ (sl_28 (m := m) rfl ⟨rfl, rfl⟩) rfl rfl (Nat.le_of_ble_eq_true rfl) (Nat.le_of_ble_eq_true rfl) ?_
            rcases sh_ite e with ⟨c, e⟩ | ⟨c, e⟩
            · refine sh_Lk_lift (T := m.T) (I := m.I) (J := m.J) (s := m.s) (pc2 := 55) (lv2 := [(2, .int r1), (0, .ref 3), (1, .int x1)]) (st2 := [.int x1, .ref 3]) (I2 := m.I) (J2 := m.J) (fun hT v kk => ?_) ?_
              · refine sh_j0 (c := .eq) (off := (9)) (pc2 := 53) false rfl (sh_Zeqf c) rfl ?_
                refine sh_w (i := (.aload_n 0)) (len := 1) (pc2 := 54) (lv2 := [(2, .int r1), (0, .ref 3), (1, .int x1)]) (st2 := [.ref 3]) (h2 := (sh_rep m.T m.I m.J)) rfl rfl rfl ?_
                refine sh_w (i := (.iload_n 1)) (len := 1) (pc2 := 55) (lv2 := [(2, .int r1), (0, .ref 3), (1, .int x1)]) (st2 := [.int x1, .ref 3]) (h2 := (sh_rep m.T m.I m.J)) rfl rfl rfl ?_
                exact kk
              rcases sh_bt_e e with ⟨m14, e4, rfl⟩ | ⟨r4, m14, e4, e⟩
              · obtain ⟨rfl, rfl⟩ := tg
                exact sh_Lk_tV (k2 := 29) (a := 2) (as := [.ref 3, .int x1]) (rest := []) rfl rfl rfl (fun hT => hT.t2) rfl rfl ⟨Nat.le_of_ble_eq_true rfl, Nat.le_of_ble_eq_true rfl⟩ (sl_29 e4 ⟨rfl, rfl⟩) rfl (Nat.le_of_ble_eq_true rfl) (Nat.le_of_ble_eq_true rfl) (Nat.le_of_ble_eq_true rfl) (Nat.le_of_ble_eq_true rfl) rfl
              refine sh_Lk_cV (r := (some (.int r4))) (st2 := [.int r4]) (pc2 := 58) (k2 := 29) (a := 2) (as := [.ref 3, .int x1]) (rest := []) rfl rfl rfl (fun hT => hT.t2) rfl rfl ⟨Nat.le_of_ble_eq_true rfl, Nat.le_of_ble_eq_true rfl⟩ (sl_29 e4 ⟨rfl, rfl⟩) rfl rfl (Nat.le_of_ble_eq_true rfl) (Nat.le_of_ble_eq_true rfl) ?_
              obtain rfl := Option.some.inj e
              obtain ⟨rfl, rfl⟩ := tg
              exact sh_Lk_ret (i := .ireturn) rfl rfl rfl (Nat.le_of_ble_eq_true rfl) (Nat.le_of_ble_eq_true rfl)
            · refine sh_Lk_lift (T := m.T) (I := m.I) (J := m.J) (s := m.s) (pc2 := 60) (lv2 := [(2, .int r1), (0, .ref 3), (1, .int x1)]) (st2 := [.int r1]) (I2 := m.I) (J2 := m.J) (fun hT v kk => ?_) ?_
              · refine sh_j0 (c := .eq) (off := (9)) (pc2 := 59) true rfl (sh_Zeqt c) rfl ?_
                refine sh_w (i := (.iload_n 2)) (len := 1) (pc2 := 60) (lv2 := [(2, .int r1), (0, .ref 3), (1, .int x1)]) (st2 := [.int r1]) (h2 := (sh_rep m.T m.I m.J)) rfl rfl rfl ?_
                exact kk
              refine sh_Lk_cS (r := (some (.int (sh_b2 (sf_31 r1))))) (st2 := [.int (sh_b2 (sf_31 r1))]) (pc2 := 63) (k2 := 31) (as := [.int r1]) (rest := []) rfl rfl (by decide) (Nat.le_of_ble_eq_true rfl) rfl rfl ⟨Nat.le_of_ble_eq_true rfl, Nat.le_of_ble_eq_true rfl⟩ (sl_31 (m := m) rfl ⟨rfl, rfl⟩) rfl rfl (Nat.le_of_ble_eq_true rfl) (Nat.le_of_ble_eq_true rfl) ?_
              rcases sh_ite e with ⟨c, e⟩ | ⟨c, e⟩
              · refine sh_Lk_lift (T := m.T) (I := m.I) (J := m.J) (s := m.s) (pc2 := 68) (lv2 := [(2, .int r1), (0, .ref 3), (1, .int x1)]) (st2 := [.int x1, .ref 3]) (I2 := m.I) (J2 := m.J) (fun hT v kk => ?_) ?_
                · refine sh_j0 (c := .eq) (off := (11)) (pc2 := 66) false rfl (sh_Zeqf c) rfl ?_
                  refine sh_w (i := (.aload_n 0)) (len := 1) (pc2 := 67) (lv2 := [(2, .int r1), (0, .ref 3), (1, .int x1)]) (st2 := [.ref 3]) (h2 := (sh_rep m.T m.I m.J)) rfl rfl rfl ?_
                  refine sh_w (i := (.iload_n 1)) (len := 1) (pc2 := 68) (lv2 := [(2, .int r1), (0, .ref 3), (1, .int x1)]) (st2 := [.int x1, .ref 3]) (h2 := (sh_rep m.T m.I m.J)) rfl rfl rfl ?_
                  exact kk
                rcases sh_bt_e e with ⟨m16, e6, rfl⟩ | ⟨r6, m16, e6, e⟩
                · obtain ⟨rfl, rfl⟩ := tg
                  exact sh_Lk_tV (k2 := 39) (a := 2) (as := [.ref 3, .int x1]) (rest := []) rfl rfl rfl (fun hT => hT.t2) rfl rfl ⟨Nat.le_of_ble_eq_true rfl, Nat.le_of_ble_eq_true rfl⟩ (sl_39 e6 ⟨rfl, rfl⟩) rfl (Nat.le_of_ble_eq_true rfl) (Nat.le_of_ble_eq_true rfl) (Nat.le_of_ble_eq_true rfl) (Nat.le_of_ble_eq_true rfl) rfl
                refine sh_Lk_cV (r := (some (.int r6))) (st2 := [.int r6]) (pc2 := 71) (k2 := 39) (a := 2) (as := [.ref 3, .int x1]) (rest := []) rfl rfl rfl (fun hT => hT.t2) rfl rfl ⟨Nat.le_of_ble_eq_true rfl, Nat.le_of_ble_eq_true rfl⟩ (sl_39 e6 ⟨rfl, rfl⟩) rfl rfl (Nat.le_of_ble_eq_true rfl) (Nat.le_of_ble_eq_true rfl) ?_
                refine sh_Lk_lift (T := m16.T) (I := m16.I) (J := m16.J) (s := m16.s) (pc2 := 80) (lv2 := [(2, .int r1), (0, .ref 3), (1, .int x1)]) (st2 := [.int r6]) (I2 := m16.I) (J2 := m16.J) (fun hT v kk => ?_) ?_
                · refine sh_w (i := (.goto 9)) (len := 3) (pc2 := 80) (lv2 := [(2, .int r1), (0, .ref 3), (1, .int x1)]) (st2 := [.int r6]) (h2 := (sh_rep m16.T m16.I m16.J)) rfl rfl rfl ?_
                  exact kk
                obtain rfl := Option.some.inj e
                obtain ⟨rfl, rfl⟩ := tg
                exact sh_Lk_ret (i := .ireturn) rfl rfl rfl (Nat.le_of_ble_eq_true rfl) (Nat.le_of_ble_eq_true rfl)
              · refine sh_Lk_lift (T := m.T) (I := m.I) (J := m.J) (s := m.s) (pc2 := 77) (lv2 := [(2, .int r1), (0, .ref 3), (1, .int x1)]) (st2 := [.int r1, .int x1, .ref 3]) (I2 := m.I) (J2 := m.J) (fun hT v kk => ?_) ?_
                · refine sh_j0 (c := .eq) (off := (11)) (pc2 := 74) true rfl (sh_Zeqt c) rfl ?_
                  refine sh_w (i := (.aload_n 0)) (len := 1) (pc2 := 75) (lv2 := [(2, .int r1), (0, .ref 3), (1, .int x1)]) (st2 := [.ref 3]) (h2 := (sh_rep m.T m.I m.J)) rfl rfl rfl ?_
                  refine sh_w (i := (.iload_n 1)) (len := 1) (pc2 := 76) (lv2 := [(2, .int r1), (0, .ref 3), (1, .int x1)]) (st2 := [.int x1, .ref 3]) (h2 := (sh_rep m.T m.I m.J)) rfl rfl rfl ?_
                  refine sh_w (i := (.iload_n 2)) (len := 1) (pc2 := 77) (lv2 := [(2, .int r1), (0, .ref 3), (1, .int x1)]) (st2 := [.int r1, .int x1, .ref 3]) (h2 := (sh_rep m.T m.I m.J)) rfl rfl rfl ?_
                  exact kk
                rcases sh_bt_e e with ⟨m17, e7, rfl⟩ | ⟨r7, m17, e7, e⟩
                · obtain ⟨rfl, rfl⟩ := tg
                  exact sh_Lk_tV (k2 := 40) (a := 2) (as := [.ref 3, .int x1, .int r1]) (rest := []) rfl rfl rfl (fun hT => hT.t2) rfl rfl ⟨Nat.le_of_ble_eq_true rfl, Nat.le_of_ble_eq_true rfl⟩ (sl_40 e7 ⟨rfl, rfl⟩) rfl (Nat.le_of_ble_eq_true rfl) (Nat.le_of_ble_eq_true rfl) (Nat.le_of_ble_eq_true rfl) (Nat.le_of_ble_eq_true rfl) rfl
                refine sh_Lk_cV (r := (some (.int r7))) (st2 := [.int r7]) (pc2 := 80) (k2 := 40) (a := 2) (as := [.ref 3, .int x1, .int r1]) (rest := []) rfl rfl rfl (fun hT => hT.t2) rfl rfl ⟨Nat.le_of_ble_eq_true rfl, Nat.le_of_ble_eq_true rfl⟩ (sl_40 e7 ⟨rfl, rfl⟩) rfl rfl (Nat.le_of_ble_eq_true rfl) (Nat.le_of_ble_eq_true rfl) ?_
                obtain rfl := Option.some.inj e
                obtain ⟨rfl, rfl⟩ := tg
                exact sh_Lk_ret (i := .ireturn) rfl rfl rfl (Nat.le_of_ble_eq_true rfl) (Nat.le_of_ble_eq_true rfl)
theorem sl_24_59 {m m2 : sh_X} {o : Outcome} {z : (Option Unit × sh_X)} (e : sf_24_59 m = some z) (tg : (sh_tVt o m2) z) : sh_Lk 24 59 [(0, .ref 3)] [] m o m2 34 695 := by
  unfold sf_24_59 at e
  refine sh_Lk_lift (T := m.T) (I := m.I) (J := m.J) (s := m.s) (pc2 := 66) (lv2 := [(0, .ref 3)]) (st2 := [.long 0, .int (m.I 2 6), .int 0, .ref 3]) (I2 := m.I) (J2 := m.J) (fun hT v kk => ?_) ?_
  · refine sh_w (i := (.aload_n 0)) (len := 1) (pc2 := 60) (lv2 := [(0, .ref 3)]) (st2 := [.ref 3]) (h2 := (sh_rep m.T m.I m.J)) rfl rfl rfl ?_
    refine sh_w (i := (.iconst 0)) (len := 1) (pc2 := 61) (lv2 := [(0, .ref 3)]) (st2 := [.int 0, .ref 3]) (h2 := (sh_rep m.T m.I m.J)) rfl rfl rfl ?_
    refine sh_w (i := (.aload_n 0)) (len := 1) (pc2 := 62) (lv2 := [(0, .ref 3)]) (st2 := [.ref 3, .int 0, .ref 3]) (h2 := (sh_rep m.T m.I m.J)) rfl rfl rfl ?_
    refine sh_gI1 (len := 3) (x := m.I 2 6) (pc2 := 65) rfl rfl hT.t2 rfl rfl rfl ?_
    refine sh_w (i := (.lconst 0)) (len := 1) (pc2 := 66) (lv2 := [(0, .ref 3)]) (st2 := [.long 0, .int (m.I 2 6), .int 0, .ref 3]) (h2 := (sh_rep m.T m.I m.J)) rfl rfl rfl ?_
    exact kk
  obtain ⟨r1, m11, e1, e⟩ := sh_bn_e e
  refine sh_Lk_cV (r := none) (st2 := []) (pc2 := 69) (k2 := 38) (a := 2) (as := [.ref 3, .int 0, .int (m.I 2 6), .long 0]) (rest := []) rfl rfl rfl (fun hT => hT.t2) rfl rfl ⟨Nat.le_of_ble_eq_true rfl, Nat.le_of_ble_eq_true rfl⟩ (sl_38 e1 ⟨rfl, rfl⟩) rfl rfl (Nat.le_of_ble_eq_true rfl) (Nat.le_of_ble_eq_true rfl) ?_
  obtain rfl := Option.some.inj e
  obtain ⟨rfl, rfl⟩ := tg
  exact sh_Lk_ret (i := .return_) rfl rfl rfl (Nat.le_of_ble_eq_true rfl) (Nat.le_of_ble_eq_true rfl)
theorem sl_24_30s {x3 : Int32} {x4 : Int32} {m m2 : sh_X} {o : Outcome} {z : ((Int32 × Int32 × sh_X) ⊕ (Option Unit × sh_X))} (e : sf_24_30s x3 x4 m = some z) (tg : (sh_el (fun q => sh_Lk 24 30 [(0, .ref 3), (3, .int q.1), (4, .int q.2.1)] [] q.2.2 o m2 34 695) (sh_tVt o m2)) z) : sh_Lk 24 30 [(0, .ref 3), (3, .int x3), (4, .int x4)] [] m o m2 34 695 := by
  unfold sf_24_30s at e
  refine sh_Lk_lift (T := m.T) (I := m.I) (J := m.J) (s := m.s) (pc2 := 36) (lv2 := [(0, .ref 3), (3, .int x3), (4, .int x4)]) (st2 := [.int (m.I 2 6), .int x4]) (I2 := m.I) (J2 := m.J) (fun hT v kk => ?_) ?_
  · refine sh_w (i := (.iload 4)) (len := 2) (pc2 := 32) (lv2 := [(0, .ref 3), (3, .int x3), (4, .int x4)]) (st2 := [.int x4]) (h2 := (sh_rep m.T m.I m.J)) rfl rfl rfl ?_
    refine sh_w (i := (.aload_n 0)) (len := 1) (pc2 := 33) (lv2 := [(0, .ref 3), (3, .int x3), (4, .int x4)]) (st2 := [.ref 3, .int x4]) (h2 := (sh_rep m.T m.I m.J)) rfl rfl rfl ?_
    refine sh_gI1 (len := 3) (x := m.I 2 6) (pc2 := 36) rfl rfl hT.t2 rfl rfl rfl ?_
    exact kk
  rcases sh_ite e with ⟨c, e⟩ | ⟨c, e⟩
  · refine sh_Lk_lift (T := m.T) (I := m.I) (J := m.J) (s := m.s) (pc2 := 44) (lv2 := [(0, .ref 3), (3, .int x3), (4, .int x4)]) (st2 := [.int (m.I 2 6), .int x3]) (I2 := m.I) (J2 := m.J) (fun hT v kk => ?_) ?_
    · refine sh_jc (c := .ge) (off := (23)) (pc2 := 39) false rfl (sh_Bgef c) rfl ?_
      refine sh_w (i := (.iload_n 3)) (len := 1) (pc2 := 40) (lv2 := [(0, .ref 3), (3, .int x3), (4, .int x4)]) (st2 := [.int x3]) (h2 := (sh_rep m.T m.I m.J)) rfl rfl rfl ?_
      refine sh_w (i := (.aload_n 0)) (len := 1) (pc2 := 41) (lv2 := [(0, .ref 3), (3, .int x3), (4, .int x4)]) (st2 := [.ref 3, .int x3]) (h2 := (sh_rep m.T m.I m.J)) rfl rfl rfl ?_
      refine sh_gI1 (len := 3) (x := m.I 2 6) (pc2 := 44) rfl rfl hT.t2 rfl rfl rfl ?_
      exact kk
    rcases sh_ite e with ⟨c, e⟩ | ⟨c, e⟩
    · refine sh_Lk_lift (T := m.T) (I := m.I) (J := m.J) (s := m.s) (pc2 := 49) (lv2 := [(0, .ref 3), (3, .int x3), (4, .int x4)]) (st2 := [.int x3, .ref 3]) (I2 := m.I) (J2 := m.J) (fun hT v kk => ?_) ?_
      · refine sh_jc (c := .ge) (off := (15)) (pc2 := 47) false rfl (sh_Bgef c) rfl ?_
        refine sh_w (i := (.aload_n 0)) (len := 1) (pc2 := 48) (lv2 := [(0, .ref 3), (3, .int x3), (4, .int x4)]) (st2 := [.ref 3]) (h2 := (sh_rep m.T m.I m.J)) rfl rfl rfl ?_
        refine sh_w (i := (.iload_n 3)) (len := 1) (pc2 := 49) (lv2 := [(0, .ref 3), (3, .int x3), (4, .int x4)]) (st2 := [.int x3, .ref 3]) (h2 := (sh_rep m.T m.I m.J)) rfl rfl rfl ?_
        exact kk
      rcases sh_bt_e e with ⟨m11, e1, rfl⟩ | ⟨r1, m11, e1, e⟩
      · obtain ⟨rfl, rfl⟩ := tg
        exact sh_Lk_tV (k2 := 25) (a := 2) (as := [.ref 3, .int x3]) (rest := []) rfl rfl rfl (fun hT => hT.t2) rfl rfl ⟨Nat.le_of_ble_eq_true rfl, Nat.le_of_ble_eq_true rfl⟩ (sl_25 e1 ⟨rfl, rfl⟩) rfl (Nat.le_of_ble_eq_true rfl) (Nat.le_of_ble_eq_true rfl) (Nat.le_of_ble_eq_true rfl) (Nat.le_of_ble_eq_true rfl) rfl
      refine sh_Lk_cV (r := (some (.int r1))) (st2 := [.int r1]) (pc2 := 52) (k2 := 25) (a := 2) (as := [.ref 3, .int x3]) (rest := []) rfl rfl rfl (fun hT => hT.t2) rfl rfl ⟨Nat.le_of_ble_eq_true rfl, Nat.le_of_ble_eq_true rfl⟩ (sl_25 e1 ⟨rfl, rfl⟩) rfl rfl (Nat.le_of_ble_eq_true rfl) (Nat.le_of_ble_eq_true rfl) ?_
      refine sh_Lk_lift (T := m11.T) (I := m11.I) (J := m11.J) (s := m11.s) (pc2 := 30) (lv2 := [(4, .int (x4 + 1)), (3, .int r1), (0, .ref 3)]) (st2 := []) (I2 := m11.I) (J2 := m11.J) (fun hT v kk => ?_) ?_
      · refine sh_w (i := (.istore_n 3)) (len := 1) (pc2 := 53) (lv2 := [(3, .int r1), (0, .ref 3), (4, .int x4)]) (st2 := []) (h2 := (sh_rep m11.T m11.I m11.J)) rfl rfl rfl ?_
        refine sh_w (i := (.iinc 4 1)) (len := 3) (pc2 := 56) (lv2 := [(4, .int (x4 + 1)), (3, .int r1), (0, .ref 3)]) (st2 := []) (h2 := (sh_rep m11.T m11.I m11.J)) rfl rfl rfl ?_
        refine sh_w (i := (.goto (-26))) (len := 3) (pc2 := 30) (lv2 := [(4, .int (x4 + 1)), (3, .int r1), (0, .ref 3)]) (st2 := []) (h2 := (sh_rep m11.T m11.I m11.J)) rfl rfl rfl ?_
        exact kk
      obtain rfl := Option.some.inj e
      exact sh_Lk_sub (sh_sub_c rfl (sh_sub_c rfl (sh_sub_c rfl (sh_sub_n)))) tg
    · refine sh_Lk_lift (T := m.T) (I := m.I) (J := m.J) (s := m.s) (pc2 := 59) (lv2 := [(0, .ref 3), (3, .int x3), (4, .int x4)]) (st2 := []) (I2 := m.I) (J2 := m.J) (fun hT v kk => ?_) ?_
      · refine sh_jc (c := .ge) (off := (15)) (pc2 := 59) true rfl (sh_Bget c) rfl ?_
        exact kk
      obtain ⟨_, eu, rfl⟩ := sh_up_e e
      exact sh_Lk_sub (sh_sub_c rfl (sh_sub_n)) (sl_24_59 eu tg)
  · refine sh_Lk_lift (T := m.T) (I := m.I) (J := m.J) (s := m.s) (pc2 := 59) (lv2 := [(0, .ref 3), (3, .int x3), (4, .int x4)]) (st2 := []) (I2 := m.I) (J2 := m.J) (fun hT v kk => ?_) ?_
    · refine sh_jc (c := .ge) (off := (23)) (pc2 := 59) true rfl (sh_Bget c) rfl ?_
      exact kk
    obtain ⟨_, eu, rfl⟩ := sh_up_e e
    exact sh_Lk_sub (sh_sub_c rfl (sh_sub_n)) (sl_24_59 eu tg)
theorem sl_24_30 {x3 : Int32} {x4 : Int32} {m m2 : sh_X} {o : Outcome} {z : (Option Unit × sh_X)} (e : sf_24_30 x3 x4 m = some z) (tg : (sh_tVt o m2) z) : sh_Lk 24 30 [(0, .ref 3), (3, .int x3), (4, .int x4)] [] m o m2 34 695 := by
  unfold sf_24_30 at e
  exact sh_while_lk (P := fun q => sh_Lk 24 30 [(0, .ref 3), (3, .int q.1), (4, .int q.2.1)] [] q.2.2 o m2 34 695) (Q := (sh_tVt o m2)) (fun q z e tg => sl_24_30s (x3 := q.1) (x4 := q.2.1) (m := q.2.2) e tg) (s := (x3, x4, m)) e tg
theorem sl_24 {x2 : Int32} {m m2 : sh_X} {o : Outcome} {z : (Option Unit × sh_X)} (e : sf_24 x2 m = some z) (tg : (sh_tVt o m2) z) : sh_Lk 24 0 [(0, .ref 3), (1, .ref 2), (2, .int x2)] [] m o m2 34 695 := by
  unfold sf_24 at e
  refine sh_Lk_lift (T := m.T) (I := m.I) (J := m.J) (s := m.s) (pc2 := 2) (lv2 := [(0, .ref 3), (1, .ref 2), (2, .int x2)]) (st2 := [.ref 2, .ref 3]) (I2 := m.I) (J2 := m.J) (fun hT v kk => ?_) ?_
  · refine sh_w (i := (.aload_n 0)) (len := 1) (pc2 := 1) (lv2 := [(0, .ref 3), (1, .ref 2), (2, .int x2)]) (st2 := [.ref 3]) (h2 := (sh_rep m.T m.I m.J)) rfl rfl rfl ?_
    refine sh_w (i := (.aload_n 1)) (len := 1) (pc2 := 2) (lv2 := [(0, .ref 3), (1, .ref 2), (2, .int x2)]) (st2 := [.ref 2, .ref 3]) (h2 := (sh_rep m.T m.I m.J)) rfl rfl rfl ?_
    exact kk
  refine sh_Lk_x2 (pc2 := 5) rfl rfl rfl ?_
  refine sh_Lk_lift (T := (sh_tx2 m.T)) (I := m.I) (J := m.J) (s := m.s) (pc2 := 9) (lv2 := [(0, .ref 3), (1, .ref 2), (2, .int x2)]) (st2 := [.int 4000, .int x2, .ref 3]) (I2 := m.I) (J2 := m.J) (fun hT v kk => ?_) ?_
  · refine sh_w (i := (.aload_n 0)) (len := 1) (pc2 := 6) (lv2 := [(0, .ref 3), (1, .ref 2), (2, .int x2)]) (st2 := [.ref 3]) (h2 := (sh_rep (sh_tx2 m.T) m.I m.J)) rfl rfl rfl ?_
    refine sh_w (i := (.iload_n 2)) (len := 1) (pc2 := 7) (lv2 := [(0, .ref 3), (1, .ref 2), (2, .int x2)]) (st2 := [.int x2, .ref 3]) (h2 := (sh_rep (sh_tx2 m.T) m.I m.J)) rfl rfl rfl ?_
    refine sh_w (i := (.aload_n 1)) (len := 1) (pc2 := 8) (lv2 := [(0, .ref 3), (1, .ref 2), (2, .int x2)]) (st2 := [.ref 2, .int x2, .ref 3]) (h2 := (sh_rep (sh_tx2 m.T) m.I m.J)) rfl rfl rfl ?_
    refine sh_al1 (pc2 := 9) rfl (sh_s1 hT.st) (by decide) rfl ?_
    exact kk
  refine sh_Lk_cS (r := (some (.int (sf_21 x2 4000)))) (st2 := [.int (sf_21 x2 4000), .ref 3]) (pc2 := 12) (k2 := 21) (as := [.int x2, .int 4000]) (rest := [.ref 3]) rfl rfl (by decide) (Nat.le_of_ble_eq_true rfl) rfl rfl ⟨Nat.le_of_ble_eq_true rfl, Nat.le_of_ble_eq_true rfl⟩ (sl_21 (m := ⟨(sh_tx2 m.T), m.I, m.J, m.s⟩) rfl ⟨rfl, rfl⟩) rfl rfl (Nat.le_of_ble_eq_true rfl) (Nat.le_of_ble_eq_true rfl) ?_
  refine sh_Lk_lift (T := (sh_tx2 m.T)) (I := m.I) (J := m.J) (s := m.s) (pc2 := 30) (lv2 := [(4, .int 0), (3, .int 0), (0, .ref 3), (1, .ref 2), (2, .int x2)]) (st2 := []) (I2 := sh_u2 (sh_u2 (sh_u2 m.I 2 6 (sf_21 x2 4000)) 2 7 0) 2 8 0) (J2 := m.J) (fun hT v kk => ?_) ?_
  · refine sh_pI1 (x := sf_21 x2 4000) (pc2 := 15) rfl rfl hT.t2 rfl rfl rfl rfl ?_
    refine sh_w (i := (.aload_n 0)) (len := 1) (pc2 := 16) (lv2 := [(0, .ref 3), (1, .ref 2), (2, .int x2)]) (st2 := [.ref 3]) (h2 := (sh_rep (sh_tx2 m.T) (sh_u2 m.I 2 6 (sf_21 x2 4000)) m.J)) rfl rfl rfl ?_
    refine sh_w (i := (.iconst 0)) (len := 1) (pc2 := 17) (lv2 := [(0, .ref 3), (1, .ref 2), (2, .int x2)]) (st2 := [.int 0, .ref 3]) (h2 := (sh_rep (sh_tx2 m.T) (sh_u2 m.I 2 6 (sf_21 x2 4000)) m.J)) rfl rfl rfl ?_
    refine sh_pI1 (x := 0) (pc2 := 20) rfl rfl hT.t2 rfl rfl rfl rfl ?_
    refine sh_w (i := (.aload_n 0)) (len := 1) (pc2 := 21) (lv2 := [(0, .ref 3), (1, .ref 2), (2, .int x2)]) (st2 := [.ref 3]) (h2 := (sh_rep (sh_tx2 m.T) (sh_u2 (sh_u2 m.I 2 6 (sf_21 x2 4000)) 2 7 0) m.J)) rfl rfl rfl ?_
    refine sh_w (i := (.iconst 0)) (len := 1) (pc2 := 22) (lv2 := [(0, .ref 3), (1, .ref 2), (2, .int x2)]) (st2 := [.int 0, .ref 3]) (h2 := (sh_rep (sh_tx2 m.T) (sh_u2 (sh_u2 m.I 2 6 (sf_21 x2 4000)) 2 7 0) m.J)) rfl rfl rfl ?_
    refine sh_pI1 (x := 0) (pc2 := 25) rfl rfl hT.t2 rfl rfl rfl rfl ?_
    refine sh_w (i := (.iconst 0)) (len := 1) (pc2 := 26) (lv2 := [(0, .ref 3), (1, .ref 2), (2, .int x2)]) (st2 := [.int 0]) (h2 := (sh_rep (sh_tx2 m.T) (sh_u2 (sh_u2 (sh_u2 m.I 2 6 (sf_21 x2 4000)) 2 7 0) 2 8 0) m.J)) rfl rfl rfl ?_
    refine sh_w (i := (.istore_n 3)) (len := 1) (pc2 := 27) (lv2 := [(3, .int 0), (0, .ref 3), (1, .ref 2), (2, .int x2)]) (st2 := []) (h2 := (sh_rep (sh_tx2 m.T) (sh_u2 (sh_u2 (sh_u2 m.I 2 6 (sf_21 x2 4000)) 2 7 0) 2 8 0) m.J)) rfl rfl rfl ?_
    refine sh_w (i := (.iconst 0)) (len := 1) (pc2 := 28) (lv2 := [(3, .int 0), (0, .ref 3), (1, .ref 2), (2, .int x2)]) (st2 := [.int 0]) (h2 := (sh_rep (sh_tx2 m.T) (sh_u2 (sh_u2 (sh_u2 m.I 2 6 (sf_21 x2 4000)) 2 7 0) 2 8 0) m.J)) rfl rfl rfl ?_
    refine sh_w (i := (.istore 4)) (len := 2) (pc2 := 30) (lv2 := [(4, .int 0), (3, .int 0), (0, .ref 3), (1, .ref 2), (2, .int x2)]) (st2 := []) (h2 := (sh_rep (sh_tx2 m.T) (sh_u2 (sh_u2 (sh_u2 m.I 2 6 (sf_21 x2 4000)) 2 7 0) 2 8 0) m.J)) rfl rfl rfl ?_
    exact kk
  exact sh_Lk_sub (sh_sub_c rfl (sh_sub_c rfl (sh_sub_c rfl (sh_sub_n)))) (sl_24_30 e tg)
theorem sl_44 {m m2 : sh_X} {o : Outcome} {z : (Unit × sh_X)} (e : sf_44 m = some z) (tg : (sh_tV o m2) z) : sh_Lk 44 0 [(0, .ref 29)] [] m o m2 8 200 := by
  unfold sf_44 at e
  refine sh_Lk_lift (T := m.T) (I := m.I) (J := m.J) (s := m.s) (pc2 := 15) (lv2 := [(0, .ref 29)]) (st2 := []) (I2 := sh_u2 (sh_u2 (sh_u2 m.I 28 10 0) 28 11 0) 28 12 0) (J2 := m.J) (fun hT v kk => ?_) ?_
  · refine sh_w (i := (.aload_n 0)) (len := 1) (pc2 := 1) (lv2 := [(0, .ref 29)]) (st2 := [.ref 29]) (h2 := (sh_rep m.T m.I m.J)) rfl rfl rfl ?_
    refine sh_w (i := (.iconst 0)) (len := 1) (pc2 := 2) (lv2 := [(0, .ref 29)]) (st2 := [.int 0, .ref 29]) (h2 := (sh_rep m.T m.I m.J)) rfl rfl rfl ?_
    refine sh_pI1 (x := 0) (pc2 := 5) rfl rfl (sh_s28 hT.st) rfl rfl rfl rfl ?_
    refine sh_w (i := (.aload_n 0)) (len := 1) (pc2 := 6) (lv2 := [(0, .ref 29)]) (st2 := [.ref 29]) (h2 := (sh_rep m.T (sh_u2 m.I 28 10 0) m.J)) rfl rfl rfl ?_
    refine sh_w (i := (.iconst 0)) (len := 1) (pc2 := 7) (lv2 := [(0, .ref 29)]) (st2 := [.int 0, .ref 29]) (h2 := (sh_rep m.T (sh_u2 m.I 28 10 0) m.J)) rfl rfl rfl ?_
    refine sh_pI1 (x := 0) (pc2 := 10) rfl rfl (sh_s28 hT.st) rfl rfl rfl rfl ?_
    refine sh_w (i := (.aload_n 0)) (len := 1) (pc2 := 11) (lv2 := [(0, .ref 29)]) (st2 := [.ref 29]) (h2 := (sh_rep m.T (sh_u2 (sh_u2 m.I 28 10 0) 28 11 0) m.J)) rfl rfl rfl ?_
    refine sh_w (i := (.iconst 0)) (len := 1) (pc2 := 12) (lv2 := [(0, .ref 29)]) (st2 := [.int 0, .ref 29]) (h2 := (sh_rep m.T (sh_u2 (sh_u2 m.I 28 10 0) 28 11 0) m.J)) rfl rfl rfl ?_
    refine sh_pI1 (x := 0) (pc2 := 15) rfl rfl (sh_s28 hT.st) rfl rfl rfl rfl ?_
    exact kk
  obtain rfl := Option.some.inj e
  obtain ⟨rfl, rfl⟩ := tg
  exact sh_Lk_ret (i := .return_) rfl rfl rfl (Nat.le_of_ble_eq_true rfl) (Nat.le_of_ble_eq_true rfl)
theorem sl_46 {x1 : Int32} {m m2 : sh_X} {o : Outcome} {z : Int32} (e : sf_46 x1 m = some z) (tg : (sh_tIc m o m2) z) : sh_Lk 46 0 [(0, .ref 3), (1, .int x1)] [] m o m2 8 200 := by
  unfold sf_46 at e
  refine sh_Lk_lift (T := m.T) (I := m.I) (J := m.J) (s := m.s) (pc2 := 1) (lv2 := [(0, .ref 3), (1, .int x1)]) (st2 := [.int x1]) (I2 := m.I) (J2 := m.J) (fun hT v kk => ?_) ?_
  · refine sh_w (i := (.iload_n 1)) (len := 1) (pc2 := 1) (lv2 := [(0, .ref 3), (1, .int x1)]) (st2 := [.int x1]) (h2 := (sh_rep m.T m.I m.J)) rfl rfl rfl ?_
    exact kk
  rcases sh_ite e with ⟨c, e⟩ | ⟨c, e⟩
  · refine sh_Lk_lift (T := m.T) (I := m.I) (J := m.J) (s := m.s) (pc2 := 22) (lv2 := [(0, .ref 3), (1, .int x1)]) (st2 := [.int 0]) (I2 := m.I) (J2 := m.J) (fun hT v kk => ?_) ?_
    · refine sh_j0 (c := .lt) (off := (20)) (pc2 := 21) true rfl (sh_Bltt c) rfl ?_
      refine sh_w (i := (.iconst 0)) (len := 1) (pc2 := 22) (lv2 := [(0, .ref 3), (1, .int x1)]) (st2 := [.int 0]) (h2 := (sh_rep m.T m.I m.J)) rfl rfl rfl ?_
      exact kk
    obtain rfl := Option.some.inj e
    obtain ⟨rfl, rfl⟩ := tg
    exact sh_Lk_ret (i := .ireturn) rfl rfl rfl (Nat.le_of_ble_eq_true rfl) (Nat.le_of_ble_eq_true rfl)
  · refine sh_Lk_lift (T := m.T) (I := m.I) (J := m.J) (s := m.s) (pc2 := 9) (lv2 := [(0, .ref 3), (1, .int x1)]) (st2 := [.int (m.I 2 7), .int x1]) (I2 := m.I) (J2 := m.J) (fun hT v kk => ?_) ?_
    · refine sh_j0 (c := .lt) (off := (20)) (pc2 := 4) false rfl (sh_Bltf c) rfl ?_
      refine sh_w (i := (.iload_n 1)) (len := 1) (pc2 := 5) (lv2 := [(0, .ref 3), (1, .int x1)]) (st2 := [.int x1]) (h2 := (sh_rep m.T m.I m.J)) rfl rfl rfl ?_
      refine sh_w (i := (.aload_n 0)) (len := 1) (pc2 := 6) (lv2 := [(0, .ref 3), (1, .int x1)]) (st2 := [.ref 3, .int x1]) (h2 := (sh_rep m.T m.I m.J)) rfl rfl rfl ?_
      refine sh_gI1 (len := 3) (x := m.I 2 7) (pc2 := 9) rfl rfl hT.t2 rfl rfl rfl ?_
      exact kk
    rcases sh_ite e with ⟨c, e⟩ | ⟨c, e⟩
    · refine sh_Lk_lift (T := m.T) (I := m.I) (J := m.J) (s := m.s) (pc2 := 17) (lv2 := [(0, .ref 3), (1, .int x1)]) (st2 := [.int x1, .ref 4]) (I2 := m.I) (J2 := m.J) (fun hT v kk => ?_) ?_
      · refine sh_jc (c := .ge) (off := (12)) (pc2 := 12) false rfl (sh_Bgef c) rfl ?_
        refine sh_w (i := (.aload_n 0)) (len := 1) (pc2 := 13) (lv2 := [(0, .ref 3), (1, .int x1)]) (st2 := [.ref 3]) (h2 := (sh_rep m.T m.I m.J)) rfl rfl rfl ?_
        refine sh_gR1 (len := 3) (x := .ref 4) (pc2 := 16) rfl rfl hT.t2 rfl rfl ?_
        refine sh_w (i := (.iload_n 1)) (len := 1) (pc2 := 17) (lv2 := [(0, .ref 3), (1, .int x1)]) (st2 := [.int x1, .ref 4]) (h2 := (sh_rep m.T m.I m.J)) rfl rfl rfl ?_
        exact kk
      obtain ⟨c, e⟩ := sh_gd e
      refine sh_Lk_lift (T := m.T) (I := m.I) (J := m.J) (s := m.s) (pc2 := 22) (lv2 := [(0, .ref 3), (1, .int x1)]) (st2 := [.int (m.I 3 (Int32.toNatClampNeg x1))]) (I2 := m.I) (J2 := m.J) (fun hT v kk => ?_) ?_
      · refine sh_ia1 (x := m.I 3 (Int32.toNatClampNeg x1)) (pc2 := 18) rfl (sh_s3 hT.st) (sh_okb1 c) (sh_okb2 c) rfl rfl ?_
        refine sh_w (i := (.goto 4)) (len := 3) (pc2 := 22) (lv2 := [(0, .ref 3), (1, .int x1)]) (st2 := [.int (m.I 3 (Int32.toNatClampNeg x1))]) (h2 := (sh_rep m.T m.I m.J)) rfl rfl rfl ?_
        exact kk
      obtain rfl := Option.some.inj e
      obtain ⟨rfl, rfl⟩ := tg
      exact sh_Lk_ret (i := .ireturn) rfl rfl rfl (Nat.le_of_ble_eq_true rfl) (Nat.le_of_ble_eq_true rfl)
    · refine sh_Lk_lift (T := m.T) (I := m.I) (J := m.J) (s := m.s) (pc2 := 22) (lv2 := [(0, .ref 3), (1, .int x1)]) (st2 := [.int 0]) (I2 := m.I) (J2 := m.J) (fun hT v kk => ?_) ?_
      · refine sh_jc (c := .ge) (off := (12)) (pc2 := 21) true rfl (sh_Bget c) rfl ?_
        refine sh_w (i := (.iconst 0)) (len := 1) (pc2 := 22) (lv2 := [(0, .ref 3), (1, .int x1)]) (st2 := [.int 0]) (h2 := (sh_rep m.T m.I m.J)) rfl rfl rfl ?_
        exact kk
      obtain rfl := Option.some.inj e
      obtain ⟨rfl, rfl⟩ := tg
      exact sh_Lk_ret (i := .ireturn) rfl rfl rfl (Nat.le_of_ble_eq_true rfl) (Nat.le_of_ble_eq_true rfl)
theorem sl_45 {m m2 : sh_X} {o : Outcome} {z : Int32} (e : sf_45 m = some z) (tg : (sh_tIc m o m2) z) : sh_Lk 45 0 [(0, .ref 40)] [] m o m2 9 221 := by
  unfold sf_45 at e
  refine sh_Lk_lift (T := m.T) (I := m.I) (J := m.J) (s := m.s) (pc2 := 8) (lv2 := [(0, .ref 40)]) (st2 := [.int (m.I 39 4), .ref 3]) (I2 := m.I) (J2 := m.J) (fun hT v kk => ?_) ?_
  · refine sh_w (i := (.aload_n 0)) (len := 1) (pc2 := 1) (lv2 := [(0, .ref 40)]) (st2 := [.ref 40]) (h2 := (sh_rep m.T m.I m.J)) rfl rfl rfl ?_
    refine sh_gR1 (len := 3) (x := .ref 3) (pc2 := 4) rfl rfl (sh_s39 hT.st) rfl rfl ?_
    refine sh_w (i := (.aload_n 0)) (len := 1) (pc2 := 5) (lv2 := [(0, .ref 40)]) (st2 := [.ref 40, .ref 3]) (h2 := (sh_rep m.T m.I m.J)) rfl rfl rfl ?_
    refine sh_gI1 (len := 3) (x := m.I 39 4) (pc2 := 8) rfl rfl (sh_s39 hT.st) rfl rfl rfl ?_
    exact kk
  obtain ⟨r1, e1, e⟩ := sh_bc_e e
  refine sh_Lk_cV (r := (some (.int r1))) (st2 := [.int r1]) (pc2 := 11) (k2 := 46) (a := 2) (as := [.ref 3, .int (m.I 39 4)]) (rest := []) rfl rfl rfl (fun hT => hT.t2) rfl rfl ⟨Nat.le_of_ble_eq_true rfl, Nat.le_of_ble_eq_true rfl⟩ (sl_46 e1 ⟨rfl, rfl⟩) rfl rfl (Nat.le_of_ble_eq_true rfl) (Nat.le_of_ble_eq_true rfl) ?_
  obtain rfl := Option.some.inj e
  obtain ⟨rfl, rfl⟩ := tg
  exact sh_Lk_ret (i := .ireturn) rfl rfl rfl (Nat.le_of_ble_eq_true rfl) (Nat.le_of_ble_eq_true rfl)
theorem sl_50_31 {y1 : Int32} {m m2 : sh_X} {o : Outcome} {z : (Option Unit × sh_X)} (e : sf_50_31 y1 m = some z) (tg : (sh_tVt o m2) z) : sh_Lk 50 31 [] [.int y1, .ref 3] m o m2 8 200 := by
  unfold sf_50_31 at e
  refine sh_Lk_lift (T := m.T) (I := m.I) (J := m.J) (s := m.s) (pc2 := 34) (lv2 := []) (st2 := []) (I2 := sh_u2 m.I 2 10 y1) (J2 := m.J) (fun hT v kk => ?_) ?_
  · refine sh_pI1 (x := y1) (pc2 := 34) rfl rfl hT.t2 rfl rfl rfl rfl ?_
    exact kk
  obtain ⟨c, e⟩ := sh_gd e
  obtain rfl := Option.some.inj e
  obtain ⟨rfl, rfl⟩ := tg
  exact sh_Lk_thr rfl rfl rfl c (Nat.le_of_ble_eq_true rfl) rfl (Nat.le_of_ble_eq_true rfl) (Nat.le_of_ble_eq_true rfl) rfl
theorem sl_50_27 {m m2 : sh_X} {o : Outcome} {z : (Option Unit × sh_X)} (e : sf_50_27 m = some z) (tg : (sh_tVt o m2) z) : sh_Lk 50 27 [(0, .ref 3)] [.ref 3] m o m2 8 200 := by
  unfold sf_50_27 at e
  refine sh_Lk_lift (T := m.T) (I := m.I) (J := m.J) (s := m.s) (pc2 := 31) (lv2 := [(0, .ref 3)]) (st2 := [.int (m.I 2 6), .ref 3]) (I2 := m.I) (J2 := m.J) (fun hT v kk => ?_) ?_
  · refine sh_w (i := (.aload_n 0)) (len := 1) (pc2 := 28) (lv2 := [(0, .ref 3)]) (st2 := [.ref 3, .ref 3]) (h2 := (sh_rep m.T m.I m.J)) rfl rfl rfl ?_
    refine sh_gI1 (len := 3) (x := m.I 2 6) (pc2 := 31) rfl rfl hT.t2 rfl rfl rfl ?_
    exact kk
  exact sh_Lk_sub (sh_sub_n) (sl_50_31 e tg)
theorem sl_50 {x1 : Int32} {x2 : Int32} {m m2 : sh_X} {o : Outcome} {z : (Option Unit × sh_X)} (e : sf_50 x1 x2 m = some z) (tg : (sh_tVt o m2) z) : sh_Lk 50 0 [(0, .ref 3), (1, .int x1), (2, .int x2)] [] m o m2 8 200 := by
  unfold sf_50 at e
  refine sh_Lk_lift (T := m.T) (I := m.I) (J := m.J) (s := m.s) (pc2 := 7) (lv2 := [(0, .ref 3), (1, .int x1), (2, .int x2)]) (st2 := [.int x2, .ref 3]) (I2 := sh_u2 m.I 2 9 x1) (J2 := m.J) (fun hT v kk => ?_) ?_
  · refine sh_w (i := (.aload_n 0)) (len := 1) (pc2 := 1) (lv2 := [(0, .ref 3), (1, .int x1), (2, .int x2)]) (st2 := [.ref 3]) (h2 := (sh_rep m.T m.I m.J)) rfl rfl rfl ?_
    refine sh_w (i := (.iload_n 1)) (len := 1) (pc2 := 2) (lv2 := [(0, .ref 3), (1, .int x1), (2, .int x2)]) (st2 := [.int x1, .ref 3]) (h2 := (sh_rep m.T m.I m.J)) rfl rfl rfl ?_
    refine sh_pI1 (x := x1) (pc2 := 5) rfl rfl hT.t2 rfl rfl rfl rfl ?_
    refine sh_w (i := (.aload_n 0)) (len := 1) (pc2 := 6) (lv2 := [(0, .ref 3), (1, .int x1), (2, .int x2)]) (st2 := [.ref 3]) (h2 := (sh_rep m.T (sh_u2 m.I 2 9 x1) m.J)) rfl rfl rfl ?_
    refine sh_w (i := (.iload_n 2)) (len := 1) (pc2 := 7) (lv2 := [(0, .ref 3), (1, .int x1), (2, .int x2)]) (st2 := [.int x2, .ref 3]) (h2 := (sh_rep m.T (sh_u2 m.I 2 9 x1) m.J)) rfl rfl rfl ?_
    exact kk
  rcases sh_ite e with ⟨c, e⟩ | ⟨c, e⟩
  · refine sh_Lk_lift (T := m.T) (I := sh_u2 m.I 2 9 x1) (J := m.J) (s := m.s) (pc2 := 27) (lv2 := [(0, .ref 3), (1, .int x1), (2, .int x2)]) (st2 := [.ref 3]) (I2 := sh_u2 m.I 2 9 x1) (J2 := m.J) (fun hT v kk => ?_) ?_
    · refine sh_j0 (c := .lt) (off := (20)) (pc2 := 27) true rfl (sh_Bltt c) rfl ?_
      exact kk
    exact sh_Lk_sub (sh_sub_c rfl (sh_sub_n)) (sl_50_27 e tg)
  · refine sh_Lk_lift (T := m.T) (I := sh_u2 m.I 2 9 x1) (J := m.J) (s := m.s) (pc2 := 15) (lv2 := [(0, .ref 3), (1, .int x1), (2, .int x2)]) (st2 := [.int (m.I 2 7), .int x2, .ref 3]) (I2 := sh_u2 m.I 2 9 x1) (J2 := m.J) (fun hT v kk => ?_) ?_
    · refine sh_j0 (c := .lt) (off := (20)) (pc2 := 10) false rfl (sh_Bltf c) rfl ?_
      refine sh_w (i := (.iload_n 2)) (len := 1) (pc2 := 11) (lv2 := [(0, .ref 3), (1, .int x1), (2, .int x2)]) (st2 := [.int x2, .ref 3]) (h2 := (sh_rep m.T (sh_u2 m.I 2 9 x1) m.J)) rfl rfl rfl ?_
      refine sh_w (i := (.aload_n 0)) (len := 1) (pc2 := 12) (lv2 := [(0, .ref 3), (1, .int x1), (2, .int x2)]) (st2 := [.ref 3, .int x2, .ref 3]) (h2 := (sh_rep m.T (sh_u2 m.I 2 9 x1) m.J)) rfl rfl rfl ?_
      refine sh_gI1 (len := 3) (x := m.I 2 7) (pc2 := 15) rfl rfl hT.t2 rfl rfl rfl ?_
      exact kk
    rcases sh_ite e with ⟨c, e⟩ | ⟨c, e⟩
    · refine sh_Lk_lift (T := m.T) (I := sh_u2 m.I 2 9 x1) (J := m.J) (s := m.s) (pc2 := 23) (lv2 := [(0, .ref 3), (1, .int x1), (2, .int x2)]) (st2 := [.int x2, .ref 5, .ref 3]) (I2 := sh_u2 m.I 2 9 x1) (J2 := m.J) (fun hT v kk => ?_) ?_
      · refine sh_jc (c := .ge) (off := (12)) (pc2 := 18) false rfl (sh_Bgef c) rfl ?_
        refine sh_w (i := (.aload_n 0)) (len := 1) (pc2 := 19) (lv2 := [(0, .ref 3), (1, .int x1), (2, .int x2)]) (st2 := [.ref 3, .ref 3]) (h2 := (sh_rep m.T (sh_u2 m.I 2 9 x1) m.J)) rfl rfl rfl ?_
        refine sh_gR1 (len := 3) (x := .ref 5) (pc2 := 22) rfl rfl hT.t2 rfl rfl ?_
        refine sh_w (i := (.iload_n 2)) (len := 1) (pc2 := 23) (lv2 := [(0, .ref 3), (1, .int x1), (2, .int x2)]) (st2 := [.int x2, .ref 5, .ref 3]) (h2 := (sh_rep m.T (sh_u2 m.I 2 9 x1) m.J)) rfl rfl rfl ?_
        exact kk
      obtain ⟨c, e⟩ := sh_gd e
      refine sh_Lk_lift (T := m.T) (I := sh_u2 m.I 2 9 x1) (J := m.J) (s := m.s) (pc2 := 31) (lv2 := [(0, .ref 3), (1, .int x1), (2, .int x2)]) (st2 := [.int (m.I 4 (Int32.toNatClampNeg x2)), .ref 3]) (I2 := sh_u2 m.I 2 9 x1) (J2 := m.J) (fun hT v kk => ?_) ?_
      · refine sh_ia1 (x := m.I 4 (Int32.toNatClampNeg x2)) (pc2 := 24) rfl (sh_s4 hT.st) (sh_okb1 c) (sh_okb2 c) rfl rfl ?_
        refine sh_w (i := (.goto 7)) (len := 3) (pc2 := 31) (lv2 := [(0, .ref 3), (1, .int x1), (2, .int x2)]) (st2 := [.int (m.I 4 (Int32.toNatClampNeg x2)), .ref 3]) (h2 := (sh_rep m.T (sh_u2 m.I 2 9 x1) m.J)) rfl rfl rfl ?_
        exact kk
      exact sh_Lk_sub (sh_sub_n) (sl_50_31 e tg)
    · refine sh_Lk_lift (T := m.T) (I := sh_u2 m.I 2 9 x1) (J := m.J) (s := m.s) (pc2 := 27) (lv2 := [(0, .ref 3), (1, .int x1), (2, .int x2)]) (st2 := [.ref 3]) (I2 := sh_u2 m.I 2 9 x1) (J2 := m.J) (fun hT v kk => ?_) ?_
      · refine sh_jc (c := .ge) (off := (12)) (pc2 := 27) true rfl (sh_Bget c) rfl ?_
        exact kk
      exact sh_Lk_sub (sh_sub_c rfl (sh_sub_n)) (sl_50_27 e tg)
theorem sl_49 {m m2 : sh_X} {o : Outcome} {z : (Option Unit × sh_X)} (e : sf_49 m = some z) (tg : (sh_tVt o m2) z) : sh_Lk 49 0 [(0, .ref 40)] [] m o m2 9 222 := by
  unfold sf_49 at e
  refine sh_Lk_lift (T := m.T) (I := m.I) (J := m.J) (s := m.s) (pc2 := 9) (lv2 := [(0, .ref 40)]) (st2 := [.int (m.I 39 4), .int 2, .ref 3]) (I2 := m.I) (J2 := m.J) (fun hT v kk => ?_) ?_
  · refine sh_w (i := (.aload_n 0)) (len := 1) (pc2 := 1) (lv2 := [(0, .ref 40)]) (st2 := [.ref 40]) (h2 := (sh_rep m.T m.I m.J)) rfl rfl rfl ?_
    refine sh_gR1 (len := 3) (x := .ref 3) (pc2 := 4) rfl rfl (sh_s39 hT.st) rfl rfl ?_
    refine sh_w (i := (.iconst 2)) (len := 1) (pc2 := 5) (lv2 := [(0, .ref 40)]) (st2 := [.int 2, .ref 3]) (h2 := (sh_rep m.T m.I m.J)) rfl rfl rfl ?_
    refine sh_w (i := (.aload_n 0)) (len := 1) (pc2 := 6) (lv2 := [(0, .ref 40)]) (st2 := [.ref 40, .int 2, .ref 3]) (h2 := (sh_rep m.T m.I m.J)) rfl rfl rfl ?_
    refine sh_gI1 (len := 3) (x := m.I 39 4) (pc2 := 9) rfl rfl (sh_s39 hT.st) rfl rfl rfl ?_
    exact kk
  rcases sh_bt_e e with ⟨m11, e1, rfl⟩ | ⟨r1, m11, e1, e⟩
  · obtain ⟨rfl, rfl⟩ := tg
    exact sh_Lk_tV (k2 := 50) (a := 2) (as := [.ref 3, .int 2, .int (m.I 39 4)]) (rest := []) rfl rfl rfl (fun hT => hT.t2) rfl rfl ⟨Nat.le_of_ble_eq_true rfl, Nat.le_of_ble_eq_true rfl⟩ (sl_50 e1 ⟨rfl, rfl⟩) rfl (Nat.le_of_ble_eq_true rfl) (Nat.le_of_ble_eq_true rfl) (Nat.le_of_ble_eq_true rfl) (Nat.le_of_ble_eq_true rfl) rfl
  refine sh_Lk_cV (r := none) (st2 := []) (pc2 := 12) (k2 := 50) (a := 2) (as := [.ref 3, .int 2, .int (m.I 39 4)]) (rest := []) rfl rfl rfl (fun hT => hT.t2) rfl rfl ⟨Nat.le_of_ble_eq_true rfl, Nat.le_of_ble_eq_true rfl⟩ (sl_50 e1 ⟨rfl, rfl⟩) rfl rfl (Nat.le_of_ble_eq_true rfl) (Nat.le_of_ble_eq_true rfl) ?_
  obtain rfl := Option.some.inj e
  obtain ⟨rfl, rfl⟩ := tg
  exact sh_Lk_ret (i := .return_) rfl rfl rfl (Nat.le_of_ble_eq_true rfl) (Nat.le_of_ble_eq_true rfl)
theorem sl_48_12 {m m2 : sh_X} {o : Outcome} {z : (Option Unit × sh_X)} (e : sf_48_12 m = some z) (tg : (sh_tVt o m2) z) : sh_Lk 48 12 [(0, .ref 40)] [] m o m2 10 242 := by
  unfold sf_48_12 at e
  refine sh_Lk_lift (T := m.T) (I := m.I) (J := m.J) (s := m.s) (pc2 := 22) (lv2 := [(0, .ref 40)]) (st2 := []) (I2 := sh_u2 m.I 39 4 ((m.I 39 4) + 1)) (J2 := m.J) (fun hT v kk => ?_) ?_
  · refine sh_w (i := (.aload_n 0)) (len := 1) (pc2 := 13) (lv2 := [(0, .ref 40)]) (st2 := [.ref 40]) (h2 := (sh_rep m.T m.I m.J)) rfl rfl rfl ?_
    refine sh_w (i := .dup) (len := 1) (pc2 := 14) (lv2 := [(0, .ref 40)]) (st2 := [.ref 40, .ref 40]) (h2 := (sh_rep m.T m.I m.J)) rfl rfl rfl ?_
    refine sh_gI1 (len := 3) (x := m.I 39 4) (pc2 := 17) rfl rfl (sh_s39 hT.st) rfl rfl rfl ?_
    refine sh_w (i := (.iconst 1)) (len := 1) (pc2 := 18) (lv2 := [(0, .ref 40)]) (st2 := [.int 1, .int (m.I 39 4), .ref 40]) (h2 := (sh_rep m.T m.I m.J)) rfl rfl rfl ?_
    refine sh_w (i := .iadd) (len := 1) (pc2 := 19) (lv2 := [(0, .ref 40)]) (st2 := [.int ((m.I 39 4) + 1), .ref 40]) (h2 := (sh_rep m.T m.I m.J)) rfl rfl rfl ?_
    refine sh_pI1 (x := (m.I 39 4) + 1) (pc2 := 22) rfl rfl (sh_s39 hT.st) rfl rfl rfl rfl ?_
    exact kk
  obtain rfl := Option.some.inj e
  obtain ⟨rfl, rfl⟩ := tg
  exact sh_Lk_ret (i := .return_) rfl rfl rfl (Nat.le_of_ble_eq_true rfl) (Nat.le_of_ble_eq_true rfl)
theorem sl_48 {x1 : Int32} {m m2 : sh_X} {o : Outcome} {z : (Option Unit × sh_X)} (e : sf_48 x1 m = some z) (tg : (sh_tVt o m2) z) : sh_Lk 48 0 [(0, .ref 40), (1, .int x1)] [] m o m2 10 242 := by
  unfold sf_48 at e
  refine sh_Lk_lift (T := m.T) (I := m.I) (J := m.J) (s := m.s) (pc2 := 1) (lv2 := [(0, .ref 40), (1, .int x1)]) (st2 := [.ref 40]) (I2 := m.I) (J2 := m.J) (fun hT v kk => ?_) ?_
  · refine sh_w (i := (.aload_n 0)) (len := 1) (pc2 := 1) (lv2 := [(0, .ref 40), (1, .int x1)]) (st2 := [.ref 40]) (h2 := (sh_rep m.T m.I m.J)) rfl rfl rfl ?_
    exact kk
  obtain ⟨r1, e1, e⟩ := sh_bc_e e
  refine sh_Lk_cV (r := (some (.int r1))) (st2 := [.int r1]) (pc2 := 4) (k2 := 45) (a := 39) (as := [.ref 40]) (rest := []) rfl rfl rfl (fun hT => (sh_s39 hT.st)) rfl rfl ⟨Nat.le_of_ble_eq_true rfl, Nat.le_of_ble_eq_true rfl⟩ (sl_45 e1 ⟨rfl, rfl⟩) rfl rfl (Nat.le_of_ble_eq_true rfl) (Nat.le_of_ble_eq_true rfl) ?_
  refine sh_Lk_lift (T := m.T) (I := m.I) (J := m.J) (s := m.s) (pc2 := 5) (lv2 := [(0, .ref 40), (1, .int x1)]) (st2 := [.int x1, .int r1]) (I2 := m.I) (J2 := m.J) (fun hT v kk => ?_) ?_
  · refine sh_w (i := (.iload_n 1)) (len := 1) (pc2 := 5) (lv2 := [(0, .ref 40), (1, .int x1)]) (st2 := [.int x1, .int r1]) (h2 := (sh_rep m.T m.I m.J)) rfl rfl rfl ?_
    exact kk
  rcases sh_ite e with ⟨c, e⟩ | ⟨c, e⟩
  · refine sh_Lk_lift (T := m.T) (I := m.I) (J := m.J) (s := m.s) (pc2 := 12) (lv2 := [(0, .ref 40), (1, .int x1)]) (st2 := []) (I2 := m.I) (J2 := m.J) (fun hT v kk => ?_) ?_
    · refine sh_jc (c := .eq) (off := (7)) (pc2 := 12) true rfl (sh_Beqt c) rfl ?_
      exact kk
    exact sh_Lk_sub (sh_sub_c rfl (sh_sub_n)) (sl_48_12 e tg)
  · refine sh_Lk_lift (T := m.T) (I := m.I) (J := m.J) (s := m.s) (pc2 := 9) (lv2 := [(0, .ref 40), (1, .int x1)]) (st2 := [.ref 40]) (I2 := m.I) (J2 := m.J) (fun hT v kk => ?_) ?_
    · refine sh_jc (c := .eq) (off := (7)) (pc2 := 8) false rfl (sh_Beqf c) rfl ?_
      refine sh_w (i := (.aload_n 0)) (len := 1) (pc2 := 9) (lv2 := [(0, .ref 40), (1, .int x1)]) (st2 := [.ref 40]) (h2 := (sh_rep m.T m.I m.J)) rfl rfl rfl ?_
      exact kk
    rcases sh_bt_e e with ⟨m12, e2, rfl⟩ | ⟨r2, m12, e2, e⟩
    · obtain ⟨rfl, rfl⟩ := tg
      exact sh_Lk_tV (k2 := 49) (a := 39) (as := [.ref 40]) (rest := []) rfl rfl rfl (fun hT => (sh_s39 hT.st)) rfl rfl ⟨Nat.le_of_ble_eq_true rfl, Nat.le_of_ble_eq_true rfl⟩ (sl_49 e2 ⟨rfl, rfl⟩) rfl (Nat.le_of_ble_eq_true rfl) (Nat.le_of_ble_eq_true rfl) (Nat.le_of_ble_eq_true rfl) (Nat.le_of_ble_eq_true rfl) rfl
    refine sh_Lk_cV (r := none) (st2 := []) (pc2 := 12) (k2 := 49) (a := 39) (as := [.ref 40]) (rest := []) rfl rfl rfl (fun hT => (sh_s39 hT.st)) rfl rfl ⟨Nat.le_of_ble_eq_true rfl, Nat.le_of_ble_eq_true rfl⟩ (sl_49 e2 ⟨rfl, rfl⟩) rfl rfl (Nat.le_of_ble_eq_true rfl) (Nat.le_of_ble_eq_true rfl) ?_
    exact sh_Lk_sub (sh_sub_c rfl (sh_sub_n)) (sl_48_12 e tg)
theorem sl_52 {m m2 : sh_X} {o : Outcome} {z : (Option Unit × sh_X)} (e : sf_52 m = some z) (tg : (sh_tVt o m2) z) : sh_Lk 52 0 [(0, .ref 40)] [] m o m2 11 263 := by
  unfold sf_52 at e
  refine sh_Lk_lift (T := m.T) (I := m.I) (J := m.J) (s := m.s) (pc2 := 2) (lv2 := [(0, .ref 40)]) (st2 := [.int 3, .ref 40]) (I2 := m.I) (J2 := m.J) (fun hT v kk => ?_) ?_
  · refine sh_w (i := (.aload_n 0)) (len := 1) (pc2 := 1) (lv2 := [(0, .ref 40)]) (st2 := [.ref 40]) (h2 := (sh_rep m.T m.I m.J)) rfl rfl rfl ?_
    refine sh_w (i := (.iconst 3)) (len := 1) (pc2 := 2) (lv2 := [(0, .ref 40)]) (st2 := [.int 3, .ref 40]) (h2 := (sh_rep m.T m.I m.J)) rfl rfl rfl ?_
    exact kk
  rcases sh_bt_e e with ⟨m11, e1, rfl⟩ | ⟨r1, m11, e1, e⟩
  · obtain ⟨rfl, rfl⟩ := tg
    exact sh_Lk_tV (k2 := 48) (a := 39) (as := [.ref 40, .int 3]) (rest := []) rfl rfl rfl (fun hT => (sh_s39 hT.st)) rfl rfl ⟨Nat.le_of_ble_eq_true rfl, Nat.le_of_ble_eq_true rfl⟩ (sl_48 e1 ⟨rfl, rfl⟩) rfl (Nat.le_of_ble_eq_true rfl) (Nat.le_of_ble_eq_true rfl) (Nat.le_of_ble_eq_true rfl) (Nat.le_of_ble_eq_true rfl) rfl
  refine sh_Lk_cV (r := none) (st2 := []) (pc2 := 5) (k2 := 48) (a := 39) (as := [.ref 40, .int 3]) (rest := []) rfl rfl rfl (fun hT => (sh_s39 hT.st)) rfl rfl ⟨Nat.le_of_ble_eq_true rfl, Nat.le_of_ble_eq_true rfl⟩ (sl_48 e1 ⟨rfl, rfl⟩) rfl rfl (Nat.le_of_ble_eq_true rfl) (Nat.le_of_ble_eq_true rfl) ?_
  refine sh_Lk_lift (T := m11.T) (I := m11.I) (J := m11.J) (s := m11.s) (pc2 := 6) (lv2 := [(0, .ref 40)]) (st2 := [.ref 40]) (I2 := m11.I) (J2 := m11.J) (fun hT v kk => ?_) ?_
  · refine sh_w (i := (.aload_n 0)) (len := 1) (pc2 := 6) (lv2 := [(0, .ref 40)]) (st2 := [.ref 40]) (h2 := (sh_rep m11.T m11.I m11.J)) rfl rfl rfl ?_
    exact kk
  obtain ⟨r2, e2, e⟩ := sh_bc_e e
  refine sh_Lk_cV (r := (some (.int r2))) (st2 := [.int r2]) (pc2 := 9) (k2 := 45) (a := 39) (as := [.ref 40]) (rest := []) rfl rfl rfl (fun hT => (sh_s39 hT.st)) rfl rfl ⟨Nat.le_of_ble_eq_true rfl, Nat.le_of_ble_eq_true rfl⟩ (sl_45 e2 ⟨rfl, rfl⟩) rfl rfl (Nat.le_of_ble_eq_true rfl) (Nat.le_of_ble_eq_true rfl) ?_
  refine sh_Lk_lift (T := m11.T) (I := m11.I) (J := m11.J) (s := m11.s) (pc2 := 11) (lv2 := [(0, .ref 40)]) (st2 := [.int 91, .int r2]) (I2 := m11.I) (J2 := m11.J) (fun hT v kk => ?_) ?_
  · refine sh_w (i := (.bipush 91)) (len := 2) (pc2 := 11) (lv2 := [(0, .ref 40)]) (st2 := [.int 91, .int r2]) (h2 := (sh_rep m11.T m11.I m11.J)) rfl rfl rfl ?_
    exact kk
  rcases sh_ite e with ⟨c, e⟩ | ⟨c, e⟩
  · refine sh_Lk_lift (T := m11.T) (I := m11.I) (J := m11.J) (s := m11.s) (pc2 := 17) (lv2 := [(0, .ref 40)]) (st2 := [.int 91, .ref 40]) (I2 := m11.I) (J2 := m11.J) (fun hT v kk => ?_) ?_
    · refine sh_jc (c := .ne) (off := (20)) (pc2 := 14) false rfl (sh_Bnef c) rfl ?_
      refine sh_w (i := (.aload_n 0)) (len := 1) (pc2 := 15) (lv2 := [(0, .ref 40)]) (st2 := [.ref 40]) (h2 := (sh_rep m11.T m11.I m11.J)) rfl rfl rfl ?_
      refine sh_w (i := (.bipush 91)) (len := 2) (pc2 := 17) (lv2 := [(0, .ref 40)]) (st2 := [.int 91, .ref 40]) (h2 := (sh_rep m11.T m11.I m11.J)) rfl rfl rfl ?_
      exact kk
    rcases sh_bt_e e with ⟨m13, e3, rfl⟩ | ⟨r3, m13, e3, e⟩
    · obtain ⟨rfl, rfl⟩ := tg
      exact sh_Lk_tV (k2 := 48) (a := 39) (as := [.ref 40, .int 91]) (rest := []) rfl rfl rfl (fun hT => (sh_s39 hT.st)) rfl rfl ⟨Nat.le_of_ble_eq_true rfl, Nat.le_of_ble_eq_true rfl⟩ (sl_48 e3 ⟨rfl, rfl⟩) rfl (Nat.le_of_ble_eq_true rfl) (Nat.le_of_ble_eq_true rfl) (Nat.le_of_ble_eq_true rfl) (Nat.le_of_ble_eq_true rfl) rfl
    refine sh_Lk_cV (r := none) (st2 := []) (pc2 := 20) (k2 := 48) (a := 39) (as := [.ref 40, .int 91]) (rest := []) rfl rfl rfl (fun hT => (sh_s39 hT.st)) rfl rfl ⟨Nat.le_of_ble_eq_true rfl, Nat.le_of_ble_eq_true rfl⟩ (sl_48 e3 ⟨rfl, rfl⟩) rfl rfl (Nat.le_of_ble_eq_true rfl) (Nat.le_of_ble_eq_true rfl) ?_
    refine sh_Lk_lift (T := m13.T) (I := m13.I) (J := m13.J) (s := m13.s) (pc2 := 22) (lv2 := [(0, .ref 40)]) (st2 := [.int 2, .ref 40]) (I2 := m13.I) (J2 := m13.J) (fun hT v kk => ?_) ?_
    · refine sh_w (i := (.aload_n 0)) (len := 1) (pc2 := 21) (lv2 := [(0, .ref 40)]) (st2 := [.ref 40]) (h2 := (sh_rep m13.T m13.I m13.J)) rfl rfl rfl ?_
      refine sh_w (i := (.iconst 2)) (len := 1) (pc2 := 22) (lv2 := [(0, .ref 40)]) (st2 := [.int 2, .ref 40]) (h2 := (sh_rep m13.T m13.I m13.J)) rfl rfl rfl ?_
      exact kk
    rcases sh_bt_e e with ⟨m14, e4, rfl⟩ | ⟨r4, m14, e4, e⟩
    · obtain ⟨rfl, rfl⟩ := tg
      exact sh_Lk_tV (k2 := 48) (a := 39) (as := [.ref 40, .int 2]) (rest := []) rfl rfl rfl (fun hT => (sh_s39 hT.st)) rfl rfl ⟨Nat.le_of_ble_eq_true rfl, Nat.le_of_ble_eq_true rfl⟩ (sl_48 e4 ⟨rfl, rfl⟩) rfl (Nat.le_of_ble_eq_true rfl) (Nat.le_of_ble_eq_true rfl) (Nat.le_of_ble_eq_true rfl) (Nat.le_of_ble_eq_true rfl) rfl
    refine sh_Lk_cV (r := none) (st2 := []) (pc2 := 25) (k2 := 48) (a := 39) (as := [.ref 40, .int 2]) (rest := []) rfl rfl rfl (fun hT => (sh_s39 hT.st)) rfl rfl ⟨Nat.le_of_ble_eq_true rfl, Nat.le_of_ble_eq_true rfl⟩ (sl_48 e4 ⟨rfl, rfl⟩) rfl rfl (Nat.le_of_ble_eq_true rfl) (Nat.le_of_ble_eq_true rfl) ?_
    refine sh_Lk_lift (T := m14.T) (I := m14.I) (J := m14.J) (s := m14.s) (pc2 := 28) (lv2 := [(0, .ref 40)]) (st2 := [.int 93, .ref 40]) (I2 := m14.I) (J2 := m14.J) (fun hT v kk => ?_) ?_
    · refine sh_w (i := (.aload_n 0)) (len := 1) (pc2 := 26) (lv2 := [(0, .ref 40)]) (st2 := [.ref 40]) (h2 := (sh_rep m14.T m14.I m14.J)) rfl rfl rfl ?_
      refine sh_w (i := (.bipush 93)) (len := 2) (pc2 := 28) (lv2 := [(0, .ref 40)]) (st2 := [.int 93, .ref 40]) (h2 := (sh_rep m14.T m14.I m14.J)) rfl rfl rfl ?_
      exact kk
    rcases sh_bt_e e with ⟨m15, e5, rfl⟩ | ⟨r5, m15, e5, e⟩
    · obtain ⟨rfl, rfl⟩ := tg
      exact sh_Lk_tV (k2 := 48) (a := 39) (as := [.ref 40, .int 93]) (rest := []) rfl rfl rfl (fun hT => (sh_s39 hT.st)) rfl rfl ⟨Nat.le_of_ble_eq_true rfl, Nat.le_of_ble_eq_true rfl⟩ (sl_48 e5 ⟨rfl, rfl⟩) rfl (Nat.le_of_ble_eq_true rfl) (Nat.le_of_ble_eq_true rfl) (Nat.le_of_ble_eq_true rfl) (Nat.le_of_ble_eq_true rfl) rfl
    refine sh_Lk_cV (r := none) (st2 := []) (pc2 := 31) (k2 := 48) (a := 39) (as := [.ref 40, .int 93]) (rest := []) rfl rfl rfl (fun hT => (sh_s39 hT.st)) rfl rfl ⟨Nat.le_of_ble_eq_true rfl, Nat.le_of_ble_eq_true rfl⟩ (sl_48 e5 ⟨rfl, rfl⟩) rfl rfl (Nat.le_of_ble_eq_true rfl) (Nat.le_of_ble_eq_true rfl) ?_
    obtain rfl := Option.some.inj e
    obtain ⟨rfl, rfl⟩ := tg
    exact sh_Lk_ret (i := .return_) rfl rfl rfl (Nat.le_of_ble_eq_true rfl) (Nat.le_of_ble_eq_true rfl)
  · refine sh_Lk_lift (T := m11.T) (I := m11.I) (J := m11.J) (s := m11.s) (pc2 := 31) (lv2 := [(0, .ref 40)]) (st2 := []) (I2 := m11.I) (J2 := m11.J) (fun hT v kk => ?_) ?_
    · refine sh_jc (c := .ne) (off := (20)) (pc2 := 31) true rfl (sh_Bnet c) rfl ?_
      exact kk
    obtain rfl := Option.some.inj e
    obtain ⟨rfl, rfl⟩ := tg
    exact sh_Lk_ret (i := .return_) rfl rfl rfl (Nat.le_of_ble_eq_true rfl) (Nat.le_of_ble_eq_true rfl)
theorem sl_51_100 {x1 : Int32} {x2 : Int32} {x3 : Bool} {x4 : Int32} {y1 : Int32} {y2 : Bool} {m m2 : sh_X} {o : Outcome} {z : ((Int32 × Bool × Int32 × sh_X) ⊕ (Option Unit × sh_X))} (e : sf_51_100 x1 x2 x3 x4 y1 y2 m = some z) (tg : (sh_el (fun q => sh_Lk 51 20 [(0, .ref 40), (1, .int x1), (2, .int q.1), (3, .int (sh_b2 q.2.1)), (4, .int q.2.2.1)] [] q.2.2.2 o m2 12 283) (sh_tVt o m2)) z) : sh_Lk 51 100 [(0, .ref 40), (1, .int x1), (2, .int x2), (3, .int (sh_b2 x3)), (4, .int x4)] [.int (sh_b2 y2), .int y1, .ref 40] m o m2 12 283 := by
  unfold sf_51_100 at e
  refine sh_Lk_lift (T := m.T) (I := m.I) (J := m.J) (s := m.s) (pc2 := 20) (lv2 := [(4, .int (x4 + 1)), (0, .ref 40), (1, .int x1), (2, .int x2), (3, .int (sh_b2 x3))]) (st2 := []) (I2 := sh_u2 m.I 39 4 (y1 + (sh_b2 y2))) (J2 := m.J) (fun hT v kk => ?_) ?_
  · refine sh_w (i := .iadd) (len := 1) (pc2 := 101) (lv2 := [(0, .ref 40), (1, .int x1), (2, .int x2), (3, .int (sh_b2 x3)), (4, .int x4)]) (st2 := [.int (y1 + (sh_b2 y2)), .ref 40]) (h2 := (sh_rep m.T m.I m.J)) rfl rfl rfl ?_
    refine sh_pI1 (x := y1 + (sh_b2 y2)) (pc2 := 104) rfl rfl (sh_s39 hT.st) rfl rfl rfl rfl ?_
    refine sh_w (i := (.iinc 4 1)) (len := 3) (pc2 := 107) (lv2 := [(4, .int (x4 + 1)), (0, .ref 40), (1, .int x1), (2, .int x2), (3, .int (sh_b2 x3))]) (st2 := []) (h2 := (sh_rep m.T (sh_u2 m.I 39 4 (y1 + (sh_b2 y2))) m.J)) rfl rfl rfl ?_
    refine sh_w (i := (.goto (-87))) (len := 3) (pc2 := 20) (lv2 := [(4, .int (x4 + 1)), (0, .ref 40), (1, .int x1), (2, .int x2), (3, .int (sh_b2 x3))]) (st2 := []) (h2 := (sh_rep m.T (sh_u2 m.I 39 4 (y1 + (sh_b2 y2))) m.J)) rfl rfl rfl ?_
    exact kk
  obtain rfl := Option.some.inj e
  exact sh_Lk_sub (sh_sub_c rfl (sh_sub_c rfl (sh_sub_c rfl (sh_sub_c rfl (sh_sub_c rfl (sh_sub_n)))))) tg
theorem sl_51_85 {x1 : Int32} {x2 : Int32} {x4 : Int32} {y0 : Bool} {m m2 : sh_X} {o : Outcome} {z : ((Int32 × Bool × Int32 × sh_X) ⊕ (Option Unit × sh_X))} (e : sf_51_85 x1 x2 x4 y0 m = some z) (tg : (sh_el (fun q => sh_Lk 51 20 [(0, .ref 40), (1, .int x1), (2, .int q.1), (3, .int (sh_b2 q.2.1)), (4, .int q.2.2.1)] [] q.2.2.2 o m2 12 283) (sh_tVt o m2)) z) : sh_Lk 51 85 [(0, .ref 40), (1, .int x1), (2, .int x2), (4, .int x4)] [.int (sh_b2 y0)] m o m2 12 283 := by
  unfold sf_51_85 at e
  refine sh_Lk_lift (T := m.T) (I := m.I) (J := m.J) (s := m.s) (pc2 := 92) (lv2 := [(3, .int (sh_b2 y0)), (0, .ref 40), (1, .int x1), (2, .int x2), (4, .int x4)]) (st2 := [.int (sh_b2 y0), .int (m.I 39 4), .ref 40]) (I2 := m.I) (J2 := m.J) (fun hT v kk => ?_) ?_
  · refine sh_w (i := (.istore_n 3)) (len := 1) (pc2 := 86) (lv2 := [(3, .int (sh_b2 y0)), (0, .ref 40), (1, .int x1), (2, .int x2), (4, .int x4)]) (st2 := []) (h2 := (sh_rep m.T m.I m.J)) rfl rfl rfl ?_
    refine sh_w (i := (.aload_n 0)) (len := 1) (pc2 := 87) (lv2 := [(3, .int (sh_b2 y0)), (0, .ref 40), (1, .int x1), (2, .int x2), (4, .int x4)]) (st2 := [.ref 40]) (h2 := (sh_rep m.T m.I m.J)) rfl rfl rfl ?_
    refine sh_w (i := .dup) (len := 1) (pc2 := 88) (lv2 := [(3, .int (sh_b2 y0)), (0, .ref 40), (1, .int x1), (2, .int x2), (4, .int x4)]) (st2 := [.ref 40, .ref 40]) (h2 := (sh_rep m.T m.I m.J)) rfl rfl rfl ?_
    refine sh_gI1 (len := 3) (x := m.I 39 4) (pc2 := 91) rfl rfl (sh_s39 hT.st) rfl rfl rfl ?_
    refine sh_w (i := (.iload_n 3)) (len := 1) (pc2 := 92) (lv2 := [(3, .int (sh_b2 y0)), (0, .ref 40), (1, .int x1), (2, .int x2), (4, .int x4)]) (st2 := [.int (sh_b2 y0), .int (m.I 39 4), .ref 40]) (h2 := (sh_rep m.T m.I m.J)) rfl rfl rfl ?_
    exact kk
  rcases sh_ite e with ⟨c, e⟩ | ⟨c, e⟩
  · refine sh_Lk_lift (T := m.T) (I := m.I) (J := m.J) (s := m.s) (pc2 := 100) (lv2 := [(3, .int (sh_b2 y0)), (0, .ref 40), (1, .int x1), (2, .int x2), (4, .int x4)]) (st2 := [.int 1, .int (m.I 39 4), .ref 40]) (I2 := m.I) (J2 := m.J) (fun hT v kk => ?_) ?_
    · refine sh_j0 (c := .eq) (off := (7)) (pc2 := 95) false rfl (sh_Zeqf c) rfl ?_
      refine sh_w (i := (.iconst 1)) (len := 1) (pc2 := 96) (lv2 := [(3, .int (sh_b2 y0)), (0, .ref 40), (1, .int x1), (2, .int x2), (4, .int x4)]) (st2 := [.int 1, .int (m.I 39 4), .ref 40]) (h2 := (sh_rep m.T m.I m.J)) rfl rfl rfl ?_
      refine sh_w (i := (.goto 4)) (len := 3) (pc2 := 100) (lv2 := [(3, .int (sh_b2 y0)), (0, .ref 40), (1, .int x1), (2, .int x2), (4, .int x4)]) (st2 := [.int 1, .int (m.I 39 4), .ref 40]) (h2 := (sh_rep m.T m.I m.J)) rfl rfl rfl ?_
      exact kk
    exact sh_Lk_sub (sh_sub_c rfl (sh_sub_c rfl (sh_sub_c rfl (sh_sub_c rfl (sh_sub_c rfl (sh_sub_n)))))) (sl_51_100 e tg)
  · refine sh_Lk_lift (T := m.T) (I := m.I) (J := m.J) (s := m.s) (pc2 := 100) (lv2 := [(3, .int (sh_b2 y0)), (0, .ref 40), (1, .int x1), (2, .int x2), (4, .int x4)]) (st2 := [.int 0, .int (m.I 39 4), .ref 40]) (I2 := m.I) (J2 := m.J) (fun hT v kk => ?_) ?_
    · refine sh_j0 (c := .eq) (off := (7)) (pc2 := 99) true rfl (sh_Zeqt c) rfl ?_
      refine sh_w (i := (.iconst 0)) (len := 1) (pc2 := 100) (lv2 := [(3, .int (sh_b2 y0)), (0, .ref 40), (1, .int x1), (2, .int x2), (4, .int x4)]) (st2 := [.int 0, .int (m.I 39 4), .ref 40]) (h2 := (sh_rep m.T m.I m.J)) rfl rfl rfl ?_
      exact kk
    exact sh_Lk_sub (sh_sub_c rfl (sh_sub_c rfl (sh_sub_c rfl (sh_sub_c rfl (sh_sub_c rfl (sh_sub_n)))))) (sl_51_100 e tg)
theorem sl_51_41 {x1 : Int32} {x2 : Int32} {x4 : Int32} {m m2 : sh_X} {o : Outcome} {z : ((Int32 × Bool × Int32 × sh_X) ⊕ (Option Unit × sh_X))} (e : sf_51_41 x1 x2 x4 m = some z) (tg : (sh_el (fun q => sh_Lk 51 20 [(0, .ref 40), (1, .int x1), (2, .int q.1), (3, .int (sh_b2 q.2.1)), (4, .int q.2.2.1)] [] q.2.2.2 o m2 12 283) (sh_tVt o m2)) z) : sh_Lk 51 41 [(0, .ref 40), (1, .int x1), (2, .int x2), (4, .int x4)] [] m o m2 12 283 := by
  unfold sf_51_41 at e
  refine sh_Lk_lift (T := m.T) (I := m.I) (J := m.J) (s := m.s) (pc2 := 58) (lv2 := [(0, .ref 40), (1, .int x1), (2, .int x2), (4, .int x4)]) (st2 := [.int (m.I 39 4), .int ((x1 * 8) + x2), .ref 35]) (I2 := m.I) (J2 := m.J) (fun hT v kk => ?_) ?_
  · refine sh_w (i := (.aload_n 0)) (len := 1) (pc2 := 42) (lv2 := [(0, .ref 40), (1, .int x1), (2, .int x2), (4, .int x4)]) (st2 := [.ref 40]) (h2 := (sh_rep m.T m.I m.J)) rfl rfl rfl ?_
    refine sh_gR1 (len := 3) (x := .ref 29) (pc2 := 45) rfl rfl (sh_s39 hT.st) rfl rfl ?_
    refine sh_gR1 (len := 3) (x := .ref 35) (pc2 := 48) rfl rfl (sh_s28 hT.st) rfl rfl ?_
    refine sh_w (i := (.iload_n 1)) (len := 1) (pc2 := 49) (lv2 := [(0, .ref 40), (1, .int x1), (2, .int x2), (4, .int x4)]) (st2 := [.int x1, .ref 35]) (h2 := (sh_rep m.T m.I m.J)) rfl rfl rfl ?_
    refine sh_w (i := (.bipush 8)) (len := 2) (pc2 := 51) (lv2 := [(0, .ref 40), (1, .int x1), (2, .int x2), (4, .int x4)]) (st2 := [.int 8, .int x1, .ref 35]) (h2 := (sh_rep m.T m.I m.J)) rfl rfl rfl ?_
    refine sh_w (i := .imul) (len := 1) (pc2 := 52) (lv2 := [(0, .ref 40), (1, .int x1), (2, .int x2), (4, .int x4)]) (st2 := [.int (x1 * 8), .ref 35]) (h2 := (sh_rep m.T m.I m.J)) rfl rfl rfl ?_
    refine sh_w (i := (.iload_n 2)) (len := 1) (pc2 := 53) (lv2 := [(0, .ref 40), (1, .int x1), (2, .int x2), (4, .int x4)]) (st2 := [.int x2, .int (x1 * 8), .ref 35]) (h2 := (sh_rep m.T m.I m.J)) rfl rfl rfl ?_
    refine sh_w (i := .iadd) (len := 1) (pc2 := 54) (lv2 := [(0, .ref 40), (1, .int x1), (2, .int x2), (4, .int x4)]) (st2 := [.int ((x1 * 8) + x2), .ref 35]) (h2 := (sh_rep m.T m.I m.J)) rfl rfl rfl ?_
    refine sh_w (i := (.aload_n 0)) (len := 1) (pc2 := 55) (lv2 := [(0, .ref 40), (1, .int x1), (2, .int x2), (4, .int x4)]) (st2 := [.ref 40, .int ((x1 * 8) + x2), .ref 35]) (h2 := (sh_rep m.T m.I m.J)) rfl rfl rfl ?_
    refine sh_gI1 (len := 3) (x := m.I 39 4) (pc2 := 58) rfl rfl (sh_s39 hT.st) rfl rfl rfl ?_
    exact kk
  obtain ⟨c, e⟩ := sh_gd e
  refine sh_Lk_lift (T := m.T) (I := m.I) (J := m.J) (s := m.s) (pc2 := 64) (lv2 := [(2, .int (x2 + 1)), (0, .ref 40), (1, .int x1), (4, .int x4)]) (st2 := [.int 1, .ref 40]) (I2 := sh_u2 m.I 34 (Int32.toNatClampNeg ((x1 * 8) + x2)) (m.I 39 4)) (J2 := m.J) (fun hT v kk => ?_) ?_
  · refine sh_is1 (x := m.I 39 4) (i := (x1 * 8) + x2) (pc2 := 59) rfl (sh_s34 hT.st) (sh_okb1 c) (sh_okb2 c) rfl ?_
    refine sh_w (i := (.iinc 2 1)) (len := 3) (pc2 := 62) (lv2 := [(2, .int (x2 + 1)), (0, .ref 40), (1, .int x1), (4, .int x4)]) (st2 := []) (h2 := (sh_rep m.T (sh_u2 m.I 34 (Int32.toNatClampNeg ((x1 * 8) + x2)) (m.I 39 4)) m.J)) rfl rfl rfl ?_
    refine sh_w (i := (.aload_n 0)) (len := 1) (pc2 := 63) (lv2 := [(2, .int (x2 + 1)), (0, .ref 40), (1, .int x1), (4, .int x4)]) (st2 := [.ref 40]) (h2 := (sh_rep m.T (sh_u2 m.I 34 (Int32.toNatClampNeg ((x1 * 8) + x2)) (m.I 39 4)) m.J)) rfl rfl rfl ?_
    refine sh_w (i := (.iconst 1)) (len := 1) (pc2 := 64) (lv2 := [(2, .int (x2 + 1)), (0, .ref 40), (1, .int x1), (4, .int x4)]) (st2 := [.int 1, .ref 40]) (h2 := (sh_rep m.T (sh_u2 m.I 34 (Int32.toNatClampNeg ((x1 * 8) + x2)) (m.I 39 4)) m.J)) rfl rfl rfl ?_
    exact kk
  rcases sh_bt_e e with ⟨m11, e1, rfl⟩ | ⟨r1, m11, e1, e⟩
  · obtain ⟨rfl, rfl⟩ := tg
    exact sh_Lk_tV (k2 := 48) (a := 39) (as := [.ref 40, .int 1]) (rest := []) rfl rfl rfl (fun hT => (sh_s39 hT.st)) rfl rfl ⟨Nat.le_of_ble_eq_true rfl, Nat.le_of_ble_eq_true rfl⟩ (sl_48 e1 ⟨rfl, rfl⟩) rfl (Nat.le_of_ble_eq_true rfl) (Nat.le_of_ble_eq_true rfl) (Nat.le_of_ble_eq_true rfl) (Nat.le_of_ble_eq_true rfl) rfl
  refine sh_Lk_cV (r := none) (st2 := []) (pc2 := 67) (k2 := 48) (a := 39) (as := [.ref 40, .int 1]) (rest := []) rfl rfl rfl (fun hT => (sh_s39 hT.st)) rfl rfl ⟨Nat.le_of_ble_eq_true rfl, Nat.le_of_ble_eq_true rfl⟩ (sl_48 e1 ⟨rfl, rfl⟩) rfl rfl (Nat.le_of_ble_eq_true rfl) (Nat.le_of_ble_eq_true rfl) ?_
  refine sh_Lk_lift (T := m11.T) (I := m11.I) (J := m11.J) (s := m11.s) (pc2 := 68) (lv2 := [(2, .int (x2 + 1)), (0, .ref 40), (1, .int x1), (4, .int x4)]) (st2 := [.ref 40]) (I2 := m11.I) (J2 := m11.J) (fun hT v kk => ?_) ?_
  · refine sh_w (i := (.aload_n 0)) (len := 1) (pc2 := 68) (lv2 := [(2, .int (x2 + 1)), (0, .ref 40), (1, .int x1), (4, .int x4)]) (st2 := [.ref 40]) (h2 := (sh_rep m11.T m11.I m11.J)) rfl rfl rfl ?_
    exact kk
  rcases sh_bt_e e with ⟨m12, e2, rfl⟩ | ⟨r2, m12, e2, e⟩
  · obtain ⟨rfl, rfl⟩ := tg
    exact sh_Lk_tV (k2 := 52) (a := 39) (as := [.ref 40]) (rest := []) rfl rfl rfl (fun hT => (sh_s39 hT.st)) rfl rfl ⟨Nat.le_of_ble_eq_true rfl, Nat.le_of_ble_eq_true rfl⟩ (sl_52 e2 ⟨rfl, rfl⟩) rfl (Nat.le_of_ble_eq_true rfl) (Nat.le_of_ble_eq_true rfl) (Nat.le_of_ble_eq_true rfl) (Nat.le_of_ble_eq_true rfl) rfl
  refine sh_Lk_cV (r := none) (st2 := []) (pc2 := 71) (k2 := 52) (a := 39) (as := [.ref 40]) (rest := []) rfl rfl rfl (fun hT => (sh_s39 hT.st)) rfl rfl ⟨Nat.le_of_ble_eq_true rfl, Nat.le_of_ble_eq_true rfl⟩ (sl_52 e2 ⟨rfl, rfl⟩) rfl rfl (Nat.le_of_ble_eq_true rfl) (Nat.le_of_ble_eq_true rfl) ?_
  refine sh_Lk_lift (T := m12.T) (I := m12.I) (J := m12.J) (s := m12.s) (pc2 := 72) (lv2 := [(2, .int (x2 + 1)), (0, .ref 40), (1, .int x1), (4, .int x4)]) (st2 := [.ref 40]) (I2 := m12.I) (J2 := m12.J) (fun hT v kk => ?_) ?_
  · refine sh_w (i := (.aload_n 0)) (len := 1) (pc2 := 72) (lv2 := [(2, .int (x2 + 1)), (0, .ref 40), (1, .int x1), (4, .int x4)]) (st2 := [.ref 40]) (h2 := (sh_rep m12.T m12.I m12.J)) rfl rfl rfl ?_
    exact kk
  obtain ⟨r3, e3, e⟩ := sh_bc_e e
  refine sh_Lk_cV (r := (some (.int r3))) (st2 := [.int r3]) (pc2 := 75) (k2 := 45) (a := 39) (as := [.ref 40]) (rest := []) rfl rfl rfl (fun hT => (sh_s39 hT.st)) rfl rfl ⟨Nat.le_of_ble_eq_true rfl, Nat.le_of_ble_eq_true rfl⟩ (sl_45 e3 ⟨rfl, rfl⟩) rfl rfl (Nat.le_of_ble_eq_true rfl) (Nat.le_of_ble_eq_true rfl) ?_
  refine sh_Lk_lift (T := m12.T) (I := m12.I) (J := m12.J) (s := m12.s) (pc2 := 77) (lv2 := [(2, .int (x2 + 1)), (0, .ref 40), (1, .int x1), (4, .int x4)]) (st2 := [.int 44, .int r3]) (I2 := m12.I) (J2 := m12.J) (fun hT v kk => ?_) ?_
  · refine sh_w (i := (.bipush 44)) (len := 2) (pc2 := 77) (lv2 := [(2, .int (x2 + 1)), (0, .ref 40), (1, .int x1), (4, .int x4)]) (st2 := [.int 44, .int r3]) (h2 := (sh_rep m12.T m12.I m12.J)) rfl rfl rfl ?_
    exact kk
  rcases sh_ite e with ⟨c, e⟩ | ⟨c, e⟩
  · refine sh_Lk_lift (T := m12.T) (I := m12.I) (J := m12.J) (s := m12.s) (pc2 := 85) (lv2 := [(2, .int (x2 + 1)), (0, .ref 40), (1, .int x1), (4, .int x4)]) (st2 := [.int 1]) (I2 := m12.I) (J2 := m12.J) (fun hT v kk => ?_) ?_
    · refine sh_jc (c := .ne) (off := (7)) (pc2 := 80) false rfl (sh_Bnef c) rfl ?_
      refine sh_w (i := (.iconst 1)) (len := 1) (pc2 := 81) (lv2 := [(2, .int (x2 + 1)), (0, .ref 40), (1, .int x1), (4, .int x4)]) (st2 := [.int 1]) (h2 := (sh_rep m12.T m12.I m12.J)) rfl rfl rfl ?_
      refine sh_w (i := (.goto 4)) (len := 3) (pc2 := 85) (lv2 := [(2, .int (x2 + 1)), (0, .ref 40), (1, .int x1), (4, .int x4)]) (st2 := [.int 1]) (h2 := (sh_rep m12.T m12.I m12.J)) rfl rfl rfl ?_
      exact kk
    exact sh_Lk_sub (sh_sub_c rfl (sh_sub_c rfl (sh_sub_c rfl (sh_sub_c rfl (sh_sub_n))))) (sl_51_85 e tg)
  · refine sh_Lk_lift (T := m12.T) (I := m12.I) (J := m12.J) (s := m12.s) (pc2 := 85) (lv2 := [(2, .int (x2 + 1)), (0, .ref 40), (1, .int x1), (4, .int x4)]) (st2 := [.int 0]) (I2 := m12.I) (J2 := m12.J) (fun hT v kk => ?_) ?_
    · refine sh_jc (c := .ne) (off := (7)) (pc2 := 84) true rfl (sh_Bnet c) rfl ?_
      refine sh_w (i := (.iconst 0)) (len := 1) (pc2 := 85) (lv2 := [(2, .int (x2 + 1)), (0, .ref 40), (1, .int x1), (4, .int x4)]) (st2 := [.int 0]) (h2 := (sh_rep m12.T m12.I m12.J)) rfl rfl rfl ?_
      exact kk
    exact sh_Lk_sub (sh_sub_c rfl (sh_sub_c rfl (sh_sub_c rfl (sh_sub_c rfl (sh_sub_n))))) (sl_51_85 e tg)
theorem sl_51_110 {x1 : Int32} {x2 : Int32} {m m2 : sh_X} {o : Outcome} {z : (Option Unit × sh_X)} (e : sf_51_110 x1 x2 m = some z) (tg : (sh_tVt o m2) z) : sh_Lk 51 110 [(0, .ref 40), (1, .int x1), (2, .int x2)] [] m o m2 12 283 := by
  unfold sf_51_110 at e
  refine sh_Lk_lift (T := m.T) (I := m.I) (J := m.J) (s := m.s) (pc2 := 119) (lv2 := [(0, .ref 40), (1, .int x1), (2, .int x2)]) (st2 := [.int x2, .int x1, .ref 34]) (I2 := m.I) (J2 := m.J) (fun hT v kk => ?_) ?_
  · refine sh_w (i := (.aload_n 0)) (len := 1) (pc2 := 111) (lv2 := [(0, .ref 40), (1, .int x1), (2, .int x2)]) (st2 := [.ref 40]) (h2 := (sh_rep m.T m.I m.J)) rfl rfl rfl ?_
    refine sh_gR1 (len := 3) (x := .ref 29) (pc2 := 114) rfl rfl (sh_s39 hT.st) rfl rfl ?_
    refine sh_gR1 (len := 3) (x := .ref 34) (pc2 := 117) rfl rfl (sh_s28 hT.st) rfl rfl ?_
    refine sh_w (i := (.iload_n 1)) (len := 1) (pc2 := 118) (lv2 := [(0, .ref 40), (1, .int x1), (2, .int x2)]) (st2 := [.int x1, .ref 34]) (h2 := (sh_rep m.T m.I m.J)) rfl rfl rfl ?_
    refine sh_w (i := (.iload_n 2)) (len := 1) (pc2 := 119) (lv2 := [(0, .ref 40), (1, .int x1), (2, .int x2)]) (st2 := [.int x2, .int x1, .ref 34]) (h2 := (sh_rep m.T m.I m.J)) rfl rfl rfl ?_
    exact kk
  obtain ⟨c, e⟩ := sh_gd e
  refine sh_Lk_lift (T := m.T) (I := m.I) (J := m.J) (s := m.s) (pc2 := 120) (lv2 := [(0, .ref 40), (1, .int x1), (2, .int x2)]) (st2 := []) (I2 := sh_u2 m.I 33 (Int32.toNatClampNeg x1) x2) (J2 := m.J) (fun hT v kk => ?_) ?_
  · refine sh_is1 (x := x2) (i := x1) (pc2 := 120) rfl (sh_s33 hT.st) (sh_okb1 c) (sh_okb2 c) rfl ?_
    exact kk
  obtain rfl := Option.some.inj e
  obtain ⟨rfl, rfl⟩ := tg
  exact sh_Lk_ret (i := .return_) rfl rfl rfl (Nat.le_of_ble_eq_true rfl) (Nat.le_of_ble_eq_true rfl)
theorem sl_51_20s {x1 : Int32} {x2 : Int32} {x3 : Bool} {x4 : Int32} {m m2 : sh_X} {o : Outcome} {z : ((Int32 × Bool × Int32 × sh_X) ⊕ (Option Unit × sh_X))} (e : sf_51_20s x1 x2 x3 x4 m = some z) (tg : (sh_el (fun q => sh_Lk 51 20 [(0, .ref 40), (1, .int x1), (2, .int q.1), (3, .int (sh_b2 q.2.1)), (4, .int q.2.2.1)] [] q.2.2.2 o m2 12 283) (sh_tVt o m2)) z) : sh_Lk 51 20 [(0, .ref 40), (1, .int x1), (2, .int x2), (3, .int (sh_b2 x3)), (4, .int x4)] [] m o m2 12 283 := by
  unfold sf_51_20s at e
  refine sh_Lk_lift (T := m.T) (I := m.I) (J := m.J) (s := m.s) (pc2 := 24) (lv2 := [(0, .ref 40), (1, .int x1), (2, .int x2), (3, .int (sh_b2 x3)), (4, .int x4)]) (st2 := [.int 8, .int x4]) (I2 := m.I) (J2 := m.J) (fun hT v kk => ?_) ?_
  · refine sh_w (i := (.iload 4)) (len := 2) (pc2 := 22) (lv2 := [(0, .ref 40), (1, .int x1), (2, .int x2), (3, .int (sh_b2 x3)), (4, .int x4)]) (st2 := [.int x4]) (h2 := (sh_rep m.T m.I m.J)) rfl rfl rfl ?_
    refine sh_w (i := (.bipush 8)) (len := 2) (pc2 := 24) (lv2 := [(0, .ref 40), (1, .int x1), (2, .int x2), (3, .int (sh_b2 x3)), (4, .int x4)]) (st2 := [.int 8, .int x4]) (h2 := (sh_rep m.T m.I m.J)) rfl rfl rfl ?_
    exact kk
  rcases sh_ite e with ⟨c, e⟩ | ⟨c, e⟩
  · refine sh_Lk_lift (T := m.T) (I := m.I) (J := m.J) (s := m.s) (pc2 := 110) (lv2 := [(0, .ref 40), (1, .int x1), (2, .int x2), (3, .int (sh_b2 x3)), (4, .int x4)]) (st2 := []) (I2 := m.I) (J2 := m.J) (fun hT v kk => ?_) ?_
    · refine sh_jc (c := .gt) (off := (86)) (pc2 := 110) true rfl (sh_Bgtt c) rfl ?_
      exact kk
    obtain ⟨_, eu, rfl⟩ := sh_up_e e
    exact sh_Lk_sub (sh_sub_c rfl (sh_sub_c rfl (sh_sub_c rfl (sh_sub_n)))) (sl_51_110 eu tg)
  · refine sh_Lk_lift (T := m.T) (I := m.I) (J := m.J) (s := m.s) (pc2 := 28) (lv2 := [(0, .ref 40), (1, .int x1), (2, .int x2), (3, .int (sh_b2 x3)), (4, .int x4)]) (st2 := [.int (sh_b2 x3)]) (I2 := m.I) (J2 := m.J) (fun hT v kk => ?_) ?_
    · refine sh_jc (c := .gt) (off := (86)) (pc2 := 27) false rfl (sh_Bgtf c) rfl ?_
      refine sh_w (i := (.iload_n 3)) (len := 1) (pc2 := 28) (lv2 := [(0, .ref 40), (1, .int x1), (2, .int x2), (3, .int (sh_b2 x3)), (4, .int x4)]) (st2 := [.int (sh_b2 x3)]) (h2 := (sh_rep m.T m.I m.J)) rfl rfl rfl ?_
      exact kk
    rcases sh_ite e with ⟨c, e⟩ | ⟨c, e⟩
    · refine sh_Lk_lift (T := m.T) (I := m.I) (J := m.J) (s := m.s) (pc2 := 34) (lv2 := [(0, .ref 40), (1, .int x1), (2, .int x2), (3, .int (sh_b2 x3)), (4, .int x4)]) (st2 := [.int 8, .int x2]) (I2 := m.I) (J2 := m.J) (fun hT v kk => ?_) ?_
      · refine sh_j0 (c := .eq) (off := (82)) (pc2 := 31) false rfl (sh_Zeqf c) rfl ?_
        refine sh_w (i := (.iload_n 2)) (len := 1) (pc2 := 32) (lv2 := [(0, .ref 40), (1, .int x1), (2, .int x2), (3, .int (sh_b2 x3)), (4, .int x4)]) (st2 := [.int x2]) (h2 := (sh_rep m.T m.I m.J)) rfl rfl rfl ?_
        refine sh_w (i := (.bipush 8)) (len := 2) (pc2 := 34) (lv2 := [(0, .ref 40), (1, .int x1), (2, .int x2), (3, .int (sh_b2 x3)), (4, .int x4)]) (st2 := [.int 8, .int x2]) (h2 := (sh_rep m.T m.I m.J)) rfl rfl rfl ?_
        exact kk
      rcases sh_ite e with ⟨c, e⟩ | ⟨c, e⟩
      · refine sh_Lk_lift (T := m.T) (I := m.I) (J := m.J) (s := m.s) (pc2 := 38) (lv2 := [(0, .ref 40), (1, .int x1), (2, .int x2), (3, .int (sh_b2 x3)), (4, .int x4)]) (st2 := [.ref 40]) (I2 := m.I) (J2 := m.J) (fun hT v kk => ?_) ?_
        · refine sh_jc (c := .ne) (off := (7)) (pc2 := 37) false rfl (sh_Bnef c) rfl ?_
          refine sh_w (i := (.aload_n 0)) (len := 1) (pc2 := 38) (lv2 := [(0, .ref 40), (1, .int x1), (2, .int x2), (3, .int (sh_b2 x3)), (4, .int x4)]) (st2 := [.ref 40]) (h2 := (sh_rep m.T m.I m.J)) rfl rfl rfl ?_
          exact kk
        rcases sh_bt_e e with ⟨m11, e1, rfl⟩ | ⟨r1, m11, e1, e⟩
        · obtain ⟨rfl, rfl⟩ := tg
          exact sh_Lk_tV (k2 := 49) (a := 39) (as := [.ref 40]) (rest := []) rfl rfl rfl (fun hT => (sh_s39 hT.st)) rfl rfl ⟨Nat.le_of_ble_eq_true rfl, Nat.le_of_ble_eq_true rfl⟩ (sl_49 e1 ⟨rfl, rfl⟩) rfl (Nat.le_of_ble_eq_true rfl) (Nat.le_of_ble_eq_true rfl) (Nat.le_of_ble_eq_true rfl) (Nat.le_of_ble_eq_true rfl) rfl
        refine sh_Lk_cV (r := none) (st2 := []) (pc2 := 41) (k2 := 49) (a := 39) (as := [.ref 40]) (rest := []) rfl rfl rfl (fun hT => (sh_s39 hT.st)) rfl rfl ⟨Nat.le_of_ble_eq_true rfl, Nat.le_of_ble_eq_true rfl⟩ (sl_49 e1 ⟨rfl, rfl⟩) rfl rfl (Nat.le_of_ble_eq_true rfl) (Nat.le_of_ble_eq_true rfl) ?_
        exact sh_Lk_sub (sh_sub_c rfl (sh_sub_c rfl (sh_sub_c rfl (sh_sub_c rfl (sh_sub_n))))) (sl_51_41 e tg)
      · refine sh_Lk_lift (T := m.T) (I := m.I) (J := m.J) (s := m.s) (pc2 := 41) (lv2 := [(0, .ref 40), (1, .int x1), (2, .int x2), (3, .int (sh_b2 x3)), (4, .int x4)]) (st2 := []) (I2 := m.I) (J2 := m.J) (fun hT v kk => ?_) ?_
        · refine sh_jc (c := .ne) (off := (7)) (pc2 := 41) true rfl (sh_Bnet c) rfl ?_
          exact kk
        exact sh_Lk_sub (sh_sub_c rfl (sh_sub_c rfl (sh_sub_c rfl (sh_sub_c rfl (sh_sub_n))))) (sl_51_41 e tg)
    · refine sh_Lk_lift (T := m.T) (I := m.I) (J := m.J) (s := m.s) (pc2 := 110) (lv2 := [(0, .ref 40), (1, .int x1), (2, .int x2), (3, .int (sh_b2 x3)), (4, .int x4)]) (st2 := []) (I2 := m.I) (J2 := m.J) (fun hT v kk => ?_) ?_
      · refine sh_j0 (c := .eq) (off := (82)) (pc2 := 110) true rfl (sh_Zeqt c) rfl ?_
        exact kk
      obtain ⟨_, eu, rfl⟩ := sh_up_e e
      exact sh_Lk_sub (sh_sub_c rfl (sh_sub_c rfl (sh_sub_c rfl (sh_sub_n)))) (sl_51_110 eu tg)
theorem sl_51_20 {x1 : Int32} {x2 : Int32} {x3 : Bool} {x4 : Int32} {m m2 : sh_X} {o : Outcome} {z : (Option Unit × sh_X)} (e : sf_51_20 x1 x2 x3 x4 m = some z) (tg : (sh_tVt o m2) z) : sh_Lk 51 20 [(0, .ref 40), (1, .int x1), (2, .int x2), (3, .int (sh_b2 x3)), (4, .int x4)] [] m o m2 12 283 := by
  unfold sf_51_20 at e
  exact sh_while_lk (P := fun q => sh_Lk 51 20 [(0, .ref 40), (1, .int x1), (2, .int q.1), (3, .int (sh_b2 q.2.1)), (4, .int q.2.2.1)] [] q.2.2.2 o m2 12 283) (Q := (sh_tVt o m2)) (fun q z e tg => sl_51_20s (x1 := x1) (x2 := q.1) (x3 := q.2.1) (x4 := q.2.2.1) (m := q.2.2.2) e tg) (s := (x2, x3, x4, m)) e tg
theorem sl_51_16 {x1 : Int32} {x2 : Bool} {y0 : Bool} {m m2 : sh_X} {o : Outcome} {z : (Option Unit × sh_X)} (e : sf_51_16 x1 x2 y0 m = some z) (tg : (sh_tVt o m2) z) : sh_Lk 51 16 [(0, .ref 40), (1, .int x1), (2, .int (sh_b2 x2))] [.int (sh_b2 y0)] m o m2 12 283 := by
  unfold sf_51_16 at e
  refine sh_Lk_lift (T := m.T) (I := m.I) (J := m.J) (s := m.s) (pc2 := 20) (lv2 := [(4, .int 0), (3, .int (sh_b2 y0)), (0, .ref 40), (1, .int x1), (2, .int (sh_b2 x2))]) (st2 := []) (I2 := m.I) (J2 := m.J) (fun hT v kk => ?_) ?_
  · refine sh_w (i := (.istore_n 3)) (len := 1) (pc2 := 17) (lv2 := [(3, .int (sh_b2 y0)), (0, .ref 40), (1, .int x1), (2, .int (sh_b2 x2))]) (st2 := []) (h2 := (sh_rep m.T m.I m.J)) rfl rfl rfl ?_
    refine sh_w (i := (.iconst 0)) (len := 1) (pc2 := 18) (lv2 := [(3, .int (sh_b2 y0)), (0, .ref 40), (1, .int x1), (2, .int (sh_b2 x2))]) (st2 := [.int 0]) (h2 := (sh_rep m.T m.I m.J)) rfl rfl rfl ?_
    refine sh_w (i := (.istore 4)) (len := 2) (pc2 := 20) (lv2 := [(4, .int 0), (3, .int (sh_b2 y0)), (0, .ref 40), (1, .int x1), (2, .int (sh_b2 x2))]) (st2 := []) (h2 := (sh_rep m.T m.I m.J)) rfl rfl rfl ?_
    exact kk
  exact sh_Lk_sub (sh_sub_c rfl (sh_sub_c rfl (sh_sub_c rfl (sh_sub_c rfl (sh_sub_c rfl (sh_sub_n)))))) (sl_51_20 e tg)
theorem sl_51 {x1 : Int32} {m m2 : sh_X} {o : Outcome} {z : (Option Unit × sh_X)} (e : sf_51 x1 m = some z) (tg : (sh_tVt o m2) z) : sh_Lk 51 0 [(0, .ref 40), (1, .int x1)] [] m o m2 12 283 := by
  unfold sf_51 at e
  refine sh_Lk_lift (T := m.T) (I := m.I) (J := m.J) (s := m.s) (pc2 := 3) (lv2 := [(2, .int 0), (0, .ref 40), (1, .int x1)]) (st2 := [.ref 40]) (I2 := m.I) (J2 := m.J) (fun hT v kk => ?_) ?_
  · refine sh_w (i := (.iconst 0)) (len := 1) (pc2 := 1) (lv2 := [(0, .ref 40), (1, .int x1)]) (st2 := [.int 0]) (h2 := (sh_rep m.T m.I m.J)) rfl rfl rfl ?_
    refine sh_w (i := (.istore_n 2)) (len := 1) (pc2 := 2) (lv2 := [(2, .int 0), (0, .ref 40), (1, .int x1)]) (st2 := []) (h2 := (sh_rep m.T m.I m.J)) rfl rfl rfl ?_
    refine sh_w (i := (.aload_n 0)) (len := 1) (pc2 := 3) (lv2 := [(2, .int 0), (0, .ref 40), (1, .int x1)]) (st2 := [.ref 40]) (h2 := (sh_rep m.T m.I m.J)) rfl rfl rfl ?_
    exact kk
  obtain ⟨r1, e1, e⟩ := sh_bc_e e
  refine sh_Lk_cV (r := (some (.int r1))) (st2 := [.int r1]) (pc2 := 6) (k2 := 45) (a := 39) (as := [.ref 40]) (rest := []) rfl rfl rfl (fun hT => (sh_s39 hT.st)) rfl rfl ⟨Nat.le_of_ble_eq_true rfl, Nat.le_of_ble_eq_true rfl⟩ (sl_45 e1 ⟨rfl, rfl⟩) rfl rfl (Nat.le_of_ble_eq_true rfl) (Nat.le_of_ble_eq_true rfl) ?_
  refine sh_Lk_lift (T := m.T) (I := m.I) (J := m.J) (s := m.s) (pc2 := 8) (lv2 := [(2, .int 0), (0, .ref 40), (1, .int x1)]) (st2 := [.int 41, .int r1]) (I2 := m.I) (J2 := m.J) (fun hT v kk => ?_) ?_
  · refine sh_w (i := (.bipush 41)) (len := 2) (pc2 := 8) (lv2 := [(2, .int 0), (0, .ref 40), (1, .int x1)]) (st2 := [.int 41, .int r1]) (h2 := (sh_rep m.T m.I m.J)) rfl rfl rfl ?_
    exact kk
  rcases sh_ite e with ⟨c, e⟩ | ⟨c, e⟩
  · refine sh_Lk_lift (T := m.T) (I := m.I) (J := m.J) (s := m.s) (pc2 := 16) (lv2 := [(2, .int 0), (0, .ref 40), (1, .int x1)]) (st2 := [.int 0]) (I2 := m.I) (J2 := m.J) (fun hT v kk => ?_) ?_
    · refine sh_jc (c := .eq) (off := (7)) (pc2 := 15) true rfl (sh_Beqt c) rfl ?_
      refine sh_w (i := (.iconst 0)) (len := 1) (pc2 := 16) (lv2 := [(2, .int 0), (0, .ref 40), (1, .int x1)]) (st2 := [.int 0]) (h2 := (sh_rep m.T m.I m.J)) rfl rfl rfl ?_
      exact kk
    exact sh_Lk_sub (sh_sub_c rfl (sh_sub_c rfl (sh_sub_c rfl (sh_sub_n)))) (sl_51_16 e tg)
  · refine sh_Lk_lift (T := m.T) (I := m.I) (J := m.J) (s := m.s) (pc2 := 16) (lv2 := [(2, .int 0), (0, .ref 40), (1, .int x1)]) (st2 := [.int 1]) (I2 := m.I) (J2 := m.J) (fun hT v kk => ?_) ?_
    · refine sh_jc (c := .eq) (off := (7)) (pc2 := 11) false rfl (sh_Beqf c) rfl ?_
      refine sh_w (i := (.iconst 1)) (len := 1) (pc2 := 12) (lv2 := [(2, .int 0), (0, .ref 40), (1, .int x1)]) (st2 := [.int 1]) (h2 := (sh_rep m.T m.I m.J)) rfl rfl rfl ?_
      refine sh_w (i := (.goto 4)) (len := 3) (pc2 := 16) (lv2 := [(2, .int 0), (0, .ref 40), (1, .int x1)]) (st2 := [.int 1]) (h2 := (sh_rep m.T m.I m.J)) rfl rfl rfl ?_
      exact kk
    exact sh_Lk_sub (sh_sub_c rfl (sh_sub_c rfl (sh_sub_c rfl (sh_sub_n)))) (sl_51_16 e tg)
theorem sl_54_29 {m m2 : sh_X} {o : Outcome} {z : Bool} (e : sf_54_29 = z) (tg : (sh_tZc m o m2) z) : sh_Lk 54 29 [] [] m o m2 8 200 := by
  unfold sf_54_29 at e
  refine sh_Lk_lift (T := m.T) (I := m.I) (J := m.J) (s := m.s) (pc2 := 34) (lv2 := []) (st2 := [.int 1]) (I2 := m.I) (J2 := m.J) (fun hT v kk => ?_) ?_
  · refine sh_w (i := (.iconst 1)) (len := 1) (pc2 := 30) (lv2 := []) (st2 := [.int 1]) (h2 := (sh_rep m.T m.I m.J)) rfl rfl rfl ?_
    refine sh_w (i := (.goto 4)) (len := 3) (pc2 := 34) (lv2 := []) (st2 := [.int 1]) (h2 := (sh_rep m.T m.I m.J)) rfl rfl rfl ?_
    exact kk
  obtain rfl := e
  obtain ⟨rfl, rfl⟩ := tg
  exact sh_Lk_ret (i := .ireturn) rfl rfl rfl (Nat.le_of_ble_eq_true rfl) (Nat.le_of_ble_eq_true rfl)
theorem sl_54 {x0 : Int32} {m m2 : sh_X} {o : Outcome} {z : Bool} (e : sf_54 x0 = z) (tg : (sh_tZc m o m2) z) : sh_Lk 54 0 [(0, .int x0)] [] m o m2 8 200 := by
  unfold sf_54 at e
  refine sh_Lk_lift (T := m.T) (I := m.I) (J := m.J) (s := m.s) (pc2 := 3) (lv2 := [(0, .int x0)]) (st2 := [.int 12, .int x0]) (I2 := m.I) (J2 := m.J) (fun hT v kk => ?_) ?_
  · refine sh_w (i := (.iload_n 0)) (len := 1) (pc2 := 1) (lv2 := [(0, .int x0)]) (st2 := [.int x0]) (h2 := (sh_rep m.T m.I m.J)) rfl rfl rfl ?_
    refine sh_w (i := (.bipush 12)) (len := 2) (pc2 := 3) (lv2 := [(0, .int x0)]) (st2 := [.int 12, .int x0]) (h2 := (sh_rep m.T m.I m.J)) rfl rfl rfl ?_
    exact kk
  rcases sh_ite e with ⟨c, e⟩ | ⟨c, e⟩
  · refine sh_Lk_lift (T := m.T) (I := m.I) (J := m.J) (s := m.s) (pc2 := 29) (lv2 := [(0, .int x0)]) (st2 := []) (I2 := m.I) (J2 := m.J) (fun hT v kk => ?_) ?_
    · refine sh_jc (c := .eq) (off := (26)) (pc2 := 29) true rfl (sh_Beqt c) rfl ?_
      exact kk
    exact sh_Lk_sub (sh_sub_n) (sl_54_29 e tg)
  · refine sh_Lk_lift (T := m.T) (I := m.I) (J := m.J) (s := m.s) (pc2 := 8) (lv2 := [(0, .int x0)]) (st2 := [.int 1, .int x0]) (I2 := m.I) (J2 := m.J) (fun hT v kk => ?_) ?_
    · refine sh_jc (c := .eq) (off := (26)) (pc2 := 6) false rfl (sh_Beqf c) rfl ?_
      refine sh_w (i := (.iload_n 0)) (len := 1) (pc2 := 7) (lv2 := [(0, .int x0)]) (st2 := [.int x0]) (h2 := (sh_rep m.T m.I m.J)) rfl rfl rfl ?_
      refine sh_w (i := (.iconst 1)) (len := 1) (pc2 := 8) (lv2 := [(0, .int x0)]) (st2 := [.int 1, .int x0]) (h2 := (sh_rep m.T m.I m.J)) rfl rfl rfl ?_
      exact kk
    rcases sh_ite e with ⟨c, e⟩ | ⟨c, e⟩
    · refine sh_Lk_lift (T := m.T) (I := m.I) (J := m.J) (s := m.s) (pc2 := 29) (lv2 := [(0, .int x0)]) (st2 := []) (I2 := m.I) (J2 := m.J) (fun hT v kk => ?_) ?_
      · refine sh_jc (c := .eq) (off := (21)) (pc2 := 29) true rfl (sh_Beqt c) rfl ?_
        exact kk
      exact sh_Lk_sub (sh_sub_n) (sl_54_29 e tg)
    · refine sh_Lk_lift (T := m.T) (I := m.I) (J := m.J) (s := m.s) (pc2 := 14) (lv2 := [(0, .int x0)]) (st2 := [.int 10, .int x0]) (I2 := m.I) (J2 := m.J) (fun hT v kk => ?_) ?_
      · refine sh_jc (c := .eq) (off := (21)) (pc2 := 11) false rfl (sh_Beqf c) rfl ?_
        refine sh_w (i := (.iload_n 0)) (len := 1) (pc2 := 12) (lv2 := [(0, .int x0)]) (st2 := [.int x0]) (h2 := (sh_rep m.T m.I m.J)) rfl rfl rfl ?_
        refine sh_w (i := (.bipush 10)) (len := 2) (pc2 := 14) (lv2 := [(0, .int x0)]) (st2 := [.int 10, .int x0]) (h2 := (sh_rep m.T m.I m.J)) rfl rfl rfl ?_
        exact kk
      rcases sh_ite e with ⟨c, e⟩ | ⟨c, e⟩
      · refine sh_Lk_lift (T := m.T) (I := m.I) (J := m.J) (s := m.s) (pc2 := 29) (lv2 := [(0, .int x0)]) (st2 := []) (I2 := m.I) (J2 := m.J) (fun hT v kk => ?_) ?_
        · refine sh_jc (c := .eq) (off := (15)) (pc2 := 29) true rfl (sh_Beqt c) rfl ?_
          exact kk
        exact sh_Lk_sub (sh_sub_n) (sl_54_29 e tg)
      · refine sh_Lk_lift (T := m.T) (I := m.I) (J := m.J) (s := m.s) (pc2 := 20) (lv2 := [(0, .int x0)]) (st2 := [.int 9, .int x0]) (I2 := m.I) (J2 := m.J) (fun hT v kk => ?_) ?_
        · refine sh_jc (c := .eq) (off := (15)) (pc2 := 17) false rfl (sh_Beqf c) rfl ?_
          refine sh_w (i := (.iload_n 0)) (len := 1) (pc2 := 18) (lv2 := [(0, .int x0)]) (st2 := [.int x0]) (h2 := (sh_rep m.T m.I m.J)) rfl rfl rfl ?_
          refine sh_w (i := (.bipush 9)) (len := 2) (pc2 := 20) (lv2 := [(0, .int x0)]) (st2 := [.int 9, .int x0]) (h2 := (sh_rep m.T m.I m.J)) rfl rfl rfl ?_
          exact kk
        rcases sh_ite e with ⟨c, e⟩ | ⟨c, e⟩
        · refine sh_Lk_lift (T := m.T) (I := m.I) (J := m.J) (s := m.s) (pc2 := 29) (lv2 := [(0, .int x0)]) (st2 := []) (I2 := m.I) (J2 := m.J) (fun hT v kk => ?_) ?_
          · refine sh_jc (c := .eq) (off := (9)) (pc2 := 29) true rfl (sh_Beqt c) rfl ?_
            exact kk
          exact sh_Lk_sub (sh_sub_n) (sl_54_29 e tg)
        · refine sh_Lk_lift (T := m.T) (I := m.I) (J := m.J) (s := m.s) (pc2 := 26) (lv2 := [(0, .int x0)]) (st2 := [.int 13, .int x0]) (I2 := m.I) (J2 := m.J) (fun hT v kk => ?_) ?_
          · refine sh_jc (c := .eq) (off := (9)) (pc2 := 23) false rfl (sh_Beqf c) rfl ?_
            refine sh_w (i := (.iload_n 0)) (len := 1) (pc2 := 24) (lv2 := [(0, .int x0)]) (st2 := [.int x0]) (h2 := (sh_rep m.T m.I m.J)) rfl rfl rfl ?_
            refine sh_w (i := (.bipush 13)) (len := 2) (pc2 := 26) (lv2 := [(0, .int x0)]) (st2 := [.int 13, .int x0]) (h2 := (sh_rep m.T m.I m.J)) rfl rfl rfl ?_
            exact kk
          rcases sh_ite e with ⟨c, e⟩ | ⟨c, e⟩
          · refine sh_Lk_lift (T := m.T) (I := m.I) (J := m.J) (s := m.s) (pc2 := 29) (lv2 := [(0, .int x0)]) (st2 := []) (I2 := m.I) (J2 := m.J) (fun hT v kk => ?_) ?_
            · refine sh_jc (c := .ne) (off := (7)) (pc2 := 29) false rfl (sh_Bnef c) rfl ?_
              exact kk
            exact sh_Lk_sub (sh_sub_n) (sl_54_29 e tg)
          · refine sh_Lk_lift (T := m.T) (I := m.I) (J := m.J) (s := m.s) (pc2 := 34) (lv2 := [(0, .int x0)]) (st2 := [.int 0]) (I2 := m.I) (J2 := m.J) (fun hT v kk => ?_) ?_
            · refine sh_jc (c := .ne) (off := (7)) (pc2 := 33) true rfl (sh_Bnet c) rfl ?_
              refine sh_w (i := (.iconst 0)) (len := 1) (pc2 := 34) (lv2 := [(0, .int x0)]) (st2 := [.int 0]) (h2 := (sh_rep m.T m.I m.J)) rfl rfl rfl ?_
              exact kk
            obtain rfl := e
            obtain ⟨rfl, rfl⟩ := tg
            exact sh_Lk_ret (i := .ireturn) rfl rfl rfl (Nat.le_of_ble_eq_true rfl) (Nat.le_of_ble_eq_true rfl)
theorem sl_56 {x1 : Int32} {x2 : Int32} {x3 : Int32} {m m2 : sh_X} {o : Outcome} {z : (Int32 × sh_X)} (e : sf_56 x1 x2 x3 m = some z) (tg : (sh_tI o m2) z) : sh_Lk 56 0 [(0, .ref 29), (1, .int x1), (2, .int x2), (3, .int x3)] [] m o m2 8 200 := by
  unfold sf_56 at e
  refine sh_Lk_lift (T := m.T) (I := m.I) (J := m.J) (s := m.s) (pc2 := 7) (lv2 := [(0, .ref 29), (1, .int x1), (2, .int x2), (3, .int x3)]) (st2 := [.int 6000, .int (m.I 28 10)]) (I2 := m.I) (J2 := m.J) (fun hT v kk => ?_) ?_
  · refine sh_w (i := (.aload_n 0)) (len := 1) (pc2 := 1) (lv2 := [(0, .ref 29), (1, .int x1), (2, .int x2), (3, .int x3)]) (st2 := [.ref 29]) (h2 := (sh_rep m.T m.I m.J)) rfl rfl rfl ?_
    refine sh_gI1 (len := 3) (x := m.I 28 10) (pc2 := 4) rfl rfl (sh_s28 hT.st) rfl rfl rfl ?_
    refine sh_w (i := (.sipush 6000)) (len := 3) (pc2 := 7) (lv2 := [(0, .ref 29), (1, .int x1), (2, .int x2), (3, .int x3)]) (st2 := [.int 6000, .int (m.I 28 10)]) (h2 := (sh_rep m.T m.I m.J)) rfl rfl rfl ?_
    exact kk
  rcases sh_ite e with ⟨c, e⟩ | ⟨c, e⟩
  · refine sh_Lk_lift (T := m.T) (I := m.I) (J := m.J) (s := m.s) (pc2 := 21) (lv2 := [(0, .ref 29), (1, .int x1), (2, .int x2), (3, .int x3)]) (st2 := [.int x1, .int (m.I 28 10), .ref 37]) (I2 := m.I) (J2 := m.J) (fun hT v kk => ?_) ?_
    · refine sh_jc (c := .lt) (off := (5)) (pc2 := 12) true rfl (sh_Bltt c) rfl ?_
      refine sh_w (i := (.aload_n 0)) (len := 1) (pc2 := 13) (lv2 := [(0, .ref 29), (1, .int x1), (2, .int x2), (3, .int x3)]) (st2 := [.ref 29]) (h2 := (sh_rep m.T m.I m.J)) rfl rfl rfl ?_
      refine sh_gR1 (len := 3) (x := .ref 37) (pc2 := 16) rfl rfl (sh_s28 hT.st) rfl rfl ?_
      refine sh_w (i := (.aload_n 0)) (len := 1) (pc2 := 17) (lv2 := [(0, .ref 29), (1, .int x1), (2, .int x2), (3, .int x3)]) (st2 := [.ref 29, .ref 37]) (h2 := (sh_rep m.T m.I m.J)) rfl rfl rfl ?_
      refine sh_gI1 (len := 3) (x := m.I 28 10) (pc2 := 20) rfl rfl (sh_s28 hT.st) rfl rfl rfl ?_
      refine sh_w (i := (.iload_n 1)) (len := 1) (pc2 := 21) (lv2 := [(0, .ref 29), (1, .int x1), (2, .int x2), (3, .int x3)]) (st2 := [.int x1, .int (m.I 28 10), .ref 37]) (h2 := (sh_rep m.T m.I m.J)) rfl rfl rfl ?_
      exact kk
    obtain ⟨c, e⟩ := sh_gd e
    refine sh_Lk_lift (T := m.T) (I := m.I) (J := m.J) (s := m.s) (pc2 := 31) (lv2 := [(0, .ref 29), (1, .int x1), (2, .int x2), (3, .int x3)]) (st2 := [.int x2, .int (m.I 28 10), .ref 38]) (I2 := sh_u2 m.I 36 (Int32.toNatClampNeg (m.I 28 10)) x1) (J2 := m.J) (fun hT v kk => ?_) ?_
    · refine sh_is1 (x := x1) (i := m.I 28 10) (pc2 := 22) rfl (sh_s36 hT.st) (sh_okb1 c) (sh_okb2 c) rfl ?_
      refine sh_w (i := (.aload_n 0)) (len := 1) (pc2 := 23) (lv2 := [(0, .ref 29), (1, .int x1), (2, .int x2), (3, .int x3)]) (st2 := [.ref 29]) (h2 := (sh_rep m.T (sh_u2 m.I 36 (Int32.toNatClampNeg (m.I 28 10)) x1) m.J)) rfl rfl rfl ?_
      refine sh_gR1 (len := 3) (x := .ref 38) (pc2 := 26) rfl rfl (sh_s28 hT.st) rfl rfl ?_
      refine sh_w (i := (.aload_n 0)) (len := 1) (pc2 := 27) (lv2 := [(0, .ref 29), (1, .int x1), (2, .int x2), (3, .int x3)]) (st2 := [.ref 29, .ref 38]) (h2 := (sh_rep m.T (sh_u2 m.I 36 (Int32.toNatClampNeg (m.I 28 10)) x1) m.J)) rfl rfl rfl ?_
      refine sh_gI1 (len := 3) (x := m.I 28 10) (pc2 := 30) rfl rfl (sh_s28 hT.st) rfl rfl rfl ?_
      refine sh_w (i := (.iload_n 2)) (len := 1) (pc2 := 31) (lv2 := [(0, .ref 29), (1, .int x1), (2, .int x2), (3, .int x3)]) (st2 := [.int x2, .int (m.I 28 10), .ref 38]) (h2 := (sh_rep m.T (sh_u2 m.I 36 (Int32.toNatClampNeg (m.I 28 10)) x1) m.J)) rfl rfl rfl ?_
      exact kk
    obtain ⟨c, e⟩ := sh_gd e
    refine sh_Lk_lift (T := m.T) (I := sh_u2 m.I 36 (Int32.toNatClampNeg (m.I 28 10)) x1) (J := m.J) (s := m.s) (pc2 := 41) (lv2 := [(0, .ref 29), (1, .int x1), (2, .int x2), (3, .int x3)]) (st2 := [.int x3, .int (m.I 28 10), .ref 39]) (I2 := sh_u2 (sh_u2 m.I 36 (Int32.toNatClampNeg (m.I 28 10)) x1) 37 (Int32.toNatClampNeg (m.I 28 10)) x2) (J2 := m.J) (fun hT v kk => ?_) ?_
    · refine sh_is1 (x := x2) (i := m.I 28 10) (pc2 := 32) rfl (sh_s37 hT.st) (sh_okb1 c) (sh_okb2 c) rfl ?_
      refine sh_w (i := (.aload_n 0)) (len := 1) (pc2 := 33) (lv2 := [(0, .ref 29), (1, .int x1), (2, .int x2), (3, .int x3)]) (st2 := [.ref 29]) (h2 := (sh_rep m.T (sh_u2 (sh_u2 m.I 36 (Int32.toNatClampNeg (m.I 28 10)) x1) 37 (Int32.toNatClampNeg (m.I 28 10)) x2) m.J)) rfl rfl rfl ?_
      refine sh_gR1 (len := 3) (x := .ref 39) (pc2 := 36) rfl rfl (sh_s28 hT.st) rfl rfl ?_
      refine sh_w (i := (.aload_n 0)) (len := 1) (pc2 := 37) (lv2 := [(0, .ref 29), (1, .int x1), (2, .int x2), (3, .int x3)]) (st2 := [.ref 29, .ref 39]) (h2 := (sh_rep m.T (sh_u2 (sh_u2 m.I 36 (Int32.toNatClampNeg (m.I 28 10)) x1) 37 (Int32.toNatClampNeg (m.I 28 10)) x2) m.J)) rfl rfl rfl ?_
      refine sh_gI1 (len := 3) (x := m.I 28 10) (pc2 := 40) rfl rfl (sh_s28 hT.st) rfl rfl rfl ?_
      refine sh_w (i := (.iload_n 3)) (len := 1) (pc2 := 41) (lv2 := [(0, .ref 29), (1, .int x1), (2, .int x2), (3, .int x3)]) (st2 := [.int x3, .int (m.I 28 10), .ref 39]) (h2 := (sh_rep m.T (sh_u2 (sh_u2 m.I 36 (Int32.toNatClampNeg (m.I 28 10)) x1) 37 (Int32.toNatClampNeg (m.I 28 10)) x2) m.J)) rfl rfl rfl ?_
      exact kk
    obtain ⟨c, e⟩ := sh_gd e
    refine sh_Lk_lift (T := m.T) (I := sh_u2 (sh_u2 m.I 36 (Int32.toNatClampNeg (m.I 28 10)) x1) 37 (Int32.toNatClampNeg (m.I 28 10)) x2) (J := m.J) (s := m.s) (pc2 := 58) (lv2 := [(0, .ref 29), (1, .int x1), (2, .int x2), (3, .int x3)]) (st2 := [.int (((m.I 28 10) + 1) - 1)]) (I2 := sh_u2 (sh_u2 (sh_u2 (sh_u2 m.I 36 (Int32.toNatClampNeg (m.I 28 10)) x1) 37 (Int32.toNatClampNeg (m.I 28 10)) x2) 38 (Int32.toNatClampNeg (m.I 28 10)) x3) 28 10 ((m.I 28 10) + 1)) (J2 := m.J) (fun hT v kk => ?_) ?_
    · refine sh_is1 (x := x3) (i := m.I 28 10) (pc2 := 42) rfl (sh_s38 hT.st) (sh_okb1 c) (sh_okb2 c) rfl ?_
      refine sh_w (i := (.aload_n 0)) (len := 1) (pc2 := 43) (lv2 := [(0, .ref 29), (1, .int x1), (2, .int x2), (3, .int x3)]) (st2 := [.ref 29]) (h2 := (sh_rep m.T (sh_u2 (sh_u2 (sh_u2 m.I 36 (Int32.toNatClampNeg (m.I 28 10)) x1) 37 (Int32.toNatClampNeg (m.I 28 10)) x2) 38 (Int32.toNatClampNeg (m.I 28 10)) x3) m.J)) rfl rfl rfl ?_
      refine sh_w (i := .dup) (len := 1) (pc2 := 44) (lv2 := [(0, .ref 29), (1, .int x1), (2, .int x2), (3, .int x3)]) (st2 := [.ref 29, .ref 29]) (h2 := (sh_rep m.T (sh_u2 (sh_u2 (sh_u2 m.I 36 (Int32.toNatClampNeg (m.I 28 10)) x1) 37 (Int32.toNatClampNeg (m.I 28 10)) x2) 38 (Int32.toNatClampNeg (m.I 28 10)) x3) m.J)) rfl rfl rfl ?_
      refine sh_gI1 (len := 3) (x := m.I 28 10) (pc2 := 47) rfl rfl (sh_s28 hT.st) rfl rfl rfl ?_
      refine sh_w (i := (.iconst 1)) (len := 1) (pc2 := 48) (lv2 := [(0, .ref 29), (1, .int x1), (2, .int x2), (3, .int x3)]) (st2 := [.int 1, .int (m.I 28 10), .ref 29]) (h2 := (sh_rep m.T (sh_u2 (sh_u2 (sh_u2 m.I 36 (Int32.toNatClampNeg (m.I 28 10)) x1) 37 (Int32.toNatClampNeg (m.I 28 10)) x2) 38 (Int32.toNatClampNeg (m.I 28 10)) x3) m.J)) rfl rfl rfl ?_
      refine sh_w (i := .iadd) (len := 1) (pc2 := 49) (lv2 := [(0, .ref 29), (1, .int x1), (2, .int x2), (3, .int x3)]) (st2 := [.int ((m.I 28 10) + 1), .ref 29]) (h2 := (sh_rep m.T (sh_u2 (sh_u2 (sh_u2 m.I 36 (Int32.toNatClampNeg (m.I 28 10)) x1) 37 (Int32.toNatClampNeg (m.I 28 10)) x2) 38 (Int32.toNatClampNeg (m.I 28 10)) x3) m.J)) rfl rfl rfl ?_
      refine sh_pI1 (x := (m.I 28 10) + 1) (pc2 := 52) rfl rfl (sh_s28 hT.st) rfl rfl rfl rfl ?_
      refine sh_w (i := (.aload_n 0)) (len := 1) (pc2 := 53) (lv2 := [(0, .ref 29), (1, .int x1), (2, .int x2), (3, .int x3)]) (st2 := [.ref 29]) (h2 := (sh_rep m.T (sh_u2 (sh_u2 (sh_u2 (sh_u2 m.I 36 (Int32.toNatClampNeg (m.I 28 10)) x1) 37 (Int32.toNatClampNeg (m.I 28 10)) x2) 38 (Int32.toNatClampNeg (m.I 28 10)) x3) 28 10 ((m.I 28 10) + 1)) m.J)) rfl rfl rfl ?_
      refine sh_gI1 (len := 3) (x := (m.I 28 10) + 1) (pc2 := 56) rfl rfl (sh_s28 hT.st) rfl rfl rfl ?_
      refine sh_w (i := (.iconst 1)) (len := 1) (pc2 := 57) (lv2 := [(0, .ref 29), (1, .int x1), (2, .int x2), (3, .int x3)]) (st2 := [.int 1, .int ((m.I 28 10) + 1)]) (h2 := (sh_rep m.T (sh_u2 (sh_u2 (sh_u2 (sh_u2 m.I 36 (Int32.toNatClampNeg (m.I 28 10)) x1) 37 (Int32.toNatClampNeg (m.I 28 10)) x2) 38 (Int32.toNatClampNeg (m.I 28 10)) x3) 28 10 ((m.I 28 10) + 1)) m.J)) rfl rfl rfl ?_
      refine sh_w (i := .isub) (len := 1) (pc2 := 58) (lv2 := [(0, .ref 29), (1, .int x1), (2, .int x2), (3, .int x3)]) (st2 := [.int (((m.I 28 10) + 1) - 1)]) (h2 := (sh_rep m.T (sh_u2 (sh_u2 (sh_u2 (sh_u2 m.I 36 (Int32.toNatClampNeg (m.I 28 10)) x1) 37 (Int32.toNatClampNeg (m.I 28 10)) x2) 38 (Int32.toNatClampNeg (m.I 28 10)) x3) 28 10 ((m.I 28 10) + 1)) m.J)) rfl rfl rfl ?_
      exact kk
    obtain rfl := Option.some.inj e
    obtain ⟨rfl, rfl⟩ := tg
    exact sh_Lk_ret (i := .ireturn) rfl rfl rfl (Nat.le_of_ble_eq_true rfl) (Nat.le_of_ble_eq_true rfl)
  · refine sh_Lk_lift (T := m.T) (I := m.I) (J := m.J) (s := m.s) (pc2 := 11) (lv2 := [(0, .ref 29), (1, .int x1), (2, .int x2), (3, .int x3)]) (st2 := [.int (-1)]) (I2 := m.I) (J2 := m.J) (fun hT v kk => ?_) ?_
    · refine sh_jc (c := .lt) (off := (5)) (pc2 := 10) false rfl (sh_Bltf c) rfl ?_
      refine sh_w (i := (.iconst (-1))) (len := 1) (pc2 := 11) (lv2 := [(0, .ref 29), (1, .int x1), (2, .int x2), (3, .int x3)]) (st2 := [.int (-1)]) (h2 := (sh_rep m.T m.I m.J)) rfl rfl rfl ?_
      exact kk
    obtain rfl := Option.some.inj e
    obtain ⟨rfl, rfl⟩ := tg
    exact sh_Lk_ret (i := .ireturn) rfl rfl rfl (Nat.le_of_ble_eq_true rfl) (Nat.le_of_ble_eq_true rfl)
theorem sl_60 {x0 : Int32} {m m2 : sh_X} {o : Outcome} {z : Int32} (e : sf_60 x0 = z) (tg : (sh_tIc m o m2) z) : sh_Lk 60 0 [(0, .int x0)] [] m o m2 8 200 := by
  unfold sf_60 at e
  refine sh_Lk_lift (T := m.T) (I := m.I) (J := m.J) (s := m.s) (pc2 := 3) (lv2 := [(0, .int x0)]) (st2 := [.int 45, .int x0]) (I2 := m.I) (J2 := m.J) (fun hT v kk => ?_) ?_
  · refine sh_w (i := (.iload_n 0)) (len := 1) (pc2 := 1) (lv2 := [(0, .int x0)]) (st2 := [.int x0]) (h2 := (sh_rep m.T m.I m.J)) rfl rfl rfl ?_
    refine sh_w (i := (.bipush 45)) (len := 2) (pc2 := 3) (lv2 := [(0, .int x0)]) (st2 := [.int 45, .int x0]) (h2 := (sh_rep m.T m.I m.J)) rfl rfl rfl ?_
    exact kk
  rcases sh_ite e with ⟨c, e⟩ | ⟨c, e⟩
  · refine sh_Lk_lift (T := m.T) (I := m.I) (J := m.J) (s := m.s) (pc2 := 34) (lv2 := [(0, .int x0)]) (st2 := [.int 22]) (I2 := m.I) (J2 := m.J) (fun hT v kk => ?_) ?_
    · refine sh_jc (c := .ne) (off := (8)) (pc2 := 6) false rfl (sh_Bnef c) rfl ?_
      refine sh_w (i := (.bipush 22)) (len := 2) (pc2 := 8) (lv2 := [(0, .int x0)]) (st2 := [.int 22]) (h2 := (sh_rep m.T m.I m.J)) rfl rfl rfl ?_
      refine sh_w (i := (.goto 26)) (len := 3) (pc2 := 34) (lv2 := [(0, .int x0)]) (st2 := [.int 22]) (h2 := (sh_rep m.T m.I m.J)) rfl rfl rfl ?_
      exact kk
    obtain rfl := e
    obtain ⟨rfl, rfl⟩ := tg
    exact sh_Lk_ret (i := .ireturn) rfl rfl rfl (Nat.le_of_ble_eq_true rfl) (Nat.le_of_ble_eq_true rfl)
  · refine sh_Lk_lift (T := m.T) (I := m.I) (J := m.J) (s := m.s) (pc2 := 14) (lv2 := [(0, .int x0)]) (st2 := [.int 126, .int x0]) (I2 := m.I) (J2 := m.J) (fun hT v kk => ?_) ?_
    · refine sh_jc (c := .ne) (off := (8)) (pc2 := 11) true rfl (sh_Bnet c) rfl ?_
      refine sh_w (i := (.iload_n 0)) (len := 1) (pc2 := 12) (lv2 := [(0, .int x0)]) (st2 := [.int x0]) (h2 := (sh_rep m.T m.I m.J)) rfl rfl rfl ?_
      refine sh_w (i := (.bipush 126)) (len := 2) (pc2 := 14) (lv2 := [(0, .int x0)]) (st2 := [.int 126, .int x0]) (h2 := (sh_rep m.T m.I m.J)) rfl rfl rfl ?_
      exact kk
    rcases sh_ite e with ⟨c, e⟩ | ⟨c, e⟩
    · refine sh_Lk_lift (T := m.T) (I := m.I) (J := m.J) (s := m.s) (pc2 := 34) (lv2 := [(0, .int x0)]) (st2 := [.int 23]) (I2 := m.I) (J2 := m.J) (fun hT v kk => ?_) ?_
      · refine sh_jc (c := .ne) (off := (8)) (pc2 := 17) false rfl (sh_Bnef c) rfl ?_
        refine sh_w (i := (.bipush 23)) (len := 2) (pc2 := 19) (lv2 := [(0, .int x0)]) (st2 := [.int 23]) (h2 := (sh_rep m.T m.I m.J)) rfl rfl rfl ?_
        refine sh_w (i := (.goto 15)) (len := 3) (pc2 := 34) (lv2 := [(0, .int x0)]) (st2 := [.int 23]) (h2 := (sh_rep m.T m.I m.J)) rfl rfl rfl ?_
        exact kk
      obtain rfl := e
      obtain ⟨rfl, rfl⟩ := tg
      exact sh_Lk_ret (i := .ireturn) rfl rfl rfl (Nat.le_of_ble_eq_true rfl) (Nat.le_of_ble_eq_true rfl)
    · refine sh_Lk_lift (T := m.T) (I := m.I) (J := m.J) (s := m.s) (pc2 := 25) (lv2 := [(0, .int x0)]) (st2 := [.int 33, .int x0]) (I2 := m.I) (J2 := m.J) (fun hT v kk => ?_) ?_
      · refine sh_jc (c := .ne) (off := (8)) (pc2 := 22) true rfl (sh_Bnet c) rfl ?_
        refine sh_w (i := (.iload_n 0)) (len := 1) (pc2 := 23) (lv2 := [(0, .int x0)]) (st2 := [.int x0]) (h2 := (sh_rep m.T m.I m.J)) rfl rfl rfl ?_
        refine sh_w (i := (.bipush 33)) (len := 2) (pc2 := 25) (lv2 := [(0, .int x0)]) (st2 := [.int 33, .int x0]) (h2 := (sh_rep m.T m.I m.J)) rfl rfl rfl ?_
        exact kk
      rcases sh_ite e with ⟨c, e⟩ | ⟨c, e⟩
      · refine sh_Lk_lift (T := m.T) (I := m.I) (J := m.J) (s := m.s) (pc2 := 34) (lv2 := [(0, .int x0)]) (st2 := [.int 24]) (I2 := m.I) (J2 := m.J) (fun hT v kk => ?_) ?_
        · refine sh_jc (c := .ne) (off := (8)) (pc2 := 28) false rfl (sh_Bnef c) rfl ?_
          refine sh_w (i := (.bipush 24)) (len := 2) (pc2 := 30) (lv2 := [(0, .int x0)]) (st2 := [.int 24]) (h2 := (sh_rep m.T m.I m.J)) rfl rfl rfl ?_
          refine sh_w (i := (.goto 4)) (len := 3) (pc2 := 34) (lv2 := [(0, .int x0)]) (st2 := [.int 24]) (h2 := (sh_rep m.T m.I m.J)) rfl rfl rfl ?_
          exact kk
        obtain rfl := e
        obtain ⟨rfl, rfl⟩ := tg
        exact sh_Lk_ret (i := .ireturn) rfl rfl rfl (Nat.le_of_ble_eq_true rfl) (Nat.le_of_ble_eq_true rfl)
      · refine sh_Lk_lift (T := m.T) (I := m.I) (J := m.J) (s := m.s) (pc2 := 34) (lv2 := [(0, .int x0)]) (st2 := [.int (-1)]) (I2 := m.I) (J2 := m.J) (fun hT v kk => ?_) ?_
        · refine sh_jc (c := .ne) (off := (8)) (pc2 := 33) true rfl (sh_Bnet c) rfl ?_
          refine sh_w (i := (.iconst (-1))) (len := 1) (pc2 := 34) (lv2 := [(0, .int x0)]) (st2 := [.int (-1)]) (h2 := (sh_rep m.T m.I m.J)) rfl rfl rfl ?_
          exact kk
        obtain rfl := e
        obtain ⟨rfl, rfl⟩ := tg
        exact sh_Lk_ret (i := .ireturn) rfl rfl rfl (Nat.le_of_ble_eq_true rfl) (Nat.le_of_ble_eq_true rfl)
theorem sl_64 {x1 : Int32} {m m2 : sh_X} {o : Outcome} {z : Bool} (e : sf_64 x1 m = some z) (tg : (sh_tZc m o m2) z) : sh_Lk 64 0 [(0, .ref 29), (1, .int x1)] [] m o m2 8 200 := by
  unfold sf_64 at e
  refine sh_Lk_lift (T := m.T) (I := m.I) (J := m.J) (s := m.s) (pc2 := 1) (lv2 := [(0, .ref 29), (1, .int x1)]) (st2 := [.int x1]) (I2 := m.I) (J2 := m.J) (fun hT v kk => ?_) ?_
  · refine sh_w (i := (.iload_n 1)) (len := 1) (pc2 := 1) (lv2 := [(0, .ref 29), (1, .int x1)]) (st2 := [.int x1]) (h2 := (sh_rep m.T m.I m.J)) rfl rfl rfl ?_
    exact kk
  rcases sh_ite e with ⟨c, e⟩ | ⟨c, e⟩
  · refine sh_Lk_lift (T := m.T) (I := m.I) (J := m.J) (s := m.s) (pc2 := 17) (lv2 := [(0, .ref 29), (1, .int x1)]) (st2 := [.int 0]) (I2 := m.I) (J2 := m.J) (fun hT v kk => ?_) ?_
    · refine sh_j0 (c := .lt) (off := (15)) (pc2 := 16) true rfl (sh_Bltt c) rfl ?_
      refine sh_w (i := (.iconst 0)) (len := 1) (pc2 := 17) (lv2 := [(0, .ref 29), (1, .int x1)]) (st2 := [.int 0]) (h2 := (sh_rep m.T m.I m.J)) rfl rfl rfl ?_
      exact kk
    obtain rfl := Option.some.inj e
    obtain ⟨rfl, rfl⟩ := tg
    exact sh_Lk_ret (i := .ireturn) rfl rfl rfl (Nat.le_of_ble_eq_true rfl) (Nat.le_of_ble_eq_true rfl)
  · refine sh_Lk_lift (T := m.T) (I := m.I) (J := m.J) (s := m.s) (pc2 := 9) (lv2 := [(0, .ref 29), (1, .int x1)]) (st2 := [.int (m.I 28 10), .int x1]) (I2 := m.I) (J2 := m.J) (fun hT v kk => ?_) ?_
    · refine sh_j0 (c := .lt) (off := (15)) (pc2 := 4) false rfl (sh_Bltf c) rfl ?_
      refine sh_w (i := (.iload_n 1)) (len := 1) (pc2 := 5) (lv2 := [(0, .ref 29), (1, .int x1)]) (st2 := [.int x1]) (h2 := (sh_rep m.T m.I m.J)) rfl rfl rfl ?_
      refine sh_w (i := (.aload_n 0)) (len := 1) (pc2 := 6) (lv2 := [(0, .ref 29), (1, .int x1)]) (st2 := [.ref 29, .int x1]) (h2 := (sh_rep m.T m.I m.J)) rfl rfl rfl ?_
      refine sh_gI1 (len := 3) (x := m.I 28 10) (pc2 := 9) rfl rfl (sh_s28 hT.st) rfl rfl rfl ?_
      exact kk
    rcases sh_ite e with ⟨c, e⟩ | ⟨c, e⟩
    · refine sh_Lk_lift (T := m.T) (I := m.I) (J := m.J) (s := m.s) (pc2 := 17) (lv2 := [(0, .ref 29), (1, .int x1)]) (st2 := [.int 1]) (I2 := m.I) (J2 := m.J) (fun hT v kk => ?_) ?_
      · refine sh_jc (c := .ge) (off := (7)) (pc2 := 12) false rfl (sh_Bgef c) rfl ?_
        refine sh_w (i := (.iconst 1)) (len := 1) (pc2 := 13) (lv2 := [(0, .ref 29), (1, .int x1)]) (st2 := [.int 1]) (h2 := (sh_rep m.T m.I m.J)) rfl rfl rfl ?_
        refine sh_w (i := (.goto 4)) (len := 3) (pc2 := 17) (lv2 := [(0, .ref 29), (1, .int x1)]) (st2 := [.int 1]) (h2 := (sh_rep m.T m.I m.J)) rfl rfl rfl ?_
        exact kk
      obtain rfl := Option.some.inj e
      obtain ⟨rfl, rfl⟩ := tg
      exact sh_Lk_ret (i := .ireturn) rfl rfl rfl (Nat.le_of_ble_eq_true rfl) (Nat.le_of_ble_eq_true rfl)
    · refine sh_Lk_lift (T := m.T) (I := m.I) (J := m.J) (s := m.s) (pc2 := 17) (lv2 := [(0, .ref 29), (1, .int x1)]) (st2 := [.int 0]) (I2 := m.I) (J2 := m.J) (fun hT v kk => ?_) ?_
      · refine sh_jc (c := .ge) (off := (7)) (pc2 := 16) true rfl (sh_Bget c) rfl ?_
        refine sh_w (i := (.iconst 0)) (len := 1) (pc2 := 17) (lv2 := [(0, .ref 29), (1, .int x1)]) (st2 := [.int 0]) (h2 := (sh_rep m.T m.I m.J)) rfl rfl rfl ?_
        exact kk
      obtain rfl := Option.some.inj e
      obtain ⟨rfl, rfl⟩ := tg
      exact sh_Lk_ret (i := .ireturn) rfl rfl rfl (Nat.le_of_ble_eq_true rfl) (Nat.le_of_ble_eq_true rfl)
theorem sl_63 {x1 : Int32} {x2 : Int32} {m m2 : sh_X} {o : Outcome} {z : (Unit × sh_X)} (e : sf_63 x1 x2 m = some z) (tg : (sh_tV o m2) z) : sh_Lk 63 0 [(0, .ref 29), (1, .int x1), (2, .int x2)] [] m o m2 9 221 := by
  unfold sf_63 at e
  refine sh_Lk_lift (T := m.T) (I := m.I) (J := m.J) (s := m.s) (pc2 := 2) (lv2 := [(0, .ref 29), (1, .int x1), (2, .int x2)]) (st2 := [.int x1, .ref 29]) (I2 := m.I) (J2 := m.J) (fun hT v kk => ?_) ?_
  · refine sh_w (i := (.aload_n 0)) (len := 1) (pc2 := 1) (lv2 := [(0, .ref 29), (1, .int x1), (2, .int x2)]) (st2 := [.ref 29]) (h2 := (sh_rep m.T m.I m.J)) rfl rfl rfl ?_
    refine sh_w (i := (.iload_n 1)) (len := 1) (pc2 := 2) (lv2 := [(0, .ref 29), (1, .int x1), (2, .int x2)]) (st2 := [.int x1, .ref 29]) (h2 := (sh_rep m.T m.I m.J)) rfl rfl rfl ?_
    exact kk
  obtain ⟨r1, e1, e⟩ := sh_bc_e e
  refine sh_Lk_cV (r := (some (.int (sh_b2 r1)))) (st2 := [.int (sh_b2 r1)]) (pc2 := 5) (k2 := 64) (a := 28) (as := [.ref 29, .int x1]) (rest := []) rfl rfl rfl (fun hT => (sh_s28 hT.st)) rfl rfl ⟨Nat.le_of_ble_eq_true rfl, Nat.le_of_ble_eq_true rfl⟩ (sl_64 e1 ⟨rfl, rfl⟩) rfl rfl (Nat.le_of_ble_eq_true rfl) (Nat.le_of_ble_eq_true rfl) ?_
  rcases sh_ite e with ⟨c, e⟩ | ⟨c, e⟩
  · refine sh_Lk_lift (T := m.T) (I := m.I) (J := m.J) (s := m.s) (pc2 := 14) (lv2 := [(0, .ref 29), (1, .int x1), (2, .int x2)]) (st2 := [.int x2, .int x1, .ref 39]) (I2 := m.I) (J2 := m.J) (fun hT v kk => ?_) ?_
    · refine sh_j0 (c := .eq) (off := (10)) (pc2 := 8) false rfl (sh_Zeqf c) rfl ?_
      refine sh_w (i := (.aload_n 0)) (len := 1) (pc2 := 9) (lv2 := [(0, .ref 29), (1, .int x1), (2, .int x2)]) (st2 := [.ref 29]) (h2 := (sh_rep m.T m.I m.J)) rfl rfl rfl ?_
      refine sh_gR1 (len := 3) (x := .ref 39) (pc2 := 12) rfl rfl (sh_s28 hT.st) rfl rfl ?_
      refine sh_w (i := (.iload_n 1)) (len := 1) (pc2 := 13) (lv2 := [(0, .ref 29), (1, .int x1), (2, .int x2)]) (st2 := [.int x1, .ref 39]) (h2 := (sh_rep m.T m.I m.J)) rfl rfl rfl ?_
      refine sh_w (i := (.iload_n 2)) (len := 1) (pc2 := 14) (lv2 := [(0, .ref 29), (1, .int x1), (2, .int x2)]) (st2 := [.int x2, .int x1, .ref 39]) (h2 := (sh_rep m.T m.I m.J)) rfl rfl rfl ?_
      exact kk
    obtain ⟨c, e⟩ := sh_gd e
    refine sh_Lk_lift (T := m.T) (I := m.I) (J := m.J) (s := m.s) (pc2 := 15) (lv2 := [(0, .ref 29), (1, .int x1), (2, .int x2)]) (st2 := []) (I2 := sh_u2 m.I 38 (Int32.toNatClampNeg x1) x2) (J2 := m.J) (fun hT v kk => ?_) ?_
    · refine sh_is1 (x := x2) (i := x1) (pc2 := 15) rfl (sh_s38 hT.st) (sh_okb1 c) (sh_okb2 c) rfl ?_
      exact kk
    obtain rfl := Option.some.inj e
    obtain ⟨rfl, rfl⟩ := tg
    exact sh_Lk_ret (i := .return_) rfl rfl rfl (Nat.le_of_ble_eq_true rfl) (Nat.le_of_ble_eq_true rfl)
  · refine sh_Lk_lift (T := m.T) (I := m.I) (J := m.J) (s := m.s) (pc2 := 15) (lv2 := [(0, .ref 29), (1, .int x1), (2, .int x2)]) (st2 := []) (I2 := m.I) (J2 := m.J) (fun hT v kk => ?_) ?_
    · refine sh_j0 (c := .eq) (off := (10)) (pc2 := 15) true rfl (sh_Zeqt c) rfl ?_
      exact kk
    obtain rfl := Option.some.inj e
    obtain ⟨rfl, rfl⟩ := tg
    exact sh_Lk_ret (i := .return_) rfl rfl rfl (Nat.le_of_ble_eq_true rfl) (Nat.le_of_ble_eq_true rfl)
theorem sl_66 {x1 : Int32} {m m2 : sh_X} {o : Outcome} {z : Int64} (e : sf_66 x1 m = some z) (tg : (sh_tJc m o m2) z) : sh_Lk 66 0 [(0, .ref 3), (1, .int x1)] [] m o m2 8 200 := by
  unfold sf_66 at e
  refine sh_Lk_lift (T := m.T) (I := m.I) (J := m.J) (s := m.s) (pc2 := 1) (lv2 := [(0, .ref 3), (1, .int x1)]) (st2 := [.int x1]) (I2 := m.I) (J2 := m.J) (fun hT v kk => ?_) ?_
  · refine sh_w (i := (.iload_n 1)) (len := 1) (pc2 := 1) (lv2 := [(0, .ref 3), (1, .int x1)]) (st2 := [.int x1]) (h2 := (sh_rep m.T m.I m.J)) rfl rfl rfl ?_
    exact kk
  rcases sh_ite e with ⟨c, e⟩ | ⟨c, e⟩
  · refine sh_Lk_lift (T := m.T) (I := m.I) (J := m.J) (s := m.s) (pc2 := 22) (lv2 := [(0, .ref 3), (1, .int x1)]) (st2 := [.long 0]) (I2 := m.I) (J2 := m.J) (fun hT v kk => ?_) ?_
    · refine sh_j0 (c := .lt) (off := (20)) (pc2 := 21) true rfl (sh_Bltt c) rfl ?_
      refine sh_w (i := (.lconst 0)) (len := 1) (pc2 := 22) (lv2 := [(0, .ref 3), (1, .int x1)]) (st2 := [.long 0]) (h2 := (sh_rep m.T m.I m.J)) rfl rfl rfl ?_
      exact kk
    obtain rfl := Option.some.inj e
    obtain ⟨rfl, rfl⟩ := tg
    exact sh_Lk_ret (i := .lreturn) rfl rfl rfl (Nat.le_of_ble_eq_true rfl) (Nat.le_of_ble_eq_true rfl)
  · refine sh_Lk_lift (T := m.T) (I := m.I) (J := m.J) (s := m.s) (pc2 := 9) (lv2 := [(0, .ref 3), (1, .int x1)]) (st2 := [.int (m.I 2 7), .int x1]) (I2 := m.I) (J2 := m.J) (fun hT v kk => ?_) ?_
    · refine sh_j0 (c := .lt) (off := (20)) (pc2 := 4) false rfl (sh_Bltf c) rfl ?_
      refine sh_w (i := (.iload_n 1)) (len := 1) (pc2 := 5) (lv2 := [(0, .ref 3), (1, .int x1)]) (st2 := [.int x1]) (h2 := (sh_rep m.T m.I m.J)) rfl rfl rfl ?_
      refine sh_w (i := (.aload_n 0)) (len := 1) (pc2 := 6) (lv2 := [(0, .ref 3), (1, .int x1)]) (st2 := [.ref 3, .int x1]) (h2 := (sh_rep m.T m.I m.J)) rfl rfl rfl ?_
      refine sh_gI1 (len := 3) (x := m.I 2 7) (pc2 := 9) rfl rfl hT.t2 rfl rfl rfl ?_
      exact kk
    rcases sh_ite e with ⟨c, e⟩ | ⟨c, e⟩
    · refine sh_Lk_lift (T := m.T) (I := m.I) (J := m.J) (s := m.s) (pc2 := 17) (lv2 := [(0, .ref 3), (1, .int x1)]) (st2 := [.int x1, .ref 6]) (I2 := m.I) (J2 := m.J) (fun hT v kk => ?_) ?_
      · refine sh_jc (c := .ge) (off := (12)) (pc2 := 12) false rfl (sh_Bgef c) rfl ?_
        refine sh_w (i := (.aload_n 0)) (len := 1) (pc2 := 13) (lv2 := [(0, .ref 3), (1, .int x1)]) (st2 := [.ref 3]) (h2 := (sh_rep m.T m.I m.J)) rfl rfl rfl ?_
        refine sh_gR1 (len := 3) (x := .ref 6) (pc2 := 16) rfl rfl hT.t2 rfl rfl ?_
        refine sh_w (i := (.iload_n 1)) (len := 1) (pc2 := 17) (lv2 := [(0, .ref 3), (1, .int x1)]) (st2 := [.int x1, .ref 6]) (h2 := (sh_rep m.T m.I m.J)) rfl rfl rfl ?_
        exact kk
      obtain ⟨c, e⟩ := sh_gd e
      refine sh_Lk_lift (T := m.T) (I := m.I) (J := m.J) (s := m.s) (pc2 := 22) (lv2 := [(0, .ref 3), (1, .int x1)]) (st2 := [.long (m.J 5 (Int32.toNatClampNeg x1))]) (I2 := m.I) (J2 := m.J) (fun hT v kk => ?_) ?_
      · refine sh_la1 (x := m.J 5 (Int32.toNatClampNeg x1)) (pc2 := 18) rfl (sh_s5 hT.st) (sh_okb1 c) (sh_okb2 c) rfl rfl ?_
        refine sh_w (i := (.goto 4)) (len := 3) (pc2 := 22) (lv2 := [(0, .ref 3), (1, .int x1)]) (st2 := [.long (m.J 5 (Int32.toNatClampNeg x1))]) (h2 := (sh_rep m.T m.I m.J)) rfl rfl rfl ?_
        exact kk
      obtain rfl := Option.some.inj e
      obtain ⟨rfl, rfl⟩ := tg
      exact sh_Lk_ret (i := .lreturn) rfl rfl rfl (Nat.le_of_ble_eq_true rfl) (Nat.le_of_ble_eq_true rfl)
    · refine sh_Lk_lift (T := m.T) (I := m.I) (J := m.J) (s := m.s) (pc2 := 22) (lv2 := [(0, .ref 3), (1, .int x1)]) (st2 := [.long 0]) (I2 := m.I) (J2 := m.J) (fun hT v kk => ?_) ?_
      · refine sh_jc (c := .ge) (off := (12)) (pc2 := 21) true rfl (sh_Bget c) rfl ?_
        refine sh_w (i := (.lconst 0)) (len := 1) (pc2 := 22) (lv2 := [(0, .ref 3), (1, .int x1)]) (st2 := [.long 0]) (h2 := (sh_rep m.T m.I m.J)) rfl rfl rfl ?_
        exact kk
      obtain rfl := Option.some.inj e
      obtain ⟨rfl, rfl⟩ := tg
      exact sh_Lk_ret (i := .lreturn) rfl rfl rfl (Nat.le_of_ble_eq_true rfl) (Nat.le_of_ble_eq_true rfl)
theorem sl_69 {x0 : Int32} {m m2 : sh_X} {o : Outcome} {z : Int32} (e : sf_69 x0 = z) (tg : (sh_tIc m o m2) z) : sh_Lk 69 0 [(0, .int x0)] [] m o m2 8 200 := by
  unfold sf_69 at e
  refine sh_Lk_lift (T := m.T) (I := m.I) (J := m.J) (s := m.s) (pc2 := 1) (lv2 := [(0, .int x0)]) (st2 := [.int x0]) (I2 := m.I) (J2 := m.J) (fun hT v kk => ?_) ?_
  · refine sh_w (i := (.iload_n 0)) (len := 1) (pc2 := 1) (lv2 := [(0, .int x0)]) (st2 := [.int x0]) (h2 := (sh_rep m.T m.I m.J)) rfl rfl rfl ?_
    exact kk
  rcases sh_ite e with ⟨c, e⟩ | ⟨c0, e⟩
  · refine sh_Lk_lift (T := m.T) (I := m.I) (J := m.J) (s := m.s) (pc2 := 180) (lv2 := [(0, .int x0)]) (st2 := [.int 10]) (I2 := m.I) (J2 := m.J) (fun hT v kk => ?_) ?_
    · refine sh_w (i := (.lookupswitch 180 #[(37, 177), (38, 163), (42, 177), (43, 174), (45, 174), (47, 177), (60, 168), (62, 168), (94, 161), (124, 159), (8509, 165), (9766, 157), (15420, 171), (15421, 168), (15677, 165), (15933, 168), (15934, 171), (31868, 155)])) (len := 155) (pc2 := 178) (lv2 := [(0, .int x0)]) (st2 := []) (h2 := (sh_rep m.T m.I m.J)) rfl rfl (c.elim (fun c => sh_sw c rfl) (fun c => c.elim (fun c => sh_sw c rfl) (fun c => sh_sw c rfl))) ?_
      refine sh_w (i := (.bipush 10)) (len := 2) (pc2 := 180) (lv2 := [(0, .int x0)]) (st2 := [.int 10]) (h2 := (sh_rep m.T m.I m.J)) rfl rfl rfl ?_
      exact kk
    obtain rfl := e
    obtain ⟨rfl, rfl⟩ := tg
    exact sh_Lk_ret (i := .ireturn) rfl rfl rfl (Nat.le_of_ble_eq_true rfl) (Nat.le_of_ble_eq_true rfl)
  rcases sh_ite e with ⟨c, e⟩ | ⟨c1, e⟩
  · refine sh_Lk_lift (T := m.T) (I := m.I) (J := m.J) (s := m.s) (pc2 := 165) (lv2 := [(0, .int x0)]) (st2 := [.int 5]) (I2 := m.I) (J2 := m.J) (fun hT v kk => ?_) ?_
    · refine sh_w (i := (.lookupswitch 180 #[(37, 177), (38, 163), (42, 177), (43, 174), (45, 174), (47, 177), (60, 168), (62, 168), (94, 161), (124, 159), (8509, 165), (9766, 157), (15420, 171), (15421, 168), (15677, 165), (15933, 168), (15934, 171), (31868, 155)])) (len := 155) (pc2 := 164) (lv2 := [(0, .int x0)]) (st2 := []) (h2 := (sh_rep m.T m.I m.J)) rfl rfl (sh_sw c rfl) ?_
      refine sh_w (i := (.iconst 5)) (len := 1) (pc2 := 165) (lv2 := [(0, .int x0)]) (st2 := [.int 5]) (h2 := (sh_rep m.T m.I m.J)) rfl rfl rfl ?_
      exact kk
    obtain rfl := e
    obtain ⟨rfl, rfl⟩ := tg
    exact sh_Lk_ret (i := .ireturn) rfl rfl rfl (Nat.le_of_ble_eq_true rfl) (Nat.le_of_ble_eq_true rfl)
  rcases sh_ite e with ⟨c, e⟩ | ⟨c2, e⟩
  · refine sh_Lk_lift (T := m.T) (I := m.I) (J := m.J) (s := m.s) (pc2 := 177) (lv2 := [(0, .int x0)]) (st2 := [.int 9]) (I2 := m.I) (J2 := m.J) (fun hT v kk => ?_) ?_
    · refine sh_w (i := (.lookupswitch 180 #[(37, 177), (38, 163), (42, 177), (43, 174), (45, 174), (47, 177), (60, 168), (62, 168), (94, 161), (124, 159), (8509, 165), (9766, 157), (15420, 171), (15421, 168), (15677, 165), (15933, 168), (15934, 171), (31868, 155)])) (len := 155) (pc2 := 175) (lv2 := [(0, .int x0)]) (st2 := []) (h2 := (sh_rep m.T m.I m.J)) rfl rfl (c.elim (fun c => sh_sw c rfl) (fun c => sh_sw c rfl)) ?_
      refine sh_w (i := (.bipush 9)) (len := 2) (pc2 := 177) (lv2 := [(0, .int x0)]) (st2 := [.int 9]) (h2 := (sh_rep m.T m.I m.J)) rfl rfl rfl ?_
      exact kk
    obtain rfl := e
    obtain ⟨rfl, rfl⟩ := tg
    exact sh_Lk_ret (i := .ireturn) rfl rfl rfl (Nat.le_of_ble_eq_true rfl) (Nat.le_of_ble_eq_true rfl)
  rcases sh_ite e with ⟨c, e⟩ | ⟨c3, e⟩
  · refine sh_Lk_lift (T := m.T) (I := m.I) (J := m.J) (s := m.s) (pc2 := 171) (lv2 := [(0, .int x0)]) (st2 := [.int 7]) (I2 := m.I) (J2 := m.J) (fun hT v kk => ?_) ?_
    · refine sh_w (i := (.lookupswitch 180 #[(37, 177), (38, 163), (42, 177), (43, 174), (45, 174), (47, 177), (60, 168), (62, 168), (94, 161), (124, 159), (8509, 165), (9766, 157), (15420, 171), (15421, 168), (15677, 165), (15933, 168), (15934, 171), (31868, 155)])) (len := 155) (pc2 := 169) (lv2 := [(0, .int x0)]) (st2 := []) (h2 := (sh_rep m.T m.I m.J)) rfl rfl (c.elim (fun c => sh_sw c rfl) (fun c => c.elim (fun c => sh_sw c rfl) (fun c => c.elim (fun c => sh_sw c rfl) (fun c => sh_sw c rfl)))) ?_
      refine sh_w (i := (.bipush 7)) (len := 2) (pc2 := 171) (lv2 := [(0, .int x0)]) (st2 := [.int 7]) (h2 := (sh_rep m.T m.I m.J)) rfl rfl rfl ?_
      exact kk
    obtain rfl := e
    obtain ⟨rfl, rfl⟩ := tg
    exact sh_Lk_ret (i := .ireturn) rfl rfl rfl (Nat.le_of_ble_eq_true rfl) (Nat.le_of_ble_eq_true rfl)
  rcases sh_ite e with ⟨c, e⟩ | ⟨c4, e⟩
  · refine sh_Lk_lift (T := m.T) (I := m.I) (J := m.J) (s := m.s) (pc2 := 163) (lv2 := [(0, .int x0)]) (st2 := [.int 4]) (I2 := m.I) (J2 := m.J) (fun hT v kk => ?_) ?_
    · refine sh_w (i := (.lookupswitch 180 #[(37, 177), (38, 163), (42, 177), (43, 174), (45, 174), (47, 177), (60, 168), (62, 168), (94, 161), (124, 159), (8509, 165), (9766, 157), (15420, 171), (15421, 168), (15677, 165), (15933, 168), (15934, 171), (31868, 155)])) (len := 155) (pc2 := 162) (lv2 := [(0, .int x0)]) (st2 := []) (h2 := (sh_rep m.T m.I m.J)) rfl rfl (sh_sw c rfl) ?_
      refine sh_w (i := (.iconst 4)) (len := 1) (pc2 := 163) (lv2 := [(0, .int x0)]) (st2 := [.int 4]) (h2 := (sh_rep m.T m.I m.J)) rfl rfl rfl ?_
      exact kk
    obtain rfl := e
    obtain ⟨rfl, rfl⟩ := tg
    exact sh_Lk_ret (i := .ireturn) rfl rfl rfl (Nat.le_of_ble_eq_true rfl) (Nat.le_of_ble_eq_true rfl)
  rcases sh_ite e with ⟨c, e⟩ | ⟨c5, e⟩
  · refine sh_Lk_lift (T := m.T) (I := m.I) (J := m.J) (s := m.s) (pc2 := 161) (lv2 := [(0, .int x0)]) (st2 := [.int 3]) (I2 := m.I) (J2 := m.J) (fun hT v kk => ?_) ?_
    · refine sh_w (i := (.lookupswitch 180 #[(37, 177), (38, 163), (42, 177), (43, 174), (45, 174), (47, 177), (60, 168), (62, 168), (94, 161), (124, 159), (8509, 165), (9766, 157), (15420, 171), (15421, 168), (15677, 165), (15933, 168), (15934, 171), (31868, 155)])) (len := 155) (pc2 := 160) (lv2 := [(0, .int x0)]) (st2 := []) (h2 := (sh_rep m.T m.I m.J)) rfl rfl (sh_sw c rfl) ?_
      refine sh_w (i := (.iconst 3)) (len := 1) (pc2 := 161) (lv2 := [(0, .int x0)]) (st2 := [.int 3]) (h2 := (sh_rep m.T m.I m.J)) rfl rfl rfl ?_
      exact kk
    obtain rfl := e
    obtain ⟨rfl, rfl⟩ := tg
    exact sh_Lk_ret (i := .ireturn) rfl rfl rfl (Nat.le_of_ble_eq_true rfl) (Nat.le_of_ble_eq_true rfl)
  rcases sh_ite e with ⟨c, e⟩ | ⟨c6, e⟩
  · refine sh_Lk_lift (T := m.T) (I := m.I) (J := m.J) (s := m.s) (pc2 := 168) (lv2 := [(0, .int x0)]) (st2 := [.int 6]) (I2 := m.I) (J2 := m.J) (fun hT v kk => ?_) ?_
    · refine sh_w (i := (.lookupswitch 180 #[(37, 177), (38, 163), (42, 177), (43, 174), (45, 174), (47, 177), (60, 168), (62, 168), (94, 161), (124, 159), (8509, 165), (9766, 157), (15420, 171), (15421, 168), (15677, 165), (15933, 168), (15934, 171), (31868, 155)])) (len := 155) (pc2 := 166) (lv2 := [(0, .int x0)]) (st2 := []) (h2 := (sh_rep m.T m.I m.J)) rfl rfl (c.elim (fun c => sh_sw c rfl) (fun c => sh_sw c rfl)) ?_
      refine sh_w (i := (.bipush 6)) (len := 2) (pc2 := 168) (lv2 := [(0, .int x0)]) (st2 := [.int 6]) (h2 := (sh_rep m.T m.I m.J)) rfl rfl rfl ?_
      exact kk
    obtain rfl := e
    obtain ⟨rfl, rfl⟩ := tg
    exact sh_Lk_ret (i := .ireturn) rfl rfl rfl (Nat.le_of_ble_eq_true rfl) (Nat.le_of_ble_eq_true rfl)
  rcases sh_ite e with ⟨c, e⟩ | ⟨c7, e⟩
  · refine sh_Lk_lift (T := m.T) (I := m.I) (J := m.J) (s := m.s) (pc2 := 159) (lv2 := [(0, .int x0)]) (st2 := [.int 2]) (I2 := m.I) (J2 := m.J) (fun hT v kk => ?_) ?_
    · refine sh_w (i := (.lookupswitch 180 #[(37, 177), (38, 163), (42, 177), (43, 174), (45, 174), (47, 177), (60, 168), (62, 168), (94, 161), (124, 159), (8509, 165), (9766, 157), (15420, 171), (15421, 168), (15677, 165), (15933, 168), (15934, 171), (31868, 155)])) (len := 155) (pc2 := 158) (lv2 := [(0, .int x0)]) (st2 := []) (h2 := (sh_rep m.T m.I m.J)) rfl rfl (sh_sw c rfl) ?_
      refine sh_w (i := (.iconst 2)) (len := 1) (pc2 := 159) (lv2 := [(0, .int x0)]) (st2 := [.int 2]) (h2 := (sh_rep m.T m.I m.J)) rfl rfl rfl ?_
      exact kk
    obtain rfl := e
    obtain ⟨rfl, rfl⟩ := tg
    exact sh_Lk_ret (i := .ireturn) rfl rfl rfl (Nat.le_of_ble_eq_true rfl) (Nat.le_of_ble_eq_true rfl)
  rcases sh_ite e with ⟨c, e⟩ | ⟨c8, e⟩
  · refine sh_Lk_lift (T := m.T) (I := m.I) (J := m.J) (s := m.s) (pc2 := 174) (lv2 := [(0, .int x0)]) (st2 := [.int 8]) (I2 := m.I) (J2 := m.J) (fun hT v kk => ?_) ?_
    · refine sh_w (i := (.lookupswitch 180 #[(37, 177), (38, 163), (42, 177), (43, 174), (45, 174), (47, 177), (60, 168), (62, 168), (94, 161), (124, 159), (8509, 165), (9766, 157), (15420, 171), (15421, 168), (15677, 165), (15933, 168), (15934, 171), (31868, 155)])) (len := 155) (pc2 := 172) (lv2 := [(0, .int x0)]) (st2 := []) (h2 := (sh_rep m.T m.I m.J)) rfl rfl (c.elim (fun c => sh_sw c rfl) (fun c => sh_sw c rfl)) ?_
      refine sh_w (i := (.bipush 8)) (len := 2) (pc2 := 174) (lv2 := [(0, .int x0)]) (st2 := [.int 8]) (h2 := (sh_rep m.T m.I m.J)) rfl rfl rfl ?_
      exact kk
    obtain rfl := e
    obtain ⟨rfl, rfl⟩ := tg
    exact sh_Lk_ret (i := .ireturn) rfl rfl rfl (Nat.le_of_ble_eq_true rfl) (Nat.le_of_ble_eq_true rfl)
  rcases sh_ite e with ⟨c, e⟩ | ⟨c9, e⟩
  · refine sh_Lk_lift (T := m.T) (I := m.I) (J := m.J) (s := m.s) (pc2 := 157) (lv2 := [(0, .int x0)]) (st2 := [.int 1]) (I2 := m.I) (J2 := m.J) (fun hT v kk => ?_) ?_
    · refine sh_w (i := (.lookupswitch 180 #[(37, 177), (38, 163), (42, 177), (43, 174), (45, 174), (47, 177), (60, 168), (62, 168), (94, 161), (124, 159), (8509, 165), (9766, 157), (15420, 171), (15421, 168), (15677, 165), (15933, 168), (15934, 171), (31868, 155)])) (len := 155) (pc2 := 156) (lv2 := [(0, .int x0)]) (st2 := []) (h2 := (sh_rep m.T m.I m.J)) rfl rfl (sh_sw c rfl) ?_
      refine sh_w (i := (.iconst 1)) (len := 1) (pc2 := 157) (lv2 := [(0, .int x0)]) (st2 := [.int 1]) (h2 := (sh_rep m.T m.I m.J)) rfl rfl rfl ?_
      exact kk
    obtain rfl := e
    obtain ⟨rfl, rfl⟩ := tg
    exact sh_Lk_ret (i := .ireturn) rfl rfl rfl (Nat.le_of_ble_eq_true rfl) (Nat.le_of_ble_eq_true rfl)
  refine sh_Lk_lift (T := m.T) (I := m.I) (J := m.J) (s := m.s) (pc2 := 182) (lv2 := [(0, .int x0)]) (st2 := [.int 0]) (I2 := m.I) (J2 := m.J) (fun hT v kk => ?_) ?_
  · refine sh_w (i := (.lookupswitch 180 #[(37, 177), (38, 163), (42, 177), (43, 174), (45, 174), (47, 177), (60, 168), (62, 168), (94, 161), (124, 159), (8509, 165), (9766, 157), (15420, 171), (15421, 168), (15677, 165), (15933, 168), (15934, 171), (31868, 155)])) (len := 155) (pc2 := 181) (lv2 := [(0, .int x0)]) (st2 := []) (h2 := (sh_rep m.T m.I m.J)) rfl rfl (sh_swl rfl (sh_fc (fun h => c0 (Or.inl h)) (sh_fc (fun h => c1 (h)) (sh_fc (fun h => c0 (Or.inr (Or.inl h))) (sh_fc (fun h => c2 (Or.inl h)) (sh_fc (fun h => c2 (Or.inr (h))) (sh_fc (fun h => c0 (Or.inr (Or.inr (h)))) (sh_fc (fun h => c3 (Or.inl h)) (sh_fc (fun h => c3 (Or.inr (Or.inl h))) (sh_fc (fun h => c4 (h)) (sh_fc (fun h => c5 (h)) (sh_fc (fun h => c6 (Or.inl h)) (sh_fc (fun h => c7 (h)) (sh_fc (fun h => c8 (Or.inl h)) (sh_fc (fun h => c3 (Or.inr (Or.inr (Or.inl h)))) (sh_fc (fun h => c6 (Or.inr (h))) (sh_fc (fun h => c3 (Or.inr (Or.inr (Or.inr (h))))) (sh_fc (fun h => c8 (Or.inr (h))) (sh_fc (fun h => c9 (h)) sh_fn)))))))))))))))))) rfl) ?_
    refine sh_w (i := (.iconst 0)) (len := 1) (pc2 := 182) (lv2 := [(0, .int x0)]) (st2 := [.int 0]) (h2 := (sh_rep m.T m.I m.J)) rfl rfl rfl ?_
    exact kk
  obtain rfl := e
  obtain ⟨rfl, rfl⟩ := tg
  exact sh_Lk_ret (i := .ireturn) rfl rfl rfl (Nat.le_of_ble_eq_true rfl) (Nat.le_of_ble_eq_true rfl)
theorem sl_70_5s {x1 : Int32} {x2 : Int32} {x3 : Int32} {m m2 : sh_X} {o : Outcome} {z : ((Int32 × sh_X) ⊕ (Unit × sh_X))} (e : sf_70_5s x1 x2 x3 m = some z) (tg : (sh_el (fun q => sh_Lk 70 5 [(0, .ref 40), (1, .int x1), (2, .int x2), (3, .int q.1)] [] q.2 o m2 9 223) (sh_tV o m2)) z) : sh_Lk 70 5 [(0, .ref 40), (1, .int x1), (2, .int x2), (3, .int x3)] [] m o m2 9 223 := by
  unfold sf_70_5s at e
  refine sh_Lk_lift (T := m.T) (I := m.I) (J := m.J) (s := m.s) (pc2 := 7) (lv2 := [(0, .ref 40), (1, .int x1), (2, .int x2), (3, .int x3)]) (st2 := [.int x1, .int x3]) (I2 := m.I) (J2 := m.J) (fun hT v kk => ?_) ?_
  · refine sh_w (i := (.iload_n 3)) (len := 1) (pc2 := 6) (lv2 := [(0, .ref 40), (1, .int x1), (2, .int x2), (3, .int x3)]) (st2 := [.int x3]) (h2 := (sh_rep m.T m.I m.J)) rfl rfl rfl ?_
    refine sh_w (i := (.iload_n 1)) (len := 1) (pc2 := 7) (lv2 := [(0, .ref 40), (1, .int x1), (2, .int x2), (3, .int x3)]) (st2 := [.int x1, .int x3]) (h2 := (sh_rep m.T m.I m.J)) rfl rfl rfl ?_
    exact kk
  rcases sh_ite e with ⟨c, e⟩ | ⟨c, e⟩
  · refine sh_Lk_lift (T := m.T) (I := m.I) (J := m.J) (s := m.s) (pc2 := 11) (lv2 := [(0, .ref 40), (1, .int x1), (2, .int x2), (3, .int x3)]) (st2 := [.int x3]) (I2 := m.I) (J2 := m.J) (fun hT v kk => ?_) ?_
    · refine sh_jc (c := .le) (off := (60)) (pc2 := 10) false rfl (sh_Blef c) rfl ?_
      refine sh_w (i := (.iload_n 3)) (len := 1) (pc2 := 11) (lv2 := [(0, .ref 40), (1, .int x1), (2, .int x2), (3, .int x3)]) (st2 := [.int x3]) (h2 := (sh_rep m.T m.I m.J)) rfl rfl rfl ?_
      exact kk
    rcases sh_ite e with ⟨c, e⟩ | ⟨c, e⟩
    · refine sh_Lk_lift (T := m.T) (I := m.I) (J := m.J) (s := m.s) (pc2 := 21) (lv2 := [(0, .ref 40), (1, .int x1), (2, .int x2), (3, .int x3)]) (st2 := [.int (x3 - 1), .ref 41]) (I2 := m.I) (J2 := m.J) (fun hT v kk => ?_) ?_
      · refine sh_j0 (c := .le) (off := (56)) (pc2 := 14) false rfl (sh_Blef c) rfl ?_
        refine sh_w (i := (.aload_n 0)) (len := 1) (pc2 := 15) (lv2 := [(0, .ref 40), (1, .int x1), (2, .int x2), (3, .int x3)]) (st2 := [.ref 40]) (h2 := (sh_rep m.T m.I m.J)) rfl rfl rfl ?_
        refine sh_gR1 (len := 3) (x := .ref 41) (pc2 := 18) rfl rfl (sh_s39 hT.st) rfl rfl ?_
        refine sh_w (i := (.iload_n 3)) (len := 1) (pc2 := 19) (lv2 := [(0, .ref 40), (1, .int x1), (2, .int x2), (3, .int x3)]) (st2 := [.int x3, .ref 41]) (h2 := (sh_rep m.T m.I m.J)) rfl rfl rfl ?_
        refine sh_w (i := (.iconst 1)) (len := 1) (pc2 := 20) (lv2 := [(0, .ref 40), (1, .int x1), (2, .int x2), (3, .int x3)]) (st2 := [.int 1, .int x3, .ref 41]) (h2 := (sh_rep m.T m.I m.J)) rfl rfl rfl ?_
        refine sh_w (i := .isub) (len := 1) (pc2 := 21) (lv2 := [(0, .ref 40), (1, .int x1), (2, .int x2), (3, .int x3)]) (st2 := [.int (x3 - 1), .ref 41]) (h2 := (sh_rep m.T m.I m.J)) rfl rfl rfl ?_
        exact kk
      obtain ⟨c, e⟩ := sh_gd e
      refine sh_Lk_lift (T := m.T) (I := m.I) (J := m.J) (s := m.s) (pc2 := 30) (lv2 := [(4, .int (m.I 40 (Int32.toNatClampNeg (x3 - 1)))), (0, .ref 40), (1, .int x1), (2, .int x2), (3, .int x3)]) (st2 := [.int (m.I 40 (Int32.toNatClampNeg (x3 - 1))), .ref 3]) (I2 := m.I) (J2 := m.J) (fun hT v kk => ?_) ?_
      · refine sh_ia1 (x := m.I 40 (Int32.toNatClampNeg (x3 - 1))) (pc2 := 22) rfl (sh_s40 hT.st) (sh_okb1 c) (sh_okb2 c) rfl rfl ?_
        refine sh_w (i := (.istore 4)) (len := 2) (pc2 := 24) (lv2 := [(4, .int (m.I 40 (Int32.toNatClampNeg (x3 - 1)))), (0, .ref 40), (1, .int x1), (2, .int x2), (3, .int x3)]) (st2 := []) (h2 := (sh_rep m.T m.I m.J)) rfl rfl rfl ?_
        refine sh_w (i := (.aload_n 0)) (len := 1) (pc2 := 25) (lv2 := [(4, .int (m.I 40 (Int32.toNatClampNeg (x3 - 1)))), (0, .ref 40), (1, .int x1), (2, .int x2), (3, .int x3)]) (st2 := [.ref 40]) (h2 := (sh_rep m.T m.I m.J)) rfl rfl rfl ?_
        refine sh_gR1 (len := 3) (x := .ref 3) (pc2 := 28) rfl rfl (sh_s39 hT.st) rfl rfl ?_
        refine sh_w (i := (.iload 4)) (len := 2) (pc2 := 30) (lv2 := [(4, .int (m.I 40 (Int32.toNatClampNeg (x3 - 1)))), (0, .ref 40), (1, .int x1), (2, .int x2), (3, .int x3)]) (st2 := [.int (m.I 40 (Int32.toNatClampNeg (x3 - 1))), .ref 3]) (h2 := (sh_rep m.T m.I m.J)) rfl rfl rfl ?_
        exact kk
      obtain ⟨r1, e1, e⟩ := sh_bc_e e
      refine sh_Lk_cV (r := (some (.int r1))) (st2 := [.int r1]) (pc2 := 33) (k2 := 46) (a := 2) (as := [.ref 3, .int (m.I 40 (Int32.toNatClampNeg (x3 - 1)))]) (rest := []) rfl rfl rfl (fun hT => hT.t2) rfl rfl ⟨Nat.le_of_ble_eq_true rfl, Nat.le_of_ble_eq_true rfl⟩ (sl_46 e1 ⟨rfl, rfl⟩) rfl rfl (Nat.le_of_ble_eq_true rfl) (Nat.le_of_ble_eq_true rfl) ?_
      refine sh_Lk_cS (r := (some (.int (sf_69 r1)))) (st2 := [.int (sf_69 r1)]) (pc2 := 36) (k2 := 69) (as := [.int r1]) (rest := []) rfl rfl (by decide) (Nat.le_of_ble_eq_true rfl) rfl rfl ⟨Nat.le_of_ble_eq_true rfl, Nat.le_of_ble_eq_true rfl⟩ (sl_69 (m := m) rfl ⟨rfl, rfl⟩) rfl rfl (Nat.le_of_ble_eq_true rfl) (Nat.le_of_ble_eq_true rfl) ?_
      refine sh_Lk_lift (T := m.T) (I := m.I) (J := m.J) (s := m.s) (pc2 := 37) (lv2 := [(4, .int (m.I 40 (Int32.toNatClampNeg (x3 - 1)))), (0, .ref 40), (1, .int x1), (2, .int x2), (3, .int x3)]) (st2 := [.int x2, .int (sf_69 r1)]) (I2 := m.I) (J2 := m.J) (fun hT v kk => ?_) ?_
      · refine sh_w (i := (.iload_n 2)) (len := 1) (pc2 := 37) (lv2 := [(4, .int (m.I 40 (Int32.toNatClampNeg (x3 - 1)))), (0, .ref 40), (1, .int x1), (2, .int x2), (3, .int x3)]) (st2 := [.int x2, .int (sf_69 r1)]) (h2 := (sh_rep m.T m.I m.J)) rfl rfl rfl ?_
        exact kk
      rcases sh_ite e with ⟨c, e⟩ | ⟨c, e⟩
      · refine sh_Lk_lift (T := m.T) (I := m.I) (J := m.J) (s := m.s) (pc2 := 40) (lv2 := [(4, .int (m.I 40 (Int32.toNatClampNeg (x3 - 1)))), (0, .ref 40), (1, .int x1), (2, .int x2), (3, .int x3)]) (st2 := []) (I2 := m.I) (J2 := m.J) (fun hT v kk => ?_) ?_
        · refine sh_jc (c := .ge) (off := (4)) (pc2 := 40) false rfl (sh_Bgef c) rfl ?_
          exact kk
        obtain rfl := Option.some.inj e
        obtain ⟨rfl, rfl⟩ := tg
        exact sh_Lk_ret (i := .return_) rfl rfl rfl (Nat.le_of_ble_eq_true rfl) (Nat.le_of_ble_eq_true rfl)
      · refine sh_Lk_lift (T := m.T) (I := m.I) (J := m.J) (s := m.s) (pc2 := 50) (lv2 := [(4, .int (m.I 40 (Int32.toNatClampNeg (x3 - 1)))), (0, .ref 40), (1, .int x1), (2, .int x2), (3, .int x3)]) (st2 := [.int 0, .int (m.I 40 (Int32.toNatClampNeg (x3 - 1))), .int 25, .ref 29]) (I2 := m.I) (J2 := m.J) (fun hT v kk => ?_) ?_
        · refine sh_jc (c := .ge) (off := (4)) (pc2 := 41) true rfl (sh_Bget c) rfl ?_
          refine sh_w (i := (.aload_n 0)) (len := 1) (pc2 := 42) (lv2 := [(4, .int (m.I 40 (Int32.toNatClampNeg (x3 - 1)))), (0, .ref 40), (1, .int x1), (2, .int x2), (3, .int x3)]) (st2 := [.ref 40]) (h2 := (sh_rep m.T m.I m.J)) rfl rfl rfl ?_
          refine sh_gR1 (len := 3) (x := .ref 29) (pc2 := 45) rfl rfl (sh_s39 hT.st) rfl rfl ?_
          refine sh_w (i := (.bipush 25)) (len := 2) (pc2 := 47) (lv2 := [(4, .int (m.I 40 (Int32.toNatClampNeg (x3 - 1)))), (0, .ref 40), (1, .int x1), (2, .int x2), (3, .int x3)]) (st2 := [.int 25, .ref 29]) (h2 := (sh_rep m.T m.I m.J)) rfl rfl rfl ?_
          refine sh_w (i := (.iload 4)) (len := 2) (pc2 := 49) (lv2 := [(4, .int (m.I 40 (Int32.toNatClampNeg (x3 - 1)))), (0, .ref 40), (1, .int x1), (2, .int x2), (3, .int x3)]) (st2 := [.int (m.I 40 (Int32.toNatClampNeg (x3 - 1))), .int 25, .ref 29]) (h2 := (sh_rep m.T m.I m.J)) rfl rfl rfl ?_
          refine sh_w (i := (.iconst 0)) (len := 1) (pc2 := 50) (lv2 := [(4, .int (m.I 40 (Int32.toNatClampNeg (x3 - 1)))), (0, .ref 40), (1, .int x1), (2, .int x2), (3, .int x3)]) (st2 := [.int 0, .int (m.I 40 (Int32.toNatClampNeg (x3 - 1))), .int 25, .ref 29]) (h2 := (sh_rep m.T m.I m.J)) rfl rfl rfl ?_
          exact kk
        obtain ⟨r3, m13, e3, e⟩ := sh_bn_e e
        refine sh_Lk_cV (r := (some (.int r3))) (st2 := [.int r3]) (pc2 := 53) (k2 := 56) (a := 28) (as := [.ref 29, .int 25, .int (m.I 40 (Int32.toNatClampNeg (x3 - 1))), .int 0]) (rest := []) rfl rfl rfl (fun hT => (sh_s28 hT.st)) rfl rfl ⟨Nat.le_of_ble_eq_true rfl, Nat.le_of_ble_eq_true rfl⟩ (sl_56 e3 ⟨rfl, rfl⟩) rfl rfl (Nat.le_of_ble_eq_true rfl) (Nat.le_of_ble_eq_true rfl) ?_
        refine sh_Lk_lift (T := m13.T) (I := m13.I) (J := m13.J) (s := m13.s) (pc2 := 5) (lv2 := [(3, .int (x3 + (-1))), (4, .int (m.I 40 (Int32.toNatClampNeg (x3 - 1)))), (0, .ref 40), (1, .int x1), (2, .int x2)]) (st2 := []) (I2 := sh_u2 m13.I 39 3 (x3 - 1)) (J2 := m13.J) (fun hT v kk => ?_) ?_
        · refine sh_w (i := .pop) (len := 1) (pc2 := 54) (lv2 := [(4, .int (m.I 40 (Int32.toNatClampNeg (x3 - 1)))), (0, .ref 40), (1, .int x1), (2, .int x2), (3, .int x3)]) (st2 := []) (h2 := (sh_rep m13.T m13.I m13.J)) rfl rfl rfl ?_
          refine sh_w (i := (.aload_n 0)) (len := 1) (pc2 := 55) (lv2 := [(4, .int (m.I 40 (Int32.toNatClampNeg (x3 - 1)))), (0, .ref 40), (1, .int x1), (2, .int x2), (3, .int x3)]) (st2 := [.ref 40]) (h2 := (sh_rep m13.T m13.I m13.J)) rfl rfl rfl ?_
          refine sh_w (i := (.iload_n 3)) (len := 1) (pc2 := 56) (lv2 := [(4, .int (m.I 40 (Int32.toNatClampNeg (x3 - 1)))), (0, .ref 40), (1, .int x1), (2, .int x2), (3, .int x3)]) (st2 := [.int x3, .ref 40]) (h2 := (sh_rep m13.T m13.I m13.J)) rfl rfl rfl ?_
          refine sh_w (i := (.iconst 1)) (len := 1) (pc2 := 57) (lv2 := [(4, .int (m.I 40 (Int32.toNatClampNeg (x3 - 1)))), (0, .ref 40), (1, .int x1), (2, .int x2), (3, .int x3)]) (st2 := [.int 1, .int x3, .ref 40]) (h2 := (sh_rep m13.T m13.I m13.J)) rfl rfl rfl ?_
          refine sh_w (i := .isub) (len := 1) (pc2 := 58) (lv2 := [(4, .int (m.I 40 (Int32.toNatClampNeg (x3 - 1)))), (0, .ref 40), (1, .int x1), (2, .int x2), (3, .int x3)]) (st2 := [.int (x3 - 1), .ref 40]) (h2 := (sh_rep m13.T m13.I m13.J)) rfl rfl rfl ?_
          refine sh_pI1 (x := x3 - 1) (pc2 := 61) rfl rfl (sh_s39 hT.st) rfl rfl rfl rfl ?_
          refine sh_w (i := (.iinc 3 (-1))) (len := 3) (pc2 := 64) (lv2 := [(3, .int (x3 + (-1))), (4, .int (m.I 40 (Int32.toNatClampNeg (x3 - 1)))), (0, .ref 40), (1, .int x1), (2, .int x2)]) (st2 := []) (h2 := (sh_rep m13.T (sh_u2 m13.I 39 3 (x3 - 1)) m13.J)) rfl rfl rfl ?_
          refine sh_w (i := (.goto (-59))) (len := 3) (pc2 := 5) (lv2 := [(3, .int (x3 + (-1))), (4, .int (m.I 40 (Int32.toNatClampNeg (x3 - 1)))), (0, .ref 40), (1, .int x1), (2, .int x2)]) (st2 := []) (h2 := (sh_rep m13.T (sh_u2 m13.I 39 3 (x3 - 1)) m13.J)) rfl rfl rfl ?_
          exact kk
        obtain rfl := Option.some.inj e
        exact sh_Lk_sub (sh_sub_c rfl (sh_sub_c rfl (sh_sub_c rfl (sh_sub_c rfl (sh_sub_n))))) tg
    · refine sh_Lk_lift (T := m.T) (I := m.I) (J := m.J) (s := m.s) (pc2 := 67) (lv2 := [(0, .ref 40), (1, .int x1), (2, .int x2), (3, .int x3)]) (st2 := []) (I2 := m.I) (J2 := m.J) (fun hT v kk => ?_) ?_
      · refine sh_j0 (c := .le) (off := (56)) (pc2 := 67) true rfl (sh_Blet c) rfl ?_
        exact kk
      obtain rfl := Option.some.inj e
      obtain ⟨rfl, rfl⟩ := tg
      exact sh_Lk_ret (i := .return_) rfl rfl rfl (Nat.le_of_ble_eq_true rfl) (Nat.le_of_ble_eq_true rfl)
  · refine sh_Lk_lift (T := m.T) (I := m.I) (J := m.J) (s := m.s) (pc2 := 67) (lv2 := [(0, .ref 40), (1, .int x1), (2, .int x2), (3, .int x3)]) (st2 := []) (I2 := m.I) (J2 := m.J) (fun hT v kk => ?_) ?_
    · refine sh_jc (c := .le) (off := (60)) (pc2 := 67) true rfl (sh_Blet c) rfl ?_
      exact kk
    obtain rfl := Option.some.inj e
    obtain ⟨rfl, rfl⟩ := tg
    exact sh_Lk_ret (i := .return_) rfl rfl rfl (Nat.le_of_ble_eq_true rfl) (Nat.le_of_ble_eq_true rfl)
theorem sl_70_5 {x1 : Int32} {x2 : Int32} {x3 : Int32} {m m2 : sh_X} {o : Outcome} {z : (Unit × sh_X)} (e : sf_70_5 x1 x2 x3 m = some z) (tg : (sh_tV o m2) z) : sh_Lk 70 5 [(0, .ref 40), (1, .int x1), (2, .int x2), (3, .int x3)] [] m o m2 9 223 := by
  unfold sf_70_5 at e
  exact sh_while_lk (P := fun q => sh_Lk 70 5 [(0, .ref 40), (1, .int x1), (2, .int x2), (3, .int q.1)] [] q.2 o m2 9 223) (Q := (sh_tV o m2)) (fun q z e tg => sl_70_5s (x1 := x1) (x2 := x2) (x3 := q.1) (m := q.2) e tg) (s := (x3, m)) e tg
theorem sl_70 {x1 : Int32} {x2 : Int32} {m m2 : sh_X} {o : Outcome} {z : (Unit × sh_X)} (e : sf_70 x1 x2 m = some z) (tg : (sh_tV o m2) z) : sh_Lk 70 0 [(0, .ref 40), (1, .int x1), (2, .int x2)] [] m o m2 9 223 := by
  unfold sf_70 at e
  refine sh_Lk_lift (T := m.T) (I := m.I) (J := m.J) (s := m.s) (pc2 := 5) (lv2 := [(3, .int (m.I 39 3)), (0, .ref 40), (1, .int x1), (2, .int x2)]) (st2 := []) (I2 := m.I) (J2 := m.J) (fun hT v kk => ?_) ?_
  · refine sh_w (i := (.aload_n 0)) (len := 1) (pc2 := 1) (lv2 := [(0, .ref 40), (1, .int x1), (2, .int x2)]) (st2 := [.ref 40]) (h2 := (sh_rep m.T m.I m.J)) rfl rfl rfl ?_
    refine sh_gI1 (len := 3) (x := m.I 39 3) (pc2 := 4) rfl rfl (sh_s39 hT.st) rfl rfl rfl ?_
    refine sh_w (i := (.istore_n 3)) (len := 1) (pc2 := 5) (lv2 := [(3, .int (m.I 39 3)), (0, .ref 40), (1, .int x1), (2, .int x2)]) (st2 := []) (h2 := (sh_rep m.T m.I m.J)) rfl rfl rfl ?_
    exact kk
  exact sh_Lk_sub (sh_sub_c rfl (sh_sub_c rfl (sh_sub_c rfl (sh_sub_c rfl (sh_sub_n))))) (sl_70_5 e tg)
def sh_QL44 (Q : sh_Q44) (d : Nat) : Prop := (∀ {x1 : Int32} {m m2 : sh_X} {o : Outcome} {z : (Option Unit × sh_X)}, Q.f58 x1 m = some z → (sh_tVt o m2) z → sh_Lk 58 0 [(0, .ref 40), (1, .int x1)] [] m o m2 (d + 11) (40 * d + 263)) ∧ (∀ {x1 : Int32} {m m2 : sh_X} {o : Outcome} {z : (Option Unit × sh_X)}, Q.f59 x1 m = some z → (sh_tVt o m2) z → sh_Lk 59 0 [(0, .ref 40), (1, .int x1)] [] m o m2 (d + 11) (40 * d + 263)) ∧ (∀ {x1 : Int32} {m m2 : sh_X} {o : Outcome} {z : (Option Unit × sh_X)}, Q.f61 x1 m = some z → (sh_tVt o m2) z → sh_Lk 61 0 [(0, .ref 40), (1, .int x1)] [] m o m2 (d + 11) (40 * d + 263)) ∧ (∀ {x1 : Int32} {m m2 : sh_X} {o : Outcome} {z : (Option Unit × sh_X)}, Q.f62 x1 m = some z → (sh_tVt o m2) z → sh_Lk 62 0 [(0, .ref 40), (1, .int x1)] [] m o m2 (d + 11) (40 * d + 263)) ∧ (∀ {x1 : Int32} {m m2 : sh_X} {o : Outcome} {z : (Option Unit × sh_X)}, Q.f65 x1 m = some z → (sh_tVt o m2) z → sh_Lk 65 0 [(0, .ref 40), (1, .int x1)] [] m o m2 (d + 11) (40 * d + 263)) ∧ (∀ {x1 : Int32} {m m2 : sh_X} {o : Outcome} {z : (Option Unit × sh_X)}, Q.f67 x1 m = some z → (sh_tVt o m2) z → sh_Lk 67 0 [(0, .ref 40), (1, .int x1)] [] m o m2 (d + 11) (40 * d + 263)) ∧ (∀ {x1 : Int32} {m m2 : sh_X} {o : Outcome} {z : (Option Unit × sh_X)}, Q.f68 x1 m = some z → (sh_tVt o m2) z → sh_Lk 68 0 [(0, .ref 40), (1, .int x1)] [] m o m2 (d + 11) (40 * d + 263))
theorem sh_QL44.f58 {Q : sh_Q44} {d : Nat} (h : sh_QL44 Q d) : ∀ {x1 : Int32} {m m2 : sh_X} {o : Outcome} {z : (Option Unit × sh_X)}, Q.f58 x1 m = some z → (sh_tVt o m2) z → sh_Lk 58 0 [(0, .ref 40), (1, .int x1)] [] m o m2 (d + 11) (40 * d + 263) := h.1
theorem sh_QL44.f59 {Q : sh_Q44} {d : Nat} (h : sh_QL44 Q d) : ∀ {x1 : Int32} {m m2 : sh_X} {o : Outcome} {z : (Option Unit × sh_X)}, Q.f59 x1 m = some z → (sh_tVt o m2) z → sh_Lk 59 0 [(0, .ref 40), (1, .int x1)] [] m o m2 (d + 11) (40 * d + 263) := h.2.1
theorem sh_QL44.f61 {Q : sh_Q44} {d : Nat} (h : sh_QL44 Q d) : ∀ {x1 : Int32} {m m2 : sh_X} {o : Outcome} {z : (Option Unit × sh_X)}, Q.f61 x1 m = some z → (sh_tVt o m2) z → sh_Lk 61 0 [(0, .ref 40), (1, .int x1)] [] m o m2 (d + 11) (40 * d + 263) := h.2.2.1
theorem sh_QL44.f62 {Q : sh_Q44} {d : Nat} (h : sh_QL44 Q d) : ∀ {x1 : Int32} {m m2 : sh_X} {o : Outcome} {z : (Option Unit × sh_X)}, Q.f62 x1 m = some z → (sh_tVt o m2) z → sh_Lk 62 0 [(0, .ref 40), (1, .int x1)] [] m o m2 (d + 11) (40 * d + 263) := h.2.2.2.1
theorem sh_QL44.f65 {Q : sh_Q44} {d : Nat} (h : sh_QL44 Q d) : ∀ {x1 : Int32} {m m2 : sh_X} {o : Outcome} {z : (Option Unit × sh_X)}, Q.f65 x1 m = some z → (sh_tVt o m2) z → sh_Lk 65 0 [(0, .ref 40), (1, .int x1)] [] m o m2 (d + 11) (40 * d + 263) := h.2.2.2.2.1
theorem sh_QL44.f67 {Q : sh_Q44} {d : Nat} (h : sh_QL44 Q d) : ∀ {x1 : Int32} {m m2 : sh_X} {o : Outcome} {z : (Option Unit × sh_X)}, Q.f67 x1 m = some z → (sh_tVt o m2) z → sh_Lk 67 0 [(0, .ref 40), (1, .int x1)] [] m o m2 (d + 11) (40 * d + 263) := h.2.2.2.2.2.1
theorem sh_QL44.f68 {Q : sh_Q44} {d : Nat} (h : sh_QL44 Q d) : ∀ {x1 : Int32} {m m2 : sh_X} {o : Outcome} {z : (Option Unit × sh_X)}, Q.f68 x1 m = some z → (sh_tVt o m2) z → sh_Lk 68 0 [(0, .ref 40), (1, .int x1)] [] m o m2 (d + 11) (40 * d + 263) := h.2.2.2.2.2.2
theorem sh_QL44.mk {Q : sh_Q44} {d : Nat} (f58 : ∀ {x1 : Int32} {m m2 : sh_X} {o : Outcome} {z : (Option Unit × sh_X)}, Q.f58 x1 m = some z → (sh_tVt o m2) z → sh_Lk 58 0 [(0, .ref 40), (1, .int x1)] [] m o m2 (d + 11) (40 * d + 263)) (f59 : ∀ {x1 : Int32} {m m2 : sh_X} {o : Outcome} {z : (Option Unit × sh_X)}, Q.f59 x1 m = some z → (sh_tVt o m2) z → sh_Lk 59 0 [(0, .ref 40), (1, .int x1)] [] m o m2 (d + 11) (40 * d + 263)) (f61 : ∀ {x1 : Int32} {m m2 : sh_X} {o : Outcome} {z : (Option Unit × sh_X)}, Q.f61 x1 m = some z → (sh_tVt o m2) z → sh_Lk 61 0 [(0, .ref 40), (1, .int x1)] [] m o m2 (d + 11) (40 * d + 263)) (f62 : ∀ {x1 : Int32} {m m2 : sh_X} {o : Outcome} {z : (Option Unit × sh_X)}, Q.f62 x1 m = some z → (sh_tVt o m2) z → sh_Lk 62 0 [(0, .ref 40), (1, .int x1)] [] m o m2 (d + 11) (40 * d + 263)) (f65 : ∀ {x1 : Int32} {m m2 : sh_X} {o : Outcome} {z : (Option Unit × sh_X)}, Q.f65 x1 m = some z → (sh_tVt o m2) z → sh_Lk 65 0 [(0, .ref 40), (1, .int x1)] [] m o m2 (d + 11) (40 * d + 263)) (f67 : ∀ {x1 : Int32} {m m2 : sh_X} {o : Outcome} {z : (Option Unit × sh_X)}, Q.f67 x1 m = some z → (sh_tVt o m2) z → sh_Lk 67 0 [(0, .ref 40), (1, .int x1)] [] m o m2 (d + 11) (40 * d + 263)) (f68 : ∀ {x1 : Int32} {m m2 : sh_X} {o : Outcome} {z : (Option Unit × sh_X)}, Q.f68 x1 m = some z → (sh_tVt o m2) z → sh_Lk 68 0 [(0, .ref 40), (1, .int x1)] [] m o m2 (d + 11) (40 * d + 263)) : sh_QL44 Q d := ⟨f58, f59, f61, f62, f65, f67, f68⟩
theorem sl_58_55 {Q : sh_Q44} {d : Nat} {x1 : Int32} {x2 : Int32} {x3 : Int32} {m m2 : sh_X} {o : Outcome} {z : ((Int32 × sh_X) ⊕ (Option Unit × sh_X))} (hQ : sh_QL44 Q d) (e : sf_58_55 Q x1 x2 x3 m = some z) (tg : (sh_el (fun q => sh_Lk 58 12 [(0, .ref 40), (1, .int x1), (2, .int x2), (3, .int q.1)] [] q.2 o m2 (d + 1 + 11) (40 * (d + 1) + 263)) (sh_tVt o m2)) z) : sh_Lk 58 55 [(0, .ref 40), (1, .int x1), (2, .int x2), (3, .int x3)] [] m o m2 (d + 1 + 11) (40 * (d + 1) + 263) := by
  unfold sf_58_55 at e
  refine sh_Lk_lift (T := m.T) (I := m.I) (J := m.J) (s := m.s) (pc2 := 67) (lv2 := [(0, .ref 40), (1, .int x1), (2, .int x2), (3, .int x3)]) (st2 := [.int (m.I 39 4), .int (m.I 39 3), .ref 41]) (I2 := m.I) (J2 := m.J) (fun hT v kk => ?_) ?_
  · refine sh_w (i := (.aload_n 0)) (len := 1) (pc2 := 56) (lv2 := [(0, .ref 40), (1, .int x1), (2, .int x2), (3, .int x3)]) (st2 := [.ref 40]) (h2 := (sh_rep m.T m.I m.J)) rfl rfl rfl ?_
    refine sh_gR1 (len := 3) (x := .ref 41) (pc2 := 59) rfl rfl (sh_s39 hT.st) rfl rfl ?_
    refine sh_w (i := (.aload_n 0)) (len := 1) (pc2 := 60) (lv2 := [(0, .ref 40), (1, .int x1), (2, .int x2), (3, .int x3)]) (st2 := [.ref 40, .ref 41]) (h2 := (sh_rep m.T m.I m.J)) rfl rfl rfl ?_
    refine sh_gI1 (len := 3) (x := m.I 39 3) (pc2 := 63) rfl rfl (sh_s39 hT.st) rfl rfl rfl ?_
    refine sh_w (i := (.aload_n 0)) (len := 1) (pc2 := 64) (lv2 := [(0, .ref 40), (1, .int x1), (2, .int x2), (3, .int x3)]) (st2 := [.ref 40, .int (m.I 39 3), .ref 41]) (h2 := (sh_rep m.T m.I m.J)) rfl rfl rfl ?_
    refine sh_gI1 (len := 3) (x := m.I 39 4) (pc2 := 67) rfl rfl (sh_s39 hT.st) rfl rfl rfl ?_
    exact kk
  obtain ⟨c, e⟩ := sh_gd e
  refine sh_Lk_lift (T := m.T) (I := m.I) (J := m.J) (s := m.s) (pc2 := 90) (lv2 := [(0, .ref 40), (1, .int x1), (2, .int x2), (3, .int x3)]) (st2 := [.int x1, .ref 40]) (I2 := sh_u2 (sh_u2 (sh_u2 m.I 40 (Int32.toNatClampNeg (m.I 39 3)) (m.I 39 4)) 39 3 ((m.I 39 3) + 1)) 39 4 ((m.I 39 4) + 1)) (J2 := m.J) (fun hT v kk => ?_) ?_
  · refine sh_is1 (x := m.I 39 4) (i := m.I 39 3) (pc2 := 68) rfl (sh_s40 hT.st) (sh_okb1 c) (sh_okb2 c) rfl ?_
    refine sh_w (i := (.aload_n 0)) (len := 1) (pc2 := 69) (lv2 := [(0, .ref 40), (1, .int x1), (2, .int x2), (3, .int x3)]) (st2 := [.ref 40]) (h2 := (sh_rep m.T (sh_u2 m.I 40 (Int32.toNatClampNeg (m.I 39 3)) (m.I 39 4)) m.J)) rfl rfl rfl ?_
    refine sh_w (i := .dup) (len := 1) (pc2 := 70) (lv2 := [(0, .ref 40), (1, .int x1), (2, .int x2), (3, .int x3)]) (st2 := [.ref 40, .ref 40]) (h2 := (sh_rep m.T (sh_u2 m.I 40 (Int32.toNatClampNeg (m.I 39 3)) (m.I 39 4)) m.J)) rfl rfl rfl ?_
    refine sh_gI1 (len := 3) (x := m.I 39 3) (pc2 := 73) rfl rfl (sh_s39 hT.st) rfl rfl rfl ?_
    refine sh_w (i := (.iconst 1)) (len := 1) (pc2 := 74) (lv2 := [(0, .ref 40), (1, .int x1), (2, .int x2), (3, .int x3)]) (st2 := [.int 1, .int (m.I 39 3), .ref 40]) (h2 := (sh_rep m.T (sh_u2 m.I 40 (Int32.toNatClampNeg (m.I 39 3)) (m.I 39 4)) m.J)) rfl rfl rfl ?_
    refine sh_w (i := .iadd) (len := 1) (pc2 := 75) (lv2 := [(0, .ref 40), (1, .int x1), (2, .int x2), (3, .int x3)]) (st2 := [.int ((m.I 39 3) + 1), .ref 40]) (h2 := (sh_rep m.T (sh_u2 m.I 40 (Int32.toNatClampNeg (m.I 39 3)) (m.I 39 4)) m.J)) rfl rfl rfl ?_
    refine sh_pI1 (x := (m.I 39 3) + 1) (pc2 := 78) rfl rfl (sh_s39 hT.st) rfl rfl rfl rfl ?_
    refine sh_w (i := (.aload_n 0)) (len := 1) (pc2 := 79) (lv2 := [(0, .ref 40), (1, .int x1), (2, .int x2), (3, .int x3)]) (st2 := [.ref 40]) (h2 := (sh_rep m.T (sh_u2 (sh_u2 m.I 40 (Int32.toNatClampNeg (m.I 39 3)) (m.I 39 4)) 39 3 ((m.I 39 3) + 1)) m.J)) rfl rfl rfl ?_
    refine sh_w (i := .dup) (len := 1) (pc2 := 80) (lv2 := [(0, .ref 40), (1, .int x1), (2, .int x2), (3, .int x3)]) (st2 := [.ref 40, .ref 40]) (h2 := (sh_rep m.T (sh_u2 (sh_u2 m.I 40 (Int32.toNatClampNeg (m.I 39 3)) (m.I 39 4)) 39 3 ((m.I 39 3) + 1)) m.J)) rfl rfl rfl ?_
    refine sh_gI1 (len := 3) (x := m.I 39 4) (pc2 := 83) rfl rfl (sh_s39 hT.st) rfl rfl rfl ?_
    refine sh_w (i := (.iconst 1)) (len := 1) (pc2 := 84) (lv2 := [(0, .ref 40), (1, .int x1), (2, .int x2), (3, .int x3)]) (st2 := [.int 1, .int (m.I 39 4), .ref 40]) (h2 := (sh_rep m.T (sh_u2 (sh_u2 m.I 40 (Int32.toNatClampNeg (m.I 39 3)) (m.I 39 4)) 39 3 ((m.I 39 3) + 1)) m.J)) rfl rfl rfl ?_
    refine sh_w (i := .iadd) (len := 1) (pc2 := 85) (lv2 := [(0, .ref 40), (1, .int x1), (2, .int x2), (3, .int x3)]) (st2 := [.int ((m.I 39 4) + 1), .ref 40]) (h2 := (sh_rep m.T (sh_u2 (sh_u2 m.I 40 (Int32.toNatClampNeg (m.I 39 3)) (m.I 39 4)) 39 3 ((m.I 39 3) + 1)) m.J)) rfl rfl rfl ?_
    refine sh_pI1 (x := (m.I 39 4) + 1) (pc2 := 88) rfl rfl (sh_s39 hT.st) rfl rfl rfl rfl ?_
    refine sh_w (i := (.aload_n 0)) (len := 1) (pc2 := 89) (lv2 := [(0, .ref 40), (1, .int x1), (2, .int x2), (3, .int x3)]) (st2 := [.ref 40]) (h2 := (sh_rep m.T (sh_u2 (sh_u2 (sh_u2 m.I 40 (Int32.toNatClampNeg (m.I 39 3)) (m.I 39 4)) 39 3 ((m.I 39 3) + 1)) 39 4 ((m.I 39 4) + 1)) m.J)) rfl rfl rfl ?_
    refine sh_w (i := (.iload_n 1)) (len := 1) (pc2 := 90) (lv2 := [(0, .ref 40), (1, .int x1), (2, .int x2), (3, .int x3)]) (st2 := [.int x1, .ref 40]) (h2 := (sh_rep m.T (sh_u2 (sh_u2 (sh_u2 m.I 40 (Int32.toNatClampNeg (m.I 39 3)) (m.I 39 4)) 39 3 ((m.I 39 3) + 1)) 39 4 ((m.I 39 4) + 1)) m.J)) rfl rfl rfl ?_
    exact kk
  rcases sh_bt_e e with ⟨m11, e1, rfl⟩ | ⟨r1, m11, e1, e⟩
  · obtain ⟨rfl, rfl⟩ := tg
    exact sh_Lk_tV (k2 := 59) (a := 39) (as := [.ref 40, .int x1]) (rest := []) rfl rfl rfl (fun hT => (sh_s39 hT.st)) rfl rfl ⟨Nat.le_of_ble_eq_true rfl, Nat.le_of_ble_eq_true rfl⟩ (hQ.f59 e1 ⟨rfl, rfl⟩) rfl (show d + 11 + 1 ≤ d + 1 + 11 by omega) (show 8 + (6 + 11) + (40 * d + 263) ≤ 40 * (d + 1) + 263 by omega) (by omega) (by omega) rfl
  refine sh_Lk_cV (r := none) (st2 := []) (pc2 := 93) (k2 := 59) (a := 39) (as := [.ref 40, .int x1]) (rest := []) rfl rfl rfl (fun hT => (sh_s39 hT.st)) rfl rfl ⟨Nat.le_of_ble_eq_true rfl, Nat.le_of_ble_eq_true rfl⟩ (hQ.f59 e1 ⟨rfl, rfl⟩) rfl rfl (show d + 11 + 1 ≤ d + 1 + 11 by omega) (show 8 + (6 + 11) + (40 * d + 263) ≤ 40 * (d + 1) + 263 by omega) ?_
  refine sh_Lk_lift (T := m11.T) (I := m11.I) (J := m11.J) (s := m11.s) (pc2 := 12) (lv2 := [(3, .int (x3 + 1)), (0, .ref 40), (1, .int x1), (2, .int x2)]) (st2 := []) (I2 := m11.I) (J2 := m11.J) (fun hT v kk => ?_) ?_
  · refine sh_w (i := (.iinc 3 1)) (len := 3) (pc2 := 96) (lv2 := [(3, .int (x3 + 1)), (0, .ref 40), (1, .int x1), (2, .int x2)]) (st2 := []) (h2 := (sh_rep m11.T m11.I m11.J)) rfl rfl rfl ?_
    refine sh_w (i := (.goto (-84))) (len := 3) (pc2 := 12) (lv2 := [(3, .int (x3 + 1)), (0, .ref 40), (1, .int x1), (2, .int x2)]) (st2 := []) (h2 := (sh_rep m11.T m11.I m11.J)) rfl rfl rfl ?_
    exact kk
  obtain rfl := Option.some.inj e
  exact sh_Lk_sub (sh_sub_c rfl (sh_sub_c rfl (sh_sub_c rfl (sh_sub_c rfl (sh_sub_n))))) tg
theorem sl_58_99 {Q : sh_Q44} {d : Nat} {x2 : Int32} {m m2 : sh_X} {o : Outcome} {z : (Option Unit × sh_X)} (hQ : sh_QL44 Q d) (e : sf_58_99 Q x2 m = some z) (tg : (sh_tVt o m2) z) : sh_Lk 58 99 [(0, .ref 40), (2, .int x2)] [] m o m2 (d + 1 + 11) (40 * (d + 1) + 263) := by
  unfold sf_58_99 at e
  refine sh_Lk_lift (T := m.T) (I := m.I) (J := m.J) (s := m.s) (pc2 := 102) (lv2 := [(0, .ref 40), (2, .int x2)]) (st2 := [.int 0, .int x2, .ref 40]) (I2 := m.I) (J2 := m.J) (fun hT v kk => ?_) ?_
  · refine sh_w (i := (.aload_n 0)) (len := 1) (pc2 := 100) (lv2 := [(0, .ref 40), (2, .int x2)]) (st2 := [.ref 40]) (h2 := (sh_rep m.T m.I m.J)) rfl rfl rfl ?_
    refine sh_w (i := (.iload_n 2)) (len := 1) (pc2 := 101) (lv2 := [(0, .ref 40), (2, .int x2)]) (st2 := [.int x2, .ref 40]) (h2 := (sh_rep m.T m.I m.J)) rfl rfl rfl ?_
    refine sh_w (i := (.iconst 0)) (len := 1) (pc2 := 102) (lv2 := [(0, .ref 40), (2, .int x2)]) (st2 := [.int 0, .int x2, .ref 40]) (h2 := (sh_rep m.T m.I m.J)) rfl rfl rfl ?_
    exact kk
  obtain ⟨r1, m11, e1, e⟩ := sh_bn_e e
  refine sh_Lk_cV (r := none) (st2 := []) (pc2 := 105) (k2 := 70) (a := 39) (as := [.ref 40, .int x2, .int 0]) (rest := []) rfl rfl rfl (fun hT => (sh_s39 hT.st)) rfl rfl ⟨Nat.le_of_ble_eq_true rfl, Nat.le_of_ble_eq_true rfl⟩ (sl_70 e1 ⟨rfl, rfl⟩) rfl rfl (show 9 + 1 ≤ d + 1 + 11 by omega) (show 8 + (5 + 11) + (223) ≤ 40 * (d + 1) + 263 by omega) ?_
  obtain rfl := Option.some.inj e
  obtain ⟨rfl, rfl⟩ := tg
  exact sh_Lk_ret (i := .return_) rfl rfl rfl (by omega) (by omega)
theorem sl_58_12s {Q : sh_Q44} {d : Nat} {x1 : Int32} {x2 : Int32} {x3 : Int32} {m m2 : sh_X} {o : Outcome} {z : ((Int32 × sh_X) ⊕ (Option Unit × sh_X))} (hQ : sh_QL44 Q d) (e : sf_58_12s Q x1 x2 x3 m = some z) (tg : (sh_el (fun q => sh_Lk 58 12 [(0, .ref 40), (1, .int x1), (2, .int x2), (3, .int q.1)] [] q.2 o m2 (d + 1 + 11) (40 * (d + 1) + 263)) (sh_tVt o m2)) z) : sh_Lk 58 12 [(0, .ref 40), (1, .int x1), (2, .int x2), (3, .int x3)] [] m o m2 (d + 1 + 11) (40 * (d + 1) + 263) := by
  unfold sf_58_12s at e
  refine sh_Lk_lift (T := m.T) (I := m.I) (J := m.J) (s := m.s) (pc2 := 16) (lv2 := [(0, .ref 40), (1, .int x1), (2, .int x2), (3, .int x3)]) (st2 := [.int 4000, .int x3]) (I2 := m.I) (J2 := m.J) (fun hT v kk => ?_) ?_
  · refine sh_w (i := (.iload_n 3)) (len := 1) (pc2 := 13) (lv2 := [(0, .ref 40), (1, .int x1), (2, .int x2), (3, .int x3)]) (st2 := [.int x3]) (h2 := (sh_rep m.T m.I m.J)) rfl rfl rfl ?_
    refine sh_w (i := (.sipush 4000)) (len := 3) (pc2 := 16) (lv2 := [(0, .ref 40), (1, .int x1), (2, .int x2), (3, .int x3)]) (st2 := [.int 4000, .int x3]) (h2 := (sh_rep m.T m.I m.J)) rfl rfl rfl ?_
    exact kk
  rcases sh_ite e with ⟨c, e⟩ | ⟨c, e⟩
  · refine sh_Lk_lift (T := m.T) (I := m.I) (J := m.J) (s := m.s) (pc2 := 20) (lv2 := [(0, .ref 40), (1, .int x1), (2, .int x2), (3, .int x3)]) (st2 := [.ref 40]) (I2 := m.I) (J2 := m.J) (fun hT v kk => ?_) ?_
    · refine sh_jc (c := .ge) (off := (83)) (pc2 := 19) false rfl (sh_Bgef c) rfl ?_
      refine sh_w (i := (.aload_n 0)) (len := 1) (pc2 := 20) (lv2 := [(0, .ref 40), (1, .int x1), (2, .int x2), (3, .int x3)]) (st2 := [.ref 40]) (h2 := (sh_rep m.T m.I m.J)) rfl rfl rfl ?_
      exact kk
    obtain ⟨r1, e1, e⟩ := sh_bc_e e
    refine sh_Lk_cV (r := (some (.int r1))) (st2 := [.int r1]) (pc2 := 23) (k2 := 45) (a := 39) (as := [.ref 40]) (rest := []) rfl rfl rfl (fun hT => (sh_s39 hT.st)) rfl rfl ⟨Nat.le_of_ble_eq_true rfl, Nat.le_of_ble_eq_true rfl⟩ (sl_45 e1 ⟨rfl, rfl⟩) rfl rfl (show 9 + 1 ≤ d + 1 + 11 by omega) (show 8 + (1 + 11) + (221) ≤ 40 * (d + 1) + 263 by omega) ?_
    refine sh_Lk_cS (r := (some (.int (sf_69 r1)))) (st2 := [.int (sf_69 r1)]) (pc2 := 26) (k2 := 69) (as := [.int r1]) (rest := []) rfl rfl (by decide) (Nat.le_of_ble_eq_true rfl) rfl rfl ⟨Nat.le_of_ble_eq_true rfl, Nat.le_of_ble_eq_true rfl⟩ (sl_69 (m := m) rfl ⟨rfl, rfl⟩) rfl rfl (show 8 + 1 ≤ d + 1 + 11 by omega) (show 8 + (1 + 11) + (200) ≤ 40 * (d + 1) + 263 by omega) ?_
    rcases sh_ite e with ⟨c, e⟩ | ⟨c, e⟩
    · refine sh_Lk_lift (T := m.T) (I := m.I) (J := m.J) (s := m.s) (pc2 := 32) (lv2 := [(0, .ref 40), (1, .int x1), (2, .int x2), (3, .int x3)]) (st2 := [.ref 40, .int x2, .ref 40]) (I2 := m.I) (J2 := m.J) (fun hT v kk => ?_) ?_
      · refine sh_j0 (c := .le) (off := (73)) (pc2 := 29) false rfl (sh_Blef c) rfl ?_
        refine sh_w (i := (.aload_n 0)) (len := 1) (pc2 := 30) (lv2 := [(0, .ref 40), (1, .int x1), (2, .int x2), (3, .int x3)]) (st2 := [.ref 40]) (h2 := (sh_rep m.T m.I m.J)) rfl rfl rfl ?_
        refine sh_w (i := (.iload_n 2)) (len := 1) (pc2 := 31) (lv2 := [(0, .ref 40), (1, .int x1), (2, .int x2), (3, .int x3)]) (st2 := [.int x2, .ref 40]) (h2 := (sh_rep m.T m.I m.J)) rfl rfl rfl ?_
        refine sh_w (i := (.aload_n 0)) (len := 1) (pc2 := 32) (lv2 := [(0, .ref 40), (1, .int x1), (2, .int x2), (3, .int x3)]) (st2 := [.ref 40, .int x2, .ref 40]) (h2 := (sh_rep m.T m.I m.J)) rfl rfl rfl ?_
        exact kk
      obtain ⟨r3, e3, e⟩ := sh_bc_e e
      refine sh_Lk_cV (r := (some (.int r3))) (st2 := [.int r3, .int x2, .ref 40]) (pc2 := 35) (k2 := 45) (a := 39) (as := [.ref 40]) (rest := [.int x2, .ref 40]) rfl rfl rfl (fun hT => (sh_s39 hT.st)) rfl rfl ⟨Nat.le_of_ble_eq_true rfl, Nat.le_of_ble_eq_true rfl⟩ (sl_45 e3 ⟨rfl, rfl⟩) rfl rfl (show 9 + 1 ≤ d + 1 + 11 by omega) (show 8 + (1 + 11) + (221) ≤ 40 * (d + 1) + 263 by omega) ?_
      refine sh_Lk_cS (r := (some (.int (sf_69 r3)))) (st2 := [.int (sf_69 r3), .int x2, .ref 40]) (pc2 := 38) (k2 := 69) (as := [.int r3]) (rest := [.int x2, .ref 40]) rfl rfl (by decide) (Nat.le_of_ble_eq_true rfl) rfl rfl ⟨Nat.le_of_ble_eq_true rfl, Nat.le_of_ble_eq_true rfl⟩ (sl_69 (m := m) rfl ⟨rfl, rfl⟩) rfl rfl (show 8 + 1 ≤ d + 1 + 11 by omega) (show 8 + (1 + 11) + (200) ≤ 40 * (d + 1) + 263 by omega) ?_
      obtain ⟨r5, m15, e5, e⟩ := sh_bn_e e
      refine sh_Lk_cV (r := none) (st2 := []) (pc2 := 41) (k2 := 70) (a := 39) (as := [.ref 40, .int x2, .int (sf_69 r3)]) (rest := []) rfl rfl rfl (fun hT => (sh_s39 hT.st)) rfl rfl ⟨Nat.le_of_ble_eq_true rfl, Nat.le_of_ble_eq_true rfl⟩ (sl_70 e5 ⟨rfl, rfl⟩) rfl rfl (show 9 + 1 ≤ d + 1 + 11 by omega) (show 8 + (5 + 11) + (223) ≤ 40 * (d + 1) + 263 by omega) ?_
      refine sh_Lk_lift (T := m15.T) (I := m15.I) (J := m15.J) (s := m15.s) (pc2 := 48) (lv2 := [(0, .ref 40), (1, .int x1), (2, .int x2), (3, .int x3)]) (st2 := [.int 512, .int (m15.I 39 3)]) (I2 := m15.I) (J2 := m15.J) (fun hT v kk => ?_) ?_
      · refine sh_w (i := (.aload_n 0)) (len := 1) (pc2 := 42) (lv2 := [(0, .ref 40), (1, .int x1), (2, .int x2), (3, .int x3)]) (st2 := [.ref 40]) (h2 := (sh_rep m15.T m15.I m15.J)) rfl rfl rfl ?_
        refine sh_gI1 (len := 3) (x := m15.I 39 3) (pc2 := 45) rfl rfl (sh_s39 hT.st) rfl rfl rfl ?_
        refine sh_w (i := (.sipush 512)) (len := 3) (pc2 := 48) (lv2 := [(0, .ref 40), (1, .int x1), (2, .int x2), (3, .int x3)]) (st2 := [.int 512, .int (m15.I 39 3)]) (h2 := (sh_rep m15.T m15.I m15.J)) rfl rfl rfl ?_
        exact kk
      rcases sh_ite e with ⟨c, e⟩ | ⟨c, e⟩
      · refine sh_Lk_lift (T := m15.T) (I := m15.I) (J := m15.J) (s := m15.s) (pc2 := 55) (lv2 := [(0, .ref 40), (1, .int x1), (2, .int x2), (3, .int x3)]) (st2 := []) (I2 := m15.I) (J2 := m15.J) (fun hT v kk => ?_) ?_
        · refine sh_jc (c := .lt) (off := (7)) (pc2 := 55) true rfl (sh_Bltt c) rfl ?_
          exact kk
        exact sh_Lk_sub (sh_sub_c rfl (sh_sub_c rfl (sh_sub_c rfl (sh_sub_c rfl (sh_sub_n))))) (sl_58_55 hQ e tg)
      · refine sh_Lk_lift (T := m15.T) (I := m15.I) (J := m15.J) (s := m15.s) (pc2 := 52) (lv2 := [(0, .ref 40), (1, .int x1), (2, .int x2), (3, .int x3)]) (st2 := [.ref 40]) (I2 := m15.I) (J2 := m15.J) (fun hT v kk => ?_) ?_
        · refine sh_jc (c := .lt) (off := (7)) (pc2 := 51) false rfl (sh_Bltf c) rfl ?_
          refine sh_w (i := (.aload_n 0)) (len := 1) (pc2 := 52) (lv2 := [(0, .ref 40), (1, .int x1), (2, .int x2), (3, .int x3)]) (st2 := [.ref 40]) (h2 := (sh_rep m15.T m15.I m15.J)) rfl rfl rfl ?_
          exact kk
        rcases sh_bt_e e with ⟨m16, e6, rfl⟩ | ⟨r6, m16, e6, e⟩
        · obtain ⟨rfl, rfl⟩ := tg
          exact sh_Lk_tV (k2 := 49) (a := 39) (as := [.ref 40]) (rest := []) rfl rfl rfl (fun hT => (sh_s39 hT.st)) rfl rfl ⟨Nat.le_of_ble_eq_true rfl, Nat.le_of_ble_eq_true rfl⟩ (sl_49 e6 ⟨rfl, rfl⟩) rfl (show 9 + 1 ≤ d + 1 + 11 by omega) (show 8 + (1 + 11) + (222) ≤ 40 * (d + 1) + 263 by omega) (by omega) (by omega) rfl
        refine sh_Lk_cV (r := none) (st2 := []) (pc2 := 55) (k2 := 49) (a := 39) (as := [.ref 40]) (rest := []) rfl rfl rfl (fun hT => (sh_s39 hT.st)) rfl rfl ⟨Nat.le_of_ble_eq_true rfl, Nat.le_of_ble_eq_true rfl⟩ (sl_49 e6 ⟨rfl, rfl⟩) rfl rfl (show 9 + 1 ≤ d + 1 + 11 by omega) (show 8 + (1 + 11) + (222) ≤ 40 * (d + 1) + 263 by omega) ?_
        exact sh_Lk_sub (sh_sub_c rfl (sh_sub_c rfl (sh_sub_c rfl (sh_sub_c rfl (sh_sub_n))))) (sl_58_55 hQ e tg)
    · refine sh_Lk_lift (T := m.T) (I := m.I) (J := m.J) (s := m.s) (pc2 := 99) (lv2 := [(0, .ref 40), (1, .int x1), (2, .int x2), (3, .int x3)]) (st2 := []) (I2 := m.I) (J2 := m.J) (fun hT v kk => ?_) ?_
      · refine sh_j0 (c := .le) (off := (73)) (pc2 := 99) true rfl (sh_Blet c) rfl ?_
        exact kk
      obtain ⟨_, eu, rfl⟩ := sh_up_e e
      exact sh_Lk_sub (sh_sub_c rfl (sh_sub_c rfl (sh_sub_n))) (sl_58_99 hQ eu tg)
  · refine sh_Lk_lift (T := m.T) (I := m.I) (J := m.J) (s := m.s) (pc2 := 99) (lv2 := [(0, .ref 40), (1, .int x1), (2, .int x2), (3, .int x3)]) (st2 := []) (I2 := m.I) (J2 := m.J) (fun hT v kk => ?_) ?_
    · refine sh_jc (c := .ge) (off := (83)) (pc2 := 99) true rfl (sh_Bget c) rfl ?_
      exact kk
    obtain ⟨_, eu, rfl⟩ := sh_up_e e
    exact sh_Lk_sub (sh_sub_c rfl (sh_sub_c rfl (sh_sub_n))) (sl_58_99 hQ eu tg)
theorem sl_58_12 {Q : sh_Q44} {d : Nat} {x1 : Int32} {x2 : Int32} {x3 : Int32} {m m2 : sh_X} {o : Outcome} {z : (Option Unit × sh_X)} (hQ : sh_QL44 Q d) (e : sf_58_12 Q x1 x2 x3 m = some z) (tg : (sh_tVt o m2) z) : sh_Lk 58 12 [(0, .ref 40), (1, .int x1), (2, .int x2), (3, .int x3)] [] m o m2 (d + 1 + 11) (40 * (d + 1) + 263) := by
  unfold sf_58_12 at e
  exact sh_while_lk (P := fun q => sh_Lk 58 12 [(0, .ref 40), (1, .int x1), (2, .int x2), (3, .int q.1)] [] q.2 o m2 (d + 1 + 11) (40 * (d + 1) + 263)) (Q := (sh_tVt o m2)) (fun q z e tg => sl_58_12s (x1 := x1) (x2 := x2) (x3 := q.1) (m := q.2) hQ e tg) (s := (x3, m)) e tg
theorem sl_58 {Q : sh_Q44} {d : Nat} {x1 : Int32} {m m2 : sh_X} {o : Outcome} {z : (Option Unit × sh_X)} (hQ : sh_QL44 Q d) (e : sf_58 Q x1 m = some z) (tg : (sh_tVt o m2) z) : sh_Lk 58 0 [(0, .ref 40), (1, .int x1)] [] m o m2 (d + 1 + 11) (40 * (d + 1) + 263) := by
  unfold sf_58 at e
  refine sh_Lk_lift (T := m.T) (I := m.I) (J := m.J) (s := m.s) (pc2 := 7) (lv2 := [(2, .int (m.I 39 3)), (0, .ref 40), (1, .int x1)]) (st2 := [.int x1, .ref 40]) (I2 := m.I) (J2 := m.J) (fun hT v kk => ?_) ?_
  · refine sh_w (i := (.aload_n 0)) (len := 1) (pc2 := 1) (lv2 := [(0, .ref 40), (1, .int x1)]) (st2 := [.ref 40]) (h2 := (sh_rep m.T m.I m.J)) rfl rfl rfl ?_
    refine sh_gI1 (len := 3) (x := m.I 39 3) (pc2 := 4) rfl rfl (sh_s39 hT.st) rfl rfl rfl ?_
    refine sh_w (i := (.istore_n 2)) (len := 1) (pc2 := 5) (lv2 := [(2, .int (m.I 39 3)), (0, .ref 40), (1, .int x1)]) (st2 := []) (h2 := (sh_rep m.T m.I m.J)) rfl rfl rfl ?_
    refine sh_w (i := (.aload_n 0)) (len := 1) (pc2 := 6) (lv2 := [(2, .int (m.I 39 3)), (0, .ref 40), (1, .int x1)]) (st2 := [.ref 40]) (h2 := (sh_rep m.T m.I m.J)) rfl rfl rfl ?_
    refine sh_w (i := (.iload_n 1)) (len := 1) (pc2 := 7) (lv2 := [(2, .int (m.I 39 3)), (0, .ref 40), (1, .int x1)]) (st2 := [.int x1, .ref 40]) (h2 := (sh_rep m.T m.I m.J)) rfl rfl rfl ?_
    exact kk
  rcases sh_bt_e e with ⟨m11, e1, rfl⟩ | ⟨r1, m11, e1, e⟩
  · obtain ⟨rfl, rfl⟩ := tg
    exact sh_Lk_tV (k2 := 59) (a := 39) (as := [.ref 40, .int x1]) (rest := []) rfl rfl rfl (fun hT => (sh_s39 hT.st)) rfl rfl ⟨Nat.le_of_ble_eq_true rfl, Nat.le_of_ble_eq_true rfl⟩ (hQ.f59 e1 ⟨rfl, rfl⟩) rfl (show d + 11 + 1 ≤ d + 1 + 11 by omega) (show 8 + (6 + 11) + (40 * d + 263) ≤ 40 * (d + 1) + 263 by omega) (by omega) (by omega) rfl
  refine sh_Lk_cV (r := none) (st2 := []) (pc2 := 10) (k2 := 59) (a := 39) (as := [.ref 40, .int x1]) (rest := []) rfl rfl rfl (fun hT => (sh_s39 hT.st)) rfl rfl ⟨Nat.le_of_ble_eq_true rfl, Nat.le_of_ble_eq_true rfl⟩ (hQ.f59 e1 ⟨rfl, rfl⟩) rfl rfl (show d + 11 + 1 ≤ d + 1 + 11 by omega) (show 8 + (6 + 11) + (40 * d + 263) ≤ 40 * (d + 1) + 263 by omega) ?_
  refine sh_Lk_lift (T := m11.T) (I := m11.I) (J := m11.J) (s := m11.s) (pc2 := 12) (lv2 := [(3, .int 0), (2, .int (m.I 39 3)), (0, .ref 40), (1, .int x1)]) (st2 := []) (I2 := m11.I) (J2 := m11.J) (fun hT v kk => ?_) ?_
  · refine sh_w (i := (.iconst 0)) (len := 1) (pc2 := 11) (lv2 := [(2, .int (m.I 39 3)), (0, .ref 40), (1, .int x1)]) (st2 := [.int 0]) (h2 := (sh_rep m11.T m11.I m11.J)) rfl rfl rfl ?_
    refine sh_w (i := (.istore_n 3)) (len := 1) (pc2 := 12) (lv2 := [(3, .int 0), (2, .int (m.I 39 3)), (0, .ref 40), (1, .int x1)]) (st2 := []) (h2 := (sh_rep m11.T m11.I m11.J)) rfl rfl rfl ?_
    exact kk
  exact sh_Lk_sub (sh_sub_c rfl (sh_sub_c rfl (sh_sub_c rfl (sh_sub_c rfl (sh_sub_n))))) (sl_58_12 hQ e tg)
theorem sl_59_65s {Q : sh_Q44} {d : Nat} {x1 : Int32} {x4 : Int32} {m m2 : sh_X} {o : Outcome} {z : ((Int32 × sh_X) ⊕ (Option Unit × sh_X))} (hQ : sh_QL44 Q d) (e : sf_59_65s Q x1 x4 m = some z) (tg : (sh_el (fun q => sh_Lk 59 65 [(0, .ref 40), (1, .int x1), (4, .int q.1)] [] q.2 o m2 (d + 1 + 11) (40 * (d + 1) + 263)) (sh_tVt o m2)) z) : sh_Lk 59 65 [(0, .ref 40), (1, .int x1), (4, .int x4)] [] m o m2 (d + 1 + 11) (40 * (d + 1) + 263) := by
  unfold sf_59_65s at e
  refine sh_Lk_lift (T := m.T) (I := m.I) (J := m.J) (s := m.s) (pc2 := 70) (lv2 := [(0, .ref 40), (1, .int x1), (4, .int x4)]) (st2 := [.int 4000, .int x4]) (I2 := m.I) (J2 := m.J) (fun hT v kk => ?_) ?_
  · refine sh_w (i := (.iload 4)) (len := 2) (pc2 := 67) (lv2 := [(0, .ref 40), (1, .int x1), (4, .int x4)]) (st2 := [.int x4]) (h2 := (sh_rep m.T m.I m.J)) rfl rfl rfl ?_
    refine sh_w (i := (.sipush 4000)) (len := 3) (pc2 := 70) (lv2 := [(0, .ref 40), (1, .int x1), (4, .int x4)]) (st2 := [.int 4000, .int x4]) (h2 := (sh_rep m.T m.I m.J)) rfl rfl rfl ?_
    exact kk
  rcases sh_ite e with ⟨c, e⟩ | ⟨c, e⟩
  · refine sh_Lk_lift (T := m.T) (I := m.I) (J := m.J) (s := m.s) (pc2 := 74) (lv2 := [(0, .ref 40), (1, .int x1), (4, .int x4)]) (st2 := [.ref 40]) (I2 := m.I) (J2 := m.J) (fun hT v kk => ?_) ?_
    · refine sh_jc (c := .ge) (off := (55)) (pc2 := 73) false rfl (sh_Bgef c) rfl ?_
      refine sh_w (i := (.aload_n 0)) (len := 1) (pc2 := 74) (lv2 := [(0, .ref 40), (1, .int x1), (4, .int x4)]) (st2 := [.ref 40]) (h2 := (sh_rep m.T m.I m.J)) rfl rfl rfl ?_
      exact kk
    obtain ⟨r1, e1, e⟩ := sh_bc_e e
    refine sh_Lk_cV (r := (some (.int r1))) (st2 := [.int r1]) (pc2 := 77) (k2 := 45) (a := 39) (as := [.ref 40]) (rest := []) rfl rfl rfl (fun hT => (sh_s39 hT.st)) rfl rfl ⟨Nat.le_of_ble_eq_true rfl, Nat.le_of_ble_eq_true rfl⟩ (sl_45 e1 ⟨rfl, rfl⟩) rfl rfl (show 9 + 1 ≤ d + 1 + 11 by omega) (show 8 + (1 + 11) + (221) ≤ 40 * (d + 1) + 263 by omega) ?_
    refine sh_Lk_lift (T := m.T) (I := m.I) (J := m.J) (s := m.s) (pc2 := 79) (lv2 := [(0, .ref 40), (1, .int x1), (4, .int x4)]) (st2 := [.int 91, .int r1]) (I2 := m.I) (J2 := m.J) (fun hT v kk => ?_) ?_
    · refine sh_w (i := (.bipush 91)) (len := 2) (pc2 := 79) (lv2 := [(0, .ref 40), (1, .int x1), (4, .int x4)]) (st2 := [.int 91, .int r1]) (h2 := (sh_rep m.T m.I m.J)) rfl rfl rfl ?_
      exact kk
    rcases sh_ite e with ⟨c, e⟩ | ⟨c, e⟩
    · refine sh_Lk_lift (T := m.T) (I := m.I) (J := m.J) (s := m.s) (pc2 := 97) (lv2 := [(5, .int (m.I 39 4)), (0, .ref 40), (1, .int x1), (4, .int x4)]) (st2 := [.int 0, .int (m.I 39 4), .int 28, .ref 29]) (I2 := m.I) (J2 := m.J) (fun hT v kk => ?_) ?_
      · refine sh_jc (c := .ne) (off := (46)) (pc2 := 82) false rfl (sh_Bnef c) rfl ?_
        refine sh_w (i := (.aload_n 0)) (len := 1) (pc2 := 83) (lv2 := [(0, .ref 40), (1, .int x1), (4, .int x4)]) (st2 := [.ref 40]) (h2 := (sh_rep m.T m.I m.J)) rfl rfl rfl ?_
        refine sh_gI1 (len := 3) (x := m.I 39 4) (pc2 := 86) rfl rfl (sh_s39 hT.st) rfl rfl rfl ?_
        refine sh_w (i := (.istore 5)) (len := 2) (pc2 := 88) (lv2 := [(5, .int (m.I 39 4)), (0, .ref 40), (1, .int x1), (4, .int x4)]) (st2 := []) (h2 := (sh_rep m.T m.I m.J)) rfl rfl rfl ?_
        refine sh_w (i := (.aload_n 0)) (len := 1) (pc2 := 89) (lv2 := [(5, .int (m.I 39 4)), (0, .ref 40), (1, .int x1), (4, .int x4)]) (st2 := [.ref 40]) (h2 := (sh_rep m.T m.I m.J)) rfl rfl rfl ?_
        refine sh_gR1 (len := 3) (x := .ref 29) (pc2 := 92) rfl rfl (sh_s39 hT.st) rfl rfl ?_
        refine sh_w (i := (.bipush 28)) (len := 2) (pc2 := 94) (lv2 := [(5, .int (m.I 39 4)), (0, .ref 40), (1, .int x1), (4, .int x4)]) (st2 := [.int 28, .ref 29]) (h2 := (sh_rep m.T m.I m.J)) rfl rfl rfl ?_
        refine sh_w (i := (.iload 5)) (len := 2) (pc2 := 96) (lv2 := [(5, .int (m.I 39 4)), (0, .ref 40), (1, .int x1), (4, .int x4)]) (st2 := [.int (m.I 39 4), .int 28, .ref 29]) (h2 := (sh_rep m.T m.I m.J)) rfl rfl rfl ?_
        refine sh_w (i := (.iconst 0)) (len := 1) (pc2 := 97) (lv2 := [(5, .int (m.I 39 4)), (0, .ref 40), (1, .int x1), (4, .int x4)]) (st2 := [.int 0, .int (m.I 39 4), .int 28, .ref 29]) (h2 := (sh_rep m.T m.I m.J)) rfl rfl rfl ?_
        exact kk
      obtain ⟨r2, m12, e2, e⟩ := sh_bn_e e
      refine sh_Lk_cV (r := (some (.int r2))) (st2 := [.int r2]) (pc2 := 100) (k2 := 56) (a := 28) (as := [.ref 29, .int 28, .int (m.I 39 4), .int 0]) (rest := []) rfl rfl rfl (fun hT => (sh_s28 hT.st)) rfl rfl ⟨Nat.le_of_ble_eq_true rfl, Nat.le_of_ble_eq_true rfl⟩ (sl_56 e2 ⟨rfl, rfl⟩) rfl rfl (show 8 + 1 ≤ d + 1 + 11 by omega) (show 8 + (4 + 11) + (200) ≤ 40 * (d + 1) + 263 by omega) ?_
      refine sh_Lk_lift (T := m12.T) (I := m12.I) (J := m12.J) (s := m12.s) (pc2 := 103) (lv2 := [(5, .int (m.I 39 4)), (0, .ref 40), (1, .int x1), (4, .int x4)]) (st2 := [.int x1, .ref 40]) (I2 := m12.I) (J2 := m12.J) (fun hT v kk => ?_) ?_
      · refine sh_w (i := .pop) (len := 1) (pc2 := 101) (lv2 := [(5, .int (m.I 39 4)), (0, .ref 40), (1, .int x1), (4, .int x4)]) (st2 := []) (h2 := (sh_rep m12.T m12.I m12.J)) rfl rfl rfl ?_
        refine sh_w (i := (.aload_n 0)) (len := 1) (pc2 := 102) (lv2 := [(5, .int (m.I 39 4)), (0, .ref 40), (1, .int x1), (4, .int x4)]) (st2 := [.ref 40]) (h2 := (sh_rep m12.T m12.I m12.J)) rfl rfl rfl ?_
        refine sh_w (i := (.iload_n 1)) (len := 1) (pc2 := 103) (lv2 := [(5, .int (m.I 39 4)), (0, .ref 40), (1, .int x1), (4, .int x4)]) (st2 := [.int x1, .ref 40]) (h2 := (sh_rep m12.T m12.I m12.J)) rfl rfl rfl ?_
        exact kk
      rcases sh_bt_e e with ⟨m13, e3, rfl⟩ | ⟨r3, m13, e3, e⟩
      · obtain ⟨rfl, rfl⟩ := tg
        exact sh_Lk_tV (k2 := 68) (a := 39) (as := [.ref 40, .int x1]) (rest := []) rfl rfl rfl (fun hT => (sh_s39 hT.st)) rfl rfl ⟨Nat.le_of_ble_eq_true rfl, Nat.le_of_ble_eq_true rfl⟩ (hQ.f68 e3 ⟨rfl, rfl⟩) rfl (show d + 11 + 1 ≤ d + 1 + 11 by omega) (show 8 + (3 + 11) + (40 * d + 263) ≤ 40 * (d + 1) + 263 by omega) (by omega) (by omega) rfl
      refine sh_Lk_cV (r := none) (st2 := []) (pc2 := 106) (k2 := 68) (a := 39) (as := [.ref 40, .int x1]) (rest := []) rfl rfl rfl (fun hT => (sh_s39 hT.st)) rfl rfl ⟨Nat.le_of_ble_eq_true rfl, Nat.le_of_ble_eq_true rfl⟩ (hQ.f68 e3 ⟨rfl, rfl⟩) rfl rfl (show d + 11 + 1 ≤ d + 1 + 11 by omega) (show 8 + (3 + 11) + (40 * d + 263) ≤ 40 * (d + 1) + 263 by omega) ?_
      refine sh_Lk_lift (T := m13.T) (I := m13.I) (J := m13.J) (s := m13.s) (pc2 := 115) (lv2 := [(5, .int (m.I 39 4)), (0, .ref 40), (1, .int x1), (4, .int x4)]) (st2 := [.int 0, .int (m.I 39 4), .int 30, .ref 29]) (I2 := m13.I) (J2 := m13.J) (fun hT v kk => ?_) ?_
      · refine sh_w (i := (.aload_n 0)) (len := 1) (pc2 := 107) (lv2 := [(5, .int (m.I 39 4)), (0, .ref 40), (1, .int x1), (4, .int x4)]) (st2 := [.ref 40]) (h2 := (sh_rep m13.T m13.I m13.J)) rfl rfl rfl ?_
        refine sh_gR1 (len := 3) (x := .ref 29) (pc2 := 110) rfl rfl (sh_s39 hT.st) rfl rfl ?_
        refine sh_w (i := (.bipush 30)) (len := 2) (pc2 := 112) (lv2 := [(5, .int (m.I 39 4)), (0, .ref 40), (1, .int x1), (4, .int x4)]) (st2 := [.int 30, .ref 29]) (h2 := (sh_rep m13.T m13.I m13.J)) rfl rfl rfl ?_
        refine sh_w (i := (.iload 5)) (len := 2) (pc2 := 114) (lv2 := [(5, .int (m.I 39 4)), (0, .ref 40), (1, .int x1), (4, .int x4)]) (st2 := [.int (m.I 39 4), .int 30, .ref 29]) (h2 := (sh_rep m13.T m13.I m13.J)) rfl rfl rfl ?_
        refine sh_w (i := (.iconst 0)) (len := 1) (pc2 := 115) (lv2 := [(5, .int (m.I 39 4)), (0, .ref 40), (1, .int x1), (4, .int x4)]) (st2 := [.int 0, .int (m.I 39 4), .int 30, .ref 29]) (h2 := (sh_rep m13.T m13.I m13.J)) rfl rfl rfl ?_
        exact kk
      obtain ⟨r4, m14, e4, e⟩ := sh_bn_e e
      refine sh_Lk_cV (r := (some (.int r4))) (st2 := [.int r4]) (pc2 := 118) (k2 := 56) (a := 28) (as := [.ref 29, .int 30, .int (m.I 39 4), .int 0]) (rest := []) rfl rfl rfl (fun hT => (sh_s28 hT.st)) rfl rfl ⟨Nat.le_of_ble_eq_true rfl, Nat.le_of_ble_eq_true rfl⟩ (sl_56 e4 ⟨rfl, rfl⟩) rfl rfl (show 8 + 1 ≤ d + 1 + 11 by omega) (show 8 + (4 + 11) + (200) ≤ 40 * (d + 1) + 263 by omega) ?_
      refine sh_Lk_lift (T := m14.T) (I := m14.I) (J := m14.J) (s := m14.s) (pc2 := 65) (lv2 := [(4, .int (x4 + 1)), (5, .int (m.I 39 4)), (0, .ref 40), (1, .int x1)]) (st2 := []) (I2 := m14.I) (J2 := m14.J) (fun hT v kk => ?_) ?_
      · refine sh_w (i := .pop) (len := 1) (pc2 := 119) (lv2 := [(5, .int (m.I 39 4)), (0, .ref 40), (1, .int x1), (4, .int x4)]) (st2 := []) (h2 := (sh_rep m14.T m14.I m14.J)) rfl rfl rfl ?_
        refine sh_w (i := (.iinc 4 1)) (len := 3) (pc2 := 122) (lv2 := [(4, .int (x4 + 1)), (5, .int (m.I 39 4)), (0, .ref 40), (1, .int x1)]) (st2 := []) (h2 := (sh_rep m14.T m14.I m14.J)) rfl rfl rfl ?_
        refine sh_w (i := (.goto (-57))) (len := 3) (pc2 := 65) (lv2 := [(4, .int (x4 + 1)), (5, .int (m.I 39 4)), (0, .ref 40), (1, .int x1)]) (st2 := []) (h2 := (sh_rep m14.T m14.I m14.J)) rfl rfl rfl ?_
        exact kk
      obtain rfl := Option.some.inj e
      exact sh_Lk_sub (sh_sub_c rfl (sh_sub_c rfl (sh_sub_c rfl (sh_sub_n)))) tg
    · refine sh_Lk_lift (T := m.T) (I := m.I) (J := m.J) (s := m.s) (pc2 := 125) (lv2 := [(0, .ref 40), (1, .int x1), (4, .int x4)]) (st2 := []) (I2 := m.I) (J2 := m.J) (fun hT v kk => ?_) ?_
      · refine sh_jc (c := .ne) (off := (46)) (pc2 := 125) true rfl (sh_Bnet c) rfl ?_
        exact kk
      obtain rfl := Option.some.inj e
      obtain ⟨rfl, rfl⟩ := tg
      exact sh_Lk_ret (i := .return_) rfl rfl rfl (by omega) (by omega)
  · refine sh_Lk_lift (T := m.T) (I := m.I) (J := m.J) (s := m.s) (pc2 := 125) (lv2 := [(0, .ref 40), (1, .int x1), (4, .int x4)]) (st2 := []) (I2 := m.I) (J2 := m.J) (fun hT v kk => ?_) ?_
    · refine sh_jc (c := .ge) (off := (55)) (pc2 := 125) true rfl (sh_Bget c) rfl ?_
      exact kk
    obtain rfl := Option.some.inj e
    obtain ⟨rfl, rfl⟩ := tg
    exact sh_Lk_ret (i := .return_) rfl rfl rfl (by omega) (by omega)
theorem sl_59_65 {Q : sh_Q44} {d : Nat} {x1 : Int32} {x4 : Int32} {m m2 : sh_X} {o : Outcome} {z : (Option Unit × sh_X)} (hQ : sh_QL44 Q d) (e : sf_59_65 Q x1 x4 m = some z) (tg : (sh_tVt o m2) z) : sh_Lk 59 65 [(0, .ref 40), (1, .int x1), (4, .int x4)] [] m o m2 (d + 1 + 11) (40 * (d + 1) + 263) := by
  unfold sf_59_65 at e
  exact sh_while_lk (P := fun q => sh_Lk 59 65 [(0, .ref 40), (1, .int x1), (4, .int q.1)] [] q.2 o m2 (d + 1 + 11) (40 * (d + 1) + 263)) (Q := (sh_tVt o m2)) (fun q z e tg => sl_59_65s (x1 := x1) (x4 := q.1) (m := q.2) hQ e tg) (s := (x4, m)) e tg
theorem sl_59_10 {Q : sh_Q44} {d : Nat} {x1 : Int32} {m m2 : sh_X} {o : Outcome} {z : (Option Unit × sh_X)} (hQ : sh_QL44 Q d) (e : sf_59_10 Q x1 m = some z) (tg : (sh_tVt o m2) z) : sh_Lk 59 10 [(0, .ref 40), (1, .int x1)] [] m o m2 (d + 1 + 11) (40 * (d + 1) + 263) := by
  unfold sf_59_10 at e
  refine sh_Lk_lift (T := m.T) (I := m.I) (J := m.J) (s := m.s) (pc2 := 16) (lv2 := [(2, .int (m.I 39 4)), (0, .ref 40), (1, .int x1)]) (st2 := [.ref 40]) (I2 := m.I) (J2 := m.J) (fun hT v kk => ?_) ?_
  · refine sh_w (i := (.aload_n 0)) (len := 1) (pc2 := 11) (lv2 := [(0, .ref 40), (1, .int x1)]) (st2 := [.ref 40]) (h2 := (sh_rep m.T m.I m.J)) rfl rfl rfl ?_
    refine sh_gI1 (len := 3) (x := m.I 39 4) (pc2 := 14) rfl rfl (sh_s39 hT.st) rfl rfl rfl ?_
    refine sh_w (i := (.istore_n 2)) (len := 1) (pc2 := 15) (lv2 := [(2, .int (m.I 39 4)), (0, .ref 40), (1, .int x1)]) (st2 := []) (h2 := (sh_rep m.T m.I m.J)) rfl rfl rfl ?_
    refine sh_w (i := (.aload_n 0)) (len := 1) (pc2 := 16) (lv2 := [(2, .int (m.I 39 4)), (0, .ref 40), (1, .int x1)]) (st2 := [.ref 40]) (h2 := (sh_rep m.T m.I m.J)) rfl rfl rfl ?_
    exact kk
  obtain ⟨r1, e1, e⟩ := sh_bc_e e
  refine sh_Lk_cV (r := (some (.int r1))) (st2 := [.int r1]) (pc2 := 19) (k2 := 45) (a := 39) (as := [.ref 40]) (rest := []) rfl rfl rfl (fun hT => (sh_s39 hT.st)) rfl rfl ⟨Nat.le_of_ble_eq_true rfl, Nat.le_of_ble_eq_true rfl⟩ (sl_45 e1 ⟨rfl, rfl⟩) rfl rfl (show 9 + 1 ≤ d + 1 + 11 by omega) (show 8 + (1 + 11) + (221) ≤ 40 * (d + 1) + 263 by omega) ?_
  refine sh_Lk_cS (r := (some (.int (sf_60 r1)))) (st2 := [.int (sf_60 r1)]) (pc2 := 22) (k2 := 60) (as := [.int r1]) (rest := []) rfl rfl (by decide) (Nat.le_of_ble_eq_true rfl) rfl rfl ⟨Nat.le_of_ble_eq_true rfl, Nat.le_of_ble_eq_true rfl⟩ (sl_60 (m := m) rfl ⟨rfl, rfl⟩) rfl rfl (show 8 + 1 ≤ d + 1 + 11 by omega) (show 8 + (1 + 11) + (200) ≤ 40 * (d + 1) + 263 by omega) ?_
  refine sh_Lk_lift (T := m.T) (I := m.I) (J := m.J) (s := m.s) (pc2 := 25) (lv2 := [(3, .int (sf_60 r1)), (2, .int (m.I 39 4)), (0, .ref 40), (1, .int x1)]) (st2 := [.int (-1), .int (sf_60 r1)]) (I2 := m.I) (J2 := m.J) (fun hT v kk => ?_) ?_
  · refine sh_w (i := (.istore_n 3)) (len := 1) (pc2 := 23) (lv2 := [(3, .int (sf_60 r1)), (2, .int (m.I 39 4)), (0, .ref 40), (1, .int x1)]) (st2 := []) (h2 := (sh_rep m.T m.I m.J)) rfl rfl rfl ?_
    refine sh_w (i := (.iload_n 3)) (len := 1) (pc2 := 24) (lv2 := [(3, .int (sf_60 r1)), (2, .int (m.I 39 4)), (0, .ref 40), (1, .int x1)]) (st2 := [.int (sf_60 r1)]) (h2 := (sh_rep m.T m.I m.J)) rfl rfl rfl ?_
    refine sh_w (i := (.iconst (-1))) (len := 1) (pc2 := 25) (lv2 := [(3, .int (sf_60 r1)), (2, .int (m.I 39 4)), (0, .ref 40), (1, .int x1)]) (st2 := [.int (-1), .int (sf_60 r1)]) (h2 := (sh_rep m.T m.I m.J)) rfl rfl rfl ?_
    exact kk
  rcases sh_ite e with ⟨c, e⟩ | ⟨c, e⟩
  · refine sh_Lk_lift (T := m.T) (I := m.I) (J := m.J) (s := m.s) (pc2 := 59) (lv2 := [(3, .int (sf_60 r1)), (2, .int (m.I 39 4)), (0, .ref 40), (1, .int x1)]) (st2 := [.int x1, .ref 40]) (I2 := m.I) (J2 := m.J) (fun hT v kk => ?_) ?_
    · refine sh_jc (c := .eq) (off := (32)) (pc2 := 57) true rfl (sh_Beqt c) rfl ?_
      refine sh_w (i := (.aload_n 0)) (len := 1) (pc2 := 58) (lv2 := [(3, .int (sf_60 r1)), (2, .int (m.I 39 4)), (0, .ref 40), (1, .int x1)]) (st2 := [.ref 40]) (h2 := (sh_rep m.T m.I m.J)) rfl rfl rfl ?_
      refine sh_w (i := (.iload_n 1)) (len := 1) (pc2 := 59) (lv2 := [(3, .int (sf_60 r1)), (2, .int (m.I 39 4)), (0, .ref 40), (1, .int x1)]) (st2 := [.int x1, .ref 40]) (h2 := (sh_rep m.T m.I m.J)) rfl rfl rfl ?_
      exact kk
    rcases sh_bt_e e with ⟨m13, e3, rfl⟩ | ⟨r3, m13, e3, e⟩
    · obtain ⟨rfl, rfl⟩ := tg
      exact sh_Lk_tV (k2 := 61) (a := 39) (as := [.ref 40, .int x1]) (rest := []) rfl rfl rfl (fun hT => (sh_s39 hT.st)) rfl rfl ⟨Nat.le_of_ble_eq_true rfl, Nat.le_of_ble_eq_true rfl⟩ (hQ.f61 e3 ⟨rfl, rfl⟩) rfl (show d + 11 + 1 ≤ d + 1 + 11 by omega) (show 8 + (2 + 11) + (40 * d + 263) ≤ 40 * (d + 1) + 263 by omega) (by omega) (by omega) rfl
    refine sh_Lk_cV (r := none) (st2 := []) (pc2 := 62) (k2 := 61) (a := 39) (as := [.ref 40, .int x1]) (rest := []) rfl rfl rfl (fun hT => (sh_s39 hT.st)) rfl rfl ⟨Nat.le_of_ble_eq_true rfl, Nat.le_of_ble_eq_true rfl⟩ (hQ.f61 e3 ⟨rfl, rfl⟩) rfl rfl (show d + 11 + 1 ≤ d + 1 + 11 by omega) (show 8 + (2 + 11) + (40 * d + 263) ≤ 40 * (d + 1) + 263 by omega) ?_
    refine sh_Lk_lift (T := m13.T) (I := m13.I) (J := m13.J) (s := m13.s) (pc2 := 65) (lv2 := [(4, .int 0), (3, .int (sf_60 r1)), (2, .int (m.I 39 4)), (0, .ref 40), (1, .int x1)]) (st2 := []) (I2 := m13.I) (J2 := m13.J) (fun hT v kk => ?_) ?_
    · refine sh_w (i := (.iconst 0)) (len := 1) (pc2 := 63) (lv2 := [(3, .int (sf_60 r1)), (2, .int (m.I 39 4)), (0, .ref 40), (1, .int x1)]) (st2 := [.int 0]) (h2 := (sh_rep m13.T m13.I m13.J)) rfl rfl rfl ?_
      refine sh_w (i := (.istore 4)) (len := 2) (pc2 := 65) (lv2 := [(4, .int 0), (3, .int (sf_60 r1)), (2, .int (m.I 39 4)), (0, .ref 40), (1, .int x1)]) (st2 := []) (h2 := (sh_rep m13.T m13.I m13.J)) rfl rfl rfl ?_
      exact kk
    exact sh_Lk_sub (sh_sub_c rfl (sh_sub_c rfl (sh_sub_c rfl (sh_sub_n)))) (sl_59_65 hQ e tg)
  · refine sh_Lk_lift (T := m.T) (I := m.I) (J := m.J) (s := m.s) (pc2 := 42) (lv2 := [(3, .int (sf_60 r1)), (2, .int (m.I 39 4)), (0, .ref 40), (1, .int x1)]) (st2 := [.int (x1 + 1), .ref 40]) (I2 := sh_u2 m.I 39 4 ((m.I 39 4) + 1)) (J2 := m.J) (fun hT v kk => ?_) ?_
    · refine sh_jc (c := .eq) (off := (32)) (pc2 := 28) false rfl (sh_Beqf c) rfl ?_
      refine sh_w (i := (.aload_n 0)) (len := 1) (pc2 := 29) (lv2 := [(3, .int (sf_60 r1)), (2, .int (m.I 39 4)), (0, .ref 40), (1, .int x1)]) (st2 := [.ref 40]) (h2 := (sh_rep m.T m.I m.J)) rfl rfl rfl ?_
      refine sh_w (i := .dup) (len := 1) (pc2 := 30) (lv2 := [(3, .int (sf_60 r1)), (2, .int (m.I 39 4)), (0, .ref 40), (1, .int x1)]) (st2 := [.ref 40, .ref 40]) (h2 := (sh_rep m.T m.I m.J)) rfl rfl rfl ?_
      refine sh_gI1 (len := 3) (x := m.I 39 4) (pc2 := 33) rfl rfl (sh_s39 hT.st) rfl rfl rfl ?_
      refine sh_w (i := (.iconst 1)) (len := 1) (pc2 := 34) (lv2 := [(3, .int (sf_60 r1)), (2, .int (m.I 39 4)), (0, .ref 40), (1, .int x1)]) (st2 := [.int 1, .int (m.I 39 4), .ref 40]) (h2 := (sh_rep m.T m.I m.J)) rfl rfl rfl ?_
      refine sh_w (i := .iadd) (len := 1) (pc2 := 35) (lv2 := [(3, .int (sf_60 r1)), (2, .int (m.I 39 4)), (0, .ref 40), (1, .int x1)]) (st2 := [.int ((m.I 39 4) + 1), .ref 40]) (h2 := (sh_rep m.T m.I m.J)) rfl rfl rfl ?_
      refine sh_pI1 (x := (m.I 39 4) + 1) (pc2 := 38) rfl rfl (sh_s39 hT.st) rfl rfl rfl rfl ?_
      refine sh_w (i := (.aload_n 0)) (len := 1) (pc2 := 39) (lv2 := [(3, .int (sf_60 r1)), (2, .int (m.I 39 4)), (0, .ref 40), (1, .int x1)]) (st2 := [.ref 40]) (h2 := (sh_rep m.T (sh_u2 m.I 39 4 ((m.I 39 4) + 1)) m.J)) rfl rfl rfl ?_
      refine sh_w (i := (.iload_n 1)) (len := 1) (pc2 := 40) (lv2 := [(3, .int (sf_60 r1)), (2, .int (m.I 39 4)), (0, .ref 40), (1, .int x1)]) (st2 := [.int x1, .ref 40]) (h2 := (sh_rep m.T (sh_u2 m.I 39 4 ((m.I 39 4) + 1)) m.J)) rfl rfl rfl ?_
      refine sh_w (i := (.iconst 1)) (len := 1) (pc2 := 41) (lv2 := [(3, .int (sf_60 r1)), (2, .int (m.I 39 4)), (0, .ref 40), (1, .int x1)]) (st2 := [.int 1, .int x1, .ref 40]) (h2 := (sh_rep m.T (sh_u2 m.I 39 4 ((m.I 39 4) + 1)) m.J)) rfl rfl rfl ?_
      refine sh_w (i := .iadd) (len := 1) (pc2 := 42) (lv2 := [(3, .int (sf_60 r1)), (2, .int (m.I 39 4)), (0, .ref 40), (1, .int x1)]) (st2 := [.int (x1 + 1), .ref 40]) (h2 := (sh_rep m.T (sh_u2 m.I 39 4 ((m.I 39 4) + 1)) m.J)) rfl rfl rfl ?_
      exact kk
    rcases sh_bt_e e with ⟨m14, e4, rfl⟩ | ⟨r4, m14, e4, e⟩
    · obtain ⟨rfl, rfl⟩ := tg
      exact sh_Lk_tV (k2 := 59) (a := 39) (as := [.ref 40, .int (x1 + 1)]) (rest := []) rfl rfl rfl (fun hT => (sh_s39 hT.st)) rfl rfl ⟨Nat.le_of_ble_eq_true rfl, Nat.le_of_ble_eq_true rfl⟩ (hQ.f59 e4 ⟨rfl, rfl⟩) rfl (show d + 11 + 1 ≤ d + 1 + 11 by omega) (show 8 + (6 + 11) + (40 * d + 263) ≤ 40 * (d + 1) + 263 by omega) (by omega) (by omega) rfl
    refine sh_Lk_cV (r := none) (st2 := []) (pc2 := 45) (k2 := 59) (a := 39) (as := [.ref 40, .int (x1 + 1)]) (rest := []) rfl rfl rfl (fun hT => (sh_s39 hT.st)) rfl rfl ⟨Nat.le_of_ble_eq_true rfl, Nat.le_of_ble_eq_true rfl⟩ (hQ.f59 e4 ⟨rfl, rfl⟩) rfl rfl (show d + 11 + 1 ≤ d + 1 + 11 by omega) (show 8 + (6 + 11) + (40 * d + 263) ≤ 40 * (d + 1) + 263 by omega) ?_
    refine sh_Lk_lift (T := m14.T) (I := m14.I) (J := m14.J) (s := m14.s) (pc2 := 52) (lv2 := [(3, .int (sf_60 r1)), (2, .int (m.I 39 4)), (0, .ref 40), (1, .int x1)]) (st2 := [.int 0, .int (m.I 39 4), .int (sf_60 r1), .ref 29]) (I2 := m14.I) (J2 := m14.J) (fun hT v kk => ?_) ?_
    · refine sh_w (i := (.aload_n 0)) (len := 1) (pc2 := 46) (lv2 := [(3, .int (sf_60 r1)), (2, .int (m.I 39 4)), (0, .ref 40), (1, .int x1)]) (st2 := [.ref 40]) (h2 := (sh_rep m14.T m14.I m14.J)) rfl rfl rfl ?_
      refine sh_gR1 (len := 3) (x := .ref 29) (pc2 := 49) rfl rfl (sh_s39 hT.st) rfl rfl ?_
      refine sh_w (i := (.iload_n 3)) (len := 1) (pc2 := 50) (lv2 := [(3, .int (sf_60 r1)), (2, .int (m.I 39 4)), (0, .ref 40), (1, .int x1)]) (st2 := [.int (sf_60 r1), .ref 29]) (h2 := (sh_rep m14.T m14.I m14.J)) rfl rfl rfl ?_
      refine sh_w (i := (.iload_n 2)) (len := 1) (pc2 := 51) (lv2 := [(3, .int (sf_60 r1)), (2, .int (m.I 39 4)), (0, .ref 40), (1, .int x1)]) (st2 := [.int (m.I 39 4), .int (sf_60 r1), .ref 29]) (h2 := (sh_rep m14.T m14.I m14.J)) rfl rfl rfl ?_
      refine sh_w (i := (.iconst 0)) (len := 1) (pc2 := 52) (lv2 := [(3, .int (sf_60 r1)), (2, .int (m.I 39 4)), (0, .ref 40), (1, .int x1)]) (st2 := [.int 0, .int (m.I 39 4), .int (sf_60 r1), .ref 29]) (h2 := (sh_rep m14.T m14.I m14.J)) rfl rfl rfl ?_
      exact kk
    obtain ⟨r5, m15, e5, e⟩ := sh_bn_e e
    refine sh_Lk_cV (r := (some (.int r5))) (st2 := [.int r5]) (pc2 := 55) (k2 := 56) (a := 28) (as := [.ref 29, .int (sf_60 r1), .int (m.I 39 4), .int 0]) (rest := []) rfl rfl rfl (fun hT => (sh_s28 hT.st)) rfl rfl ⟨Nat.le_of_ble_eq_true rfl, Nat.le_of_ble_eq_true rfl⟩ (sl_56 e5 ⟨rfl, rfl⟩) rfl rfl (show 8 + 1 ≤ d + 1 + 11 by omega) (show 8 + (4 + 11) + (200) ≤ 40 * (d + 1) + 263 by omega) ?_
    refine sh_Lk_lift (T := m15.T) (I := m15.I) (J := m15.J) (s := m15.s) (pc2 := 56) (lv2 := [(3, .int (sf_60 r1)), (2, .int (m.I 39 4)), (0, .ref 40), (1, .int x1)]) (st2 := []) (I2 := m15.I) (J2 := m15.J) (fun hT v kk => ?_) ?_
    · refine sh_w (i := .pop) (len := 1) (pc2 := 56) (lv2 := [(3, .int (sf_60 r1)), (2, .int (m.I 39 4)), (0, .ref 40), (1, .int x1)]) (st2 := []) (h2 := (sh_rep m15.T m15.I m15.J)) rfl rfl rfl ?_
      exact kk
    obtain rfl := Option.some.inj e
    obtain ⟨rfl, rfl⟩ := tg
    exact sh_Lk_ret (i := .return_) rfl rfl rfl (by omega) (by omega)
theorem sl_59 {Q : sh_Q44} {d : Nat} {x1 : Int32} {m m2 : sh_X} {o : Outcome} {z : (Option Unit × sh_X)} (hQ : sh_QL44 Q d) (e : sf_59 Q x1 m = some z) (tg : (sh_tVt o m2) z) : sh_Lk 59 0 [(0, .ref 40), (1, .int x1)] [] m o m2 (d + 1 + 11) (40 * (d + 1) + 263) := by
  unfold sf_59 at e
  refine sh_Lk_lift (T := m.T) (I := m.I) (J := m.J) (s := m.s) (pc2 := 3) (lv2 := [(0, .ref 40), (1, .int x1)]) (st2 := [.int 40, .int x1]) (I2 := m.I) (J2 := m.J) (fun hT v kk => ?_) ?_
  · refine sh_w (i := (.iload_n 1)) (len := 1) (pc2 := 1) (lv2 := [(0, .ref 40), (1, .int x1)]) (st2 := [.int x1]) (h2 := (sh_rep m.T m.I m.J)) rfl rfl rfl ?_
    refine sh_w (i := (.bipush 40)) (len := 2) (pc2 := 3) (lv2 := [(0, .ref 40), (1, .int x1)]) (st2 := [.int 40, .int x1]) (h2 := (sh_rep m.T m.I m.J)) rfl rfl rfl ?_
    exact kk
  rcases sh_ite e with ⟨c, e⟩ | ⟨c, e⟩
  · refine sh_Lk_lift (T := m.T) (I := m.I) (J := m.J) (s := m.s) (pc2 := 7) (lv2 := [(0, .ref 40), (1, .int x1)]) (st2 := [.ref 40]) (I2 := m.I) (J2 := m.J) (fun hT v kk => ?_) ?_
    · refine sh_jc (c := .le) (off := (7)) (pc2 := 6) false rfl (sh_Blef c) rfl ?_
      refine sh_w (i := (.aload_n 0)) (len := 1) (pc2 := 7) (lv2 := [(0, .ref 40), (1, .int x1)]) (st2 := [.ref 40]) (h2 := (sh_rep m.T m.I m.J)) rfl rfl rfl ?_
      exact kk
    rcases sh_bt_e e with ⟨m11, e1, rfl⟩ | ⟨r1, m11, e1, e⟩
    · obtain ⟨rfl, rfl⟩ := tg
      exact sh_Lk_tV (k2 := 49) (a := 39) (as := [.ref 40]) (rest := []) rfl rfl rfl (fun hT => (sh_s39 hT.st)) rfl rfl ⟨Nat.le_of_ble_eq_true rfl, Nat.le_of_ble_eq_true rfl⟩ (sl_49 e1 ⟨rfl, rfl⟩) rfl (show 9 + 1 ≤ d + 1 + 11 by omega) (show 8 + (1 + 11) + (222) ≤ 40 * (d + 1) + 263 by omega) (by omega) (by omega) rfl
    refine sh_Lk_cV (r := none) (st2 := []) (pc2 := 10) (k2 := 49) (a := 39) (as := [.ref 40]) (rest := []) rfl rfl rfl (fun hT => (sh_s39 hT.st)) rfl rfl ⟨Nat.le_of_ble_eq_true rfl, Nat.le_of_ble_eq_true rfl⟩ (sl_49 e1 ⟨rfl, rfl⟩) rfl rfl (show 9 + 1 ≤ d + 1 + 11 by omega) (show 8 + (1 + 11) + (222) ≤ 40 * (d + 1) + 263 by omega) ?_
    exact sh_Lk_sub (sh_sub_c rfl (sh_sub_c rfl (sh_sub_n))) (sl_59_10 hQ e tg)
  · refine sh_Lk_lift (T := m.T) (I := m.I) (J := m.J) (s := m.s) (pc2 := 10) (lv2 := [(0, .ref 40), (1, .int x1)]) (st2 := []) (I2 := m.I) (J2 := m.J) (fun hT v kk => ?_) ?_
    · refine sh_jc (c := .le) (off := (7)) (pc2 := 10) true rfl (sh_Blet c) rfl ?_
      exact kk
    exact sh_Lk_sub (sh_sub_c rfl (sh_sub_c rfl (sh_sub_n))) (sl_59_10 hQ e tg)
theorem sl_61_124 {Q : sh_Q44} {d : Nat} {y1 : Int32} {y2 : Int32} {y3 : Bool} {m m2 : sh_X} {o : Outcome} {z : (Option Unit × sh_X)} (hQ : sh_QL44 Q d) (e : sf_61_124 Q y1 y2 y3 m = some z) (tg : (sh_tVt o m2) z) : sh_Lk 61 124 [(0, .ref 40)] [.int (sh_b2 y3), .int y2, .int y1, .ref 29] m o m2 (d + 1 + 11) (40 * (d + 1) + 263) := by
  unfold sf_61_124 at e
  obtain ⟨r1, m11, e1, e⟩ := sh_bn_e e
  refine sh_Lk_cV (r := (some (.int r1))) (st2 := [.int r1]) (pc2 := 127) (k2 := 56) (a := 28) (as := [.ref 29, .int y1, .int y2, .int (sh_b2 y3)]) (rest := []) rfl rfl rfl (fun hT => (sh_s28 hT.st)) rfl rfl ⟨Nat.le_of_ble_eq_true rfl, Nat.le_of_ble_eq_true rfl⟩ (sl_56 e1 ⟨rfl, rfl⟩) rfl rfl (show 8 + 1 ≤ d + 1 + 11 by omega) (show 8 + (4 + 11) + (200) ≤ 40 * (d + 1) + 263 by omega) ?_
  refine sh_Lk_lift (T := m11.T) (I := m11.I) (J := m11.J) (s := m11.s) (pc2 := 195) (lv2 := [(0, .ref 40)]) (st2 := []) (I2 := sh_u2 m11.I 39 4 ((m11.I 39 4) + 1)) (J2 := m11.J) (fun hT v kk => ?_) ?_
  · refine sh_w (i := .pop) (len := 1) (pc2 := 128) (lv2 := [(0, .ref 40)]) (st2 := []) (h2 := (sh_rep m11.T m11.I m11.J)) rfl rfl rfl ?_
    refine sh_w (i := (.aload_n 0)) (len := 1) (pc2 := 129) (lv2 := [(0, .ref 40)]) (st2 := [.ref 40]) (h2 := (sh_rep m11.T m11.I m11.J)) rfl rfl rfl ?_
    refine sh_w (i := .dup) (len := 1) (pc2 := 130) (lv2 := [(0, .ref 40)]) (st2 := [.ref 40, .ref 40]) (h2 := (sh_rep m11.T m11.I m11.J)) rfl rfl rfl ?_
    refine sh_gI1 (len := 3) (x := m11.I 39 4) (pc2 := 133) rfl rfl (sh_s39 hT.st) rfl rfl rfl ?_
    refine sh_w (i := (.iconst 1)) (len := 1) (pc2 := 134) (lv2 := [(0, .ref 40)]) (st2 := [.int 1, .int (m11.I 39 4), .ref 40]) (h2 := (sh_rep m11.T m11.I m11.J)) rfl rfl rfl ?_
    refine sh_w (i := .iadd) (len := 1) (pc2 := 135) (lv2 := [(0, .ref 40)]) (st2 := [.int ((m11.I 39 4) + 1), .ref 40]) (h2 := (sh_rep m11.T m11.I m11.J)) rfl rfl rfl ?_
    refine sh_pI1 (x := (m11.I 39 4) + 1) (pc2 := 138) rfl rfl (sh_s39 hT.st) rfl rfl rfl rfl ?_
    refine sh_w (i := (.goto 57)) (len := 3) (pc2 := 195) (lv2 := [(0, .ref 40)]) (st2 := []) (h2 := (sh_rep m11.T (sh_u2 m11.I 39 4 ((m11.I 39 4) + 1)) m11.J)) rfl rfl rfl ?_
    exact kk
  obtain rfl := Option.some.inj e
  obtain ⟨rfl, rfl⟩ := tg
  exact sh_Lk_ret (i := .return_) rfl rfl rfl (by omega) (by omega)
theorem sl_61 {Q : sh_Q44} {d : Nat} {x1 : Int32} {m m2 : sh_X} {o : Outcome} {z : (Option Unit × sh_X)} (hQ : sh_QL44 Q d) (e : sf_61 Q x1 m = some z) (tg : (sh_tVt o m2) z) : sh_Lk 61 0 [(0, .ref 40), (1, .int x1)] [] m o m2 (d + 1 + 11) (40 * (d + 1) + 263) := by
  unfold sf_61 at e
  refine sh_Lk_lift (T := m.T) (I := m.I) (J := m.J) (s := m.s) (pc2 := 1) (lv2 := [(0, .ref 40), (1, .int x1)]) (st2 := [.ref 40]) (I2 := m.I) (J2 := m.J) (fun hT v kk => ?_) ?_
  · refine sh_w (i := (.aload_n 0)) (len := 1) (pc2 := 1) (lv2 := [(0, .ref 40), (1, .int x1)]) (st2 := [.ref 40]) (h2 := (sh_rep m.T m.I m.J)) rfl rfl rfl ?_
    exact kk
  obtain ⟨r1, e1, e⟩ := sh_bc_e e
  refine sh_Lk_cV (r := (some (.int r1))) (st2 := [.int r1]) (pc2 := 4) (k2 := 45) (a := 39) (as := [.ref 40]) (rest := []) rfl rfl rfl (fun hT => (sh_s39 hT.st)) rfl rfl ⟨Nat.le_of_ble_eq_true rfl, Nat.le_of_ble_eq_true rfl⟩ (sl_45 e1 ⟨rfl, rfl⟩) rfl rfl (show 9 + 1 ≤ d + 1 + 11 by omega) (show 8 + (1 + 11) + (221) ≤ 40 * (d + 1) + 263 by omega) ?_
  rcases sh_ite e with ⟨c, e⟩ | ⟨c0, e⟩
  · refine sh_Lk_lift (T := m.T) (I := m.I) (J := m.J) (s := m.s) (pc2 := 143) (lv2 := [(0, .ref 40), (1, .int x1)]) (st2 := [.int x1, .ref 40]) (I2 := m.I) (J2 := m.J) (fun hT v kk => ?_) ?_
    · refine sh_w (i := (.lookupswitch 187 #[(1, 137), (2, 68), (3, 145), (7, 96), (15, 96), (40, 153), (91, 179)])) (len := 68) (pc2 := 141) (lv2 := [(0, .ref 40), (1, .int x1)]) (st2 := []) (h2 := (sh_rep m.T m.I m.J)) rfl rfl (sh_sw c rfl) ?_
      refine sh_w (i := (.aload_n 0)) (len := 1) (pc2 := 142) (lv2 := [(0, .ref 40), (1, .int x1)]) (st2 := [.ref 40]) (h2 := (sh_rep m.T m.I m.J)) rfl rfl rfl ?_
      refine sh_w (i := (.iload_n 1)) (len := 1) (pc2 := 143) (lv2 := [(0, .ref 40), (1, .int x1)]) (st2 := [.int x1, .ref 40]) (h2 := (sh_rep m.T m.I m.J)) rfl rfl rfl ?_
      exact kk
    rcases sh_bt_e e with ⟨m12, e2, rfl⟩ | ⟨r2, m12, e2, e⟩
    · obtain ⟨rfl, rfl⟩ := tg
      exact sh_Lk_tV (k2 := 62) (a := 39) (as := [.ref 40, .int x1]) (rest := []) rfl rfl rfl (fun hT => (sh_s39 hT.st)) rfl rfl ⟨Nat.le_of_ble_eq_true rfl, Nat.le_of_ble_eq_true rfl⟩ (hQ.f62 e2 ⟨rfl, rfl⟩) rfl (show d + 11 + 1 ≤ d + 1 + 11 by omega) (show 8 + (8 + 11) + (40 * d + 263) ≤ 40 * (d + 1) + 263 by omega) (by omega) (by omega) rfl
    refine sh_Lk_cV (r := none) (st2 := []) (pc2 := 146) (k2 := 62) (a := 39) (as := [.ref 40, .int x1]) (rest := []) rfl rfl rfl (fun hT => (sh_s39 hT.st)) rfl rfl ⟨Nat.le_of_ble_eq_true rfl, Nat.le_of_ble_eq_true rfl⟩ (hQ.f62 e2 ⟨rfl, rfl⟩) rfl rfl (show d + 11 + 1 ≤ d + 1 + 11 by omega) (show 8 + (8 + 11) + (40 * d + 263) ≤ 40 * (d + 1) + 263 by omega) ?_
    refine sh_Lk_lift (T := m12.T) (I := m12.I) (J := m12.J) (s := m12.s) (pc2 := 195) (lv2 := [(0, .ref 40), (1, .int x1)]) (st2 := []) (I2 := m12.I) (J2 := m12.J) (fun hT v kk => ?_) ?_
    · refine sh_w (i := (.goto 49)) (len := 3) (pc2 := 195) (lv2 := [(0, .ref 40), (1, .int x1)]) (st2 := []) (h2 := (sh_rep m12.T m12.I m12.J)) rfl rfl rfl ?_
      exact kk
    obtain rfl := Option.some.inj e
    obtain ⟨rfl, rfl⟩ := tg
    exact sh_Lk_ret (i := .return_) rfl rfl rfl (by omega) (by omega)
  rcases sh_ite e with ⟨c, e⟩ | ⟨c1, e⟩
  · refine sh_Lk_lift (T := m.T) (I := m.I) (J := m.J) (s := m.s) (pc2 := 83) (lv2 := [(0, .ref 40), (1, .int x1)]) (st2 := [.int 0, .int (m.I 39 4), .int 19, .ref 29]) (I2 := m.I) (J2 := m.J) (fun hT v kk => ?_) ?_
    · refine sh_w (i := (.lookupswitch 187 #[(1, 137), (2, 68), (3, 145), (7, 96), (15, 96), (40, 153), (91, 179)])) (len := 68) (pc2 := 72) (lv2 := [(0, .ref 40), (1, .int x1)]) (st2 := []) (h2 := (sh_rep m.T m.I m.J)) rfl rfl (sh_sw c rfl) ?_
      refine sh_w (i := (.aload_n 0)) (len := 1) (pc2 := 73) (lv2 := [(0, .ref 40), (1, .int x1)]) (st2 := [.ref 40]) (h2 := (sh_rep m.T m.I m.J)) rfl rfl rfl ?_
      refine sh_gR1 (len := 3) (x := .ref 29) (pc2 := 76) rfl rfl (sh_s39 hT.st) rfl rfl ?_
      refine sh_w (i := (.bipush 19)) (len := 2) (pc2 := 78) (lv2 := [(0, .ref 40), (1, .int x1)]) (st2 := [.int 19, .ref 29]) (h2 := (sh_rep m.T m.I m.J)) rfl rfl rfl ?_
      refine sh_w (i := (.aload_n 0)) (len := 1) (pc2 := 79) (lv2 := [(0, .ref 40), (1, .int x1)]) (st2 := [.ref 40, .int 19, .ref 29]) (h2 := (sh_rep m.T m.I m.J)) rfl rfl rfl ?_
      refine sh_gI1 (len := 3) (x := m.I 39 4) (pc2 := 82) rfl rfl (sh_s39 hT.st) rfl rfl rfl ?_
      refine sh_w (i := (.iconst 0)) (len := 1) (pc2 := 83) (lv2 := [(0, .ref 40), (1, .int x1)]) (st2 := [.int 0, .int (m.I 39 4), .int 19, .ref 29]) (h2 := (sh_rep m.T m.I m.J)) rfl rfl rfl ?_
      exact kk
    obtain ⟨r3, m13, e3, e⟩ := sh_bn_e e
    refine sh_Lk_cV (r := (some (.int r3))) (st2 := [.int r3]) (pc2 := 86) (k2 := 56) (a := 28) (as := [.ref 29, .int 19, .int (m.I 39 4), .int 0]) (rest := []) rfl rfl rfl (fun hT => (sh_s28 hT.st)) rfl rfl ⟨Nat.le_of_ble_eq_true rfl, Nat.le_of_ble_eq_true rfl⟩ (sl_56 e3 ⟨rfl, rfl⟩) rfl rfl (show 8 + 1 ≤ d + 1 + 11 by omega) (show 8 + (4 + 11) + (200) ≤ 40 * (d + 1) + 263 by omega) ?_
    refine sh_Lk_lift (T := m13.T) (I := m13.I) (J := m13.J) (s := m13.s) (pc2 := 195) (lv2 := [(0, .ref 40), (1, .int x1)]) (st2 := []) (I2 := sh_u2 m13.I 39 4 ((m13.I 39 4) + 1)) (J2 := m13.J) (fun hT v kk => ?_) ?_
    · refine sh_w (i := .pop) (len := 1) (pc2 := 87) (lv2 := [(0, .ref 40), (1, .int x1)]) (st2 := []) (h2 := (sh_rep m13.T m13.I m13.J)) rfl rfl rfl ?_
      refine sh_w (i := (.aload_n 0)) (len := 1) (pc2 := 88) (lv2 := [(0, .ref 40), (1, .int x1)]) (st2 := [.ref 40]) (h2 := (sh_rep m13.T m13.I m13.J)) rfl rfl rfl ?_
      refine sh_w (i := .dup) (len := 1) (pc2 := 89) (lv2 := [(0, .ref 40), (1, .int x1)]) (st2 := [.ref 40, .ref 40]) (h2 := (sh_rep m13.T m13.I m13.J)) rfl rfl rfl ?_
      refine sh_gI1 (len := 3) (x := m13.I 39 4) (pc2 := 92) rfl rfl (sh_s39 hT.st) rfl rfl rfl ?_
      refine sh_w (i := (.iconst 1)) (len := 1) (pc2 := 93) (lv2 := [(0, .ref 40), (1, .int x1)]) (st2 := [.int 1, .int (m13.I 39 4), .ref 40]) (h2 := (sh_rep m13.T m13.I m13.J)) rfl rfl rfl ?_
      refine sh_w (i := .iadd) (len := 1) (pc2 := 94) (lv2 := [(0, .ref 40), (1, .int x1)]) (st2 := [.int ((m13.I 39 4) + 1), .ref 40]) (h2 := (sh_rep m13.T m13.I m13.J)) rfl rfl rfl ?_
      refine sh_pI1 (x := (m13.I 39 4) + 1) (pc2 := 97) rfl rfl (sh_s39 hT.st) rfl rfl rfl rfl ?_
      refine sh_w (i := (.goto 98)) (len := 3) (pc2 := 195) (lv2 := [(0, .ref 40), (1, .int x1)]) (st2 := []) (h2 := (sh_rep m13.T (sh_u2 m13.I 39 4 ((m13.I 39 4) + 1)) m13.J)) rfl rfl rfl ?_
      exact kk
    obtain rfl := Option.some.inj e
    obtain ⟨rfl, rfl⟩ := tg
    exact sh_Lk_ret (i := .return_) rfl rfl rfl (by omega) (by omega)
  rcases sh_ite e with ⟨c, e⟩ | ⟨c2, e⟩
  · refine sh_Lk_lift (T := m.T) (I := m.I) (J := m.J) (s := m.s) (pc2 := 151) (lv2 := [(0, .ref 40), (1, .int x1)]) (st2 := [.int x1, .ref 40]) (I2 := m.I) (J2 := m.J) (fun hT v kk => ?_) ?_
    · refine sh_w (i := (.lookupswitch 187 #[(1, 137), (2, 68), (3, 145), (7, 96), (15, 96), (40, 153), (91, 179)])) (len := 68) (pc2 := 149) (lv2 := [(0, .ref 40), (1, .int x1)]) (st2 := []) (h2 := (sh_rep m.T m.I m.J)) rfl rfl (sh_sw c rfl) ?_
      refine sh_w (i := (.aload_n 0)) (len := 1) (pc2 := 150) (lv2 := [(0, .ref 40), (1, .int x1)]) (st2 := [.ref 40]) (h2 := (sh_rep m.T m.I m.J)) rfl rfl rfl ?_
      refine sh_w (i := (.iload_n 1)) (len := 1) (pc2 := 151) (lv2 := [(0, .ref 40), (1, .int x1)]) (st2 := [.int x1, .ref 40]) (h2 := (sh_rep m.T m.I m.J)) rfl rfl rfl ?_
      exact kk
    rcases sh_bt_e e with ⟨m14, e4, rfl⟩ | ⟨r4, m14, e4, e⟩
    · obtain ⟨rfl, rfl⟩ := tg
      exact sh_Lk_tV (k2 := 65) (a := 39) (as := [.ref 40, .int x1]) (rest := []) rfl rfl rfl (fun hT => (sh_s39 hT.st)) rfl rfl ⟨Nat.le_of_ble_eq_true rfl, Nat.le_of_ble_eq_true rfl⟩ (hQ.f65 e4 ⟨rfl, rfl⟩) rfl (show d + 11 + 1 ≤ d + 1 + 11 by omega) (show 8 + (4 + 11) + (40 * d + 263) ≤ 40 * (d + 1) + 263 by omega) (by omega) (by omega) rfl
    refine sh_Lk_cV (r := none) (st2 := []) (pc2 := 154) (k2 := 65) (a := 39) (as := [.ref 40, .int x1]) (rest := []) rfl rfl rfl (fun hT => (sh_s39 hT.st)) rfl rfl ⟨Nat.le_of_ble_eq_true rfl, Nat.le_of_ble_eq_true rfl⟩ (hQ.f65 e4 ⟨rfl, rfl⟩) rfl rfl (show d + 11 + 1 ≤ d + 1 + 11 by omega) (show 8 + (4 + 11) + (40 * d + 263) ≤ 40 * (d + 1) + 263 by omega) ?_
    refine sh_Lk_lift (T := m14.T) (I := m14.I) (J := m14.J) (s := m14.s) (pc2 := 195) (lv2 := [(0, .ref 40), (1, .int x1)]) (st2 := []) (I2 := m14.I) (J2 := m14.J) (fun hT v kk => ?_) ?_
    · refine sh_w (i := (.goto 41)) (len := 3) (pc2 := 195) (lv2 := [(0, .ref 40), (1, .int x1)]) (st2 := []) (h2 := (sh_rep m14.T m14.I m14.J)) rfl rfl rfl ?_
      exact kk
    obtain rfl := Option.some.inj e
    obtain ⟨rfl, rfl⟩ := tg
    exact sh_Lk_ret (i := .return_) rfl rfl rfl (by omega) (by omega)
  rcases sh_ite e with ⟨c, e⟩ | ⟨c3, e⟩
  · refine sh_Lk_lift (T := m.T) (I := m.I) (J := m.J) (s := m.s) (pc2 := 111) (lv2 := [(0, .ref 40), (1, .int x1)]) (st2 := [.ref 40, .int (m.I 39 4), .int 20, .ref 29]) (I2 := m.I) (J2 := m.J) (fun hT v kk => ?_) ?_
    · refine sh_w (i := (.lookupswitch 187 #[(1, 137), (2, 68), (3, 145), (7, 96), (15, 96), (40, 153), (91, 179)])) (len := 68) (pc2 := 100) (lv2 := [(0, .ref 40), (1, .int x1)]) (st2 := []) (h2 := (sh_rep m.T m.I m.J)) rfl rfl (c.elim (fun c => sh_sw c rfl) (fun c => sh_sw c rfl)) ?_
      refine sh_w (i := (.aload_n 0)) (len := 1) (pc2 := 101) (lv2 := [(0, .ref 40), (1, .int x1)]) (st2 := [.ref 40]) (h2 := (sh_rep m.T m.I m.J)) rfl rfl rfl ?_
      refine sh_gR1 (len := 3) (x := .ref 29) (pc2 := 104) rfl rfl (sh_s39 hT.st) rfl rfl ?_
      refine sh_w (i := (.bipush 20)) (len := 2) (pc2 := 106) (lv2 := [(0, .ref 40), (1, .int x1)]) (st2 := [.int 20, .ref 29]) (h2 := (sh_rep m.T m.I m.J)) rfl rfl rfl ?_
      refine sh_w (i := (.aload_n 0)) (len := 1) (pc2 := 107) (lv2 := [(0, .ref 40), (1, .int x1)]) (st2 := [.ref 40, .int 20, .ref 29]) (h2 := (sh_rep m.T m.I m.J)) rfl rfl rfl ?_
      refine sh_gI1 (len := 3) (x := m.I 39 4) (pc2 := 110) rfl rfl (sh_s39 hT.st) rfl rfl rfl ?_
      refine sh_w (i := (.aload_n 0)) (len := 1) (pc2 := 111) (lv2 := [(0, .ref 40), (1, .int x1)]) (st2 := [.ref 40, .int (m.I 39 4), .int 20, .ref 29]) (h2 := (sh_rep m.T m.I m.J)) rfl rfl rfl ?_
      exact kk
    obtain ⟨r5, e5, e⟩ := sh_bc_e e
    refine sh_Lk_cV (r := (some (.int r5))) (st2 := [.int r5, .int (m.I 39 4), .int 20, .ref 29]) (pc2 := 114) (k2 := 45) (a := 39) (as := [.ref 40]) (rest := [.int (m.I 39 4), .int 20, .ref 29]) rfl rfl rfl (fun hT => (sh_s39 hT.st)) rfl rfl ⟨Nat.le_of_ble_eq_true rfl, Nat.le_of_ble_eq_true rfl⟩ (sl_45 e5 ⟨rfl, rfl⟩) rfl rfl (show 9 + 1 ≤ d + 1 + 11 by omega) (show 8 + (1 + 11) + (221) ≤ 40 * (d + 1) + 263 by omega) ?_
    refine sh_Lk_lift (T := m.T) (I := m.I) (J := m.J) (s := m.s) (pc2 := 116) (lv2 := [(0, .ref 40), (1, .int x1)]) (st2 := [.int 15, .int r5, .int (m.I 39 4), .int 20, .ref 29]) (I2 := m.I) (J2 := m.J) (fun hT v kk => ?_) ?_
    · refine sh_w (i := (.bipush 15)) (len := 2) (pc2 := 116) (lv2 := [(0, .ref 40), (1, .int x1)]) (st2 := [.int 15, .int r5, .int (m.I 39 4), .int 20, .ref 29]) (h2 := (sh_rep m.T m.I m.J)) rfl rfl rfl ?_
      exact kk
    rcases sh_ite e with ⟨c, e⟩ | ⟨c, e⟩
    · refine sh_Lk_lift (T := m.T) (I := m.I) (J := m.J) (s := m.s) (pc2 := 124) (lv2 := [(0, .ref 40), (1, .int x1)]) (st2 := [.int 1, .int (m.I 39 4), .int 20, .ref 29]) (I2 := m.I) (J2 := m.J) (fun hT v kk => ?_) ?_
      · refine sh_jc (c := .ne) (off := (7)) (pc2 := 119) false rfl (sh_Bnef c) rfl ?_
        refine sh_w (i := (.iconst 1)) (len := 1) (pc2 := 120) (lv2 := [(0, .ref 40), (1, .int x1)]) (st2 := [.int 1, .int (m.I 39 4), .int 20, .ref 29]) (h2 := (sh_rep m.T m.I m.J)) rfl rfl rfl ?_
        refine sh_w (i := (.goto 4)) (len := 3) (pc2 := 124) (lv2 := [(0, .ref 40), (1, .int x1)]) (st2 := [.int 1, .int (m.I 39 4), .int 20, .ref 29]) (h2 := (sh_rep m.T m.I m.J)) rfl rfl rfl ?_
        exact kk
      exact sh_Lk_sub (sh_sub_c rfl (sh_sub_n)) (sl_61_124 hQ e tg)
    · refine sh_Lk_lift (T := m.T) (I := m.I) (J := m.J) (s := m.s) (pc2 := 124) (lv2 := [(0, .ref 40), (1, .int x1)]) (st2 := [.int 0, .int (m.I 39 4), .int 20, .ref 29]) (I2 := m.I) (J2 := m.J) (fun hT v kk => ?_) ?_
      · refine sh_jc (c := .ne) (off := (7)) (pc2 := 123) true rfl (sh_Bnet c) rfl ?_
        refine sh_w (i := (.iconst 0)) (len := 1) (pc2 := 124) (lv2 := [(0, .ref 40), (1, .int x1)]) (st2 := [.int 0, .int (m.I 39 4), .int 20, .ref 29]) (h2 := (sh_rep m.T m.I m.J)) rfl rfl rfl ?_
        exact kk
      exact sh_Lk_sub (sh_sub_c rfl (sh_sub_n)) (sl_61_124 hQ e tg)
  rcases sh_ite e with ⟨c, e⟩ | ⟨c4, e⟩
  · refine sh_Lk_lift (T := m.T) (I := m.I) (J := m.J) (s := m.s) (pc2 := 171) (lv2 := [(0, .ref 40), (1, .int x1)]) (st2 := [.int (x1 + 1), .ref 40]) (I2 := sh_u2 m.I 39 4 ((m.I 39 4) + 1)) (J2 := m.J) (fun hT v kk => ?_) ?_
    · refine sh_w (i := (.lookupswitch 187 #[(1, 137), (2, 68), (3, 145), (7, 96), (15, 96), (40, 153), (91, 179)])) (len := 68) (pc2 := 157) (lv2 := [(0, .ref 40), (1, .int x1)]) (st2 := []) (h2 := (sh_rep m.T m.I m.J)) rfl rfl (sh_sw c rfl) ?_
      refine sh_w (i := (.aload_n 0)) (len := 1) (pc2 := 158) (lv2 := [(0, .ref 40), (1, .int x1)]) (st2 := [.ref 40]) (h2 := (sh_rep m.T m.I m.J)) rfl rfl rfl ?_
      refine sh_w (i := .dup) (len := 1) (pc2 := 159) (lv2 := [(0, .ref 40), (1, .int x1)]) (st2 := [.ref 40, .ref 40]) (h2 := (sh_rep m.T m.I m.J)) rfl rfl rfl ?_
      refine sh_gI1 (len := 3) (x := m.I 39 4) (pc2 := 162) rfl rfl (sh_s39 hT.st) rfl rfl rfl ?_
      refine sh_w (i := (.iconst 1)) (len := 1) (pc2 := 163) (lv2 := [(0, .ref 40), (1, .int x1)]) (st2 := [.int 1, .int (m.I 39 4), .ref 40]) (h2 := (sh_rep m.T m.I m.J)) rfl rfl rfl ?_
      refine sh_w (i := .iadd) (len := 1) (pc2 := 164) (lv2 := [(0, .ref 40), (1, .int x1)]) (st2 := [.int ((m.I 39 4) + 1), .ref 40]) (h2 := (sh_rep m.T m.I m.J)) rfl rfl rfl ?_
      refine sh_pI1 (x := (m.I 39 4) + 1) (pc2 := 167) rfl rfl (sh_s39 hT.st) rfl rfl rfl rfl ?_
      refine sh_w (i := (.aload_n 0)) (len := 1) (pc2 := 168) (lv2 := [(0, .ref 40), (1, .int x1)]) (st2 := [.ref 40]) (h2 := (sh_rep m.T (sh_u2 m.I 39 4 ((m.I 39 4) + 1)) m.J)) rfl rfl rfl ?_
      refine sh_w (i := (.iload_n 1)) (len := 1) (pc2 := 169) (lv2 := [(0, .ref 40), (1, .int x1)]) (st2 := [.int x1, .ref 40]) (h2 := (sh_rep m.T (sh_u2 m.I 39 4 ((m.I 39 4) + 1)) m.J)) rfl rfl rfl ?_
      refine sh_w (i := (.iconst 1)) (len := 1) (pc2 := 170) (lv2 := [(0, .ref 40), (1, .int x1)]) (st2 := [.int 1, .int x1, .ref 40]) (h2 := (sh_rep m.T (sh_u2 m.I 39 4 ((m.I 39 4) + 1)) m.J)) rfl rfl rfl ?_
      refine sh_w (i := .iadd) (len := 1) (pc2 := 171) (lv2 := [(0, .ref 40), (1, .int x1)]) (st2 := [.int (x1 + 1), .ref 40]) (h2 := (sh_rep m.T (sh_u2 m.I 39 4 ((m.I 39 4) + 1)) m.J)) rfl rfl rfl ?_
      exact kk
    rcases sh_bt_e e with ⟨m16, e6, rfl⟩ | ⟨r6, m16, e6, e⟩
    · obtain ⟨rfl, rfl⟩ := tg
      exact sh_Lk_tV (k2 := 58) (a := 39) (as := [.ref 40, .int (x1 + 1)]) (rest := []) rfl rfl rfl (fun hT => (sh_s39 hT.st)) rfl rfl ⟨Nat.le_of_ble_eq_true rfl, Nat.le_of_ble_eq_true rfl⟩ (hQ.f58 e6 ⟨rfl, rfl⟩) rfl (show d + 11 + 1 ≤ d + 1 + 11 by omega) (show 8 + (4 + 11) + (40 * d + 263) ≤ 40 * (d + 1) + 263 by omega) (by omega) (by omega) rfl
    refine sh_Lk_cV (r := none) (st2 := []) (pc2 := 174) (k2 := 58) (a := 39) (as := [.ref 40, .int (x1 + 1)]) (rest := []) rfl rfl rfl (fun hT => (sh_s39 hT.st)) rfl rfl ⟨Nat.le_of_ble_eq_true rfl, Nat.le_of_ble_eq_true rfl⟩ (hQ.f58 e6 ⟨rfl, rfl⟩) rfl rfl (show d + 11 + 1 ≤ d + 1 + 11 by omega) (show 8 + (4 + 11) + (40 * d + 263) ≤ 40 * (d + 1) + 263 by omega) ?_
    refine sh_Lk_lift (T := m16.T) (I := m16.I) (J := m16.J) (s := m16.s) (pc2 := 177) (lv2 := [(0, .ref 40), (1, .int x1)]) (st2 := [.int 41, .ref 40]) (I2 := m16.I) (J2 := m16.J) (fun hT v kk => ?_) ?_
    · refine sh_w (i := (.aload_n 0)) (len := 1) (pc2 := 175) (lv2 := [(0, .ref 40), (1, .int x1)]) (st2 := [.ref 40]) (h2 := (sh_rep m16.T m16.I m16.J)) rfl rfl rfl ?_
      refine sh_w (i := (.bipush 41)) (len := 2) (pc2 := 177) (lv2 := [(0, .ref 40), (1, .int x1)]) (st2 := [.int 41, .ref 40]) (h2 := (sh_rep m16.T m16.I m16.J)) rfl rfl rfl ?_
      exact kk
    rcases sh_bt_e e with ⟨m17, e7, rfl⟩ | ⟨r7, m17, e7, e⟩
    · obtain ⟨rfl, rfl⟩ := tg
      exact sh_Lk_tV (k2 := 48) (a := 39) (as := [.ref 40, .int 41]) (rest := []) rfl rfl rfl (fun hT => (sh_s39 hT.st)) rfl rfl ⟨Nat.le_of_ble_eq_true rfl, Nat.le_of_ble_eq_true rfl⟩ (sl_48 e7 ⟨rfl, rfl⟩) rfl (show 10 + 1 ≤ d + 1 + 11 by omega) (show 8 + (2 + 11) + (242) ≤ 40 * (d + 1) + 263 by omega) (by omega) (by omega) rfl
    refine sh_Lk_cV (r := none) (st2 := []) (pc2 := 180) (k2 := 48) (a := 39) (as := [.ref 40, .int 41]) (rest := []) rfl rfl rfl (fun hT => (sh_s39 hT.st)) rfl rfl ⟨Nat.le_of_ble_eq_true rfl, Nat.le_of_ble_eq_true rfl⟩ (sl_48 e7 ⟨rfl, rfl⟩) rfl rfl (show 10 + 1 ≤ d + 1 + 11 by omega) (show 8 + (2 + 11) + (242) ≤ 40 * (d + 1) + 263 by omega) ?_
    refine sh_Lk_lift (T := m17.T) (I := m17.I) (J := m17.J) (s := m17.s) (pc2 := 195) (lv2 := [(0, .ref 40), (1, .int x1)]) (st2 := []) (I2 := m17.I) (J2 := m17.J) (fun hT v kk => ?_) ?_
    · refine sh_w (i := (.goto 15)) (len := 3) (pc2 := 195) (lv2 := [(0, .ref 40), (1, .int x1)]) (st2 := []) (h2 := (sh_rep m17.T m17.I m17.J)) rfl rfl rfl ?_
      exact kk
    obtain rfl := Option.some.inj e
    obtain ⟨rfl, rfl⟩ := tg
    exact sh_Lk_ret (i := .return_) rfl rfl rfl (by omega) (by omega)
  rcases sh_ite e with ⟨c, e⟩ | ⟨c5, e⟩
  · refine sh_Lk_lift (T := m.T) (I := m.I) (J := m.J) (s := m.s) (pc2 := 185) (lv2 := [(0, .ref 40), (1, .int x1)]) (st2 := [.int x1, .ref 40]) (I2 := m.I) (J2 := m.J) (fun hT v kk => ?_) ?_
    · refine sh_w (i := (.lookupswitch 187 #[(1, 137), (2, 68), (3, 145), (7, 96), (15, 96), (40, 153), (91, 179)])) (len := 68) (pc2 := 183) (lv2 := [(0, .ref 40), (1, .int x1)]) (st2 := []) (h2 := (sh_rep m.T m.I m.J)) rfl rfl (sh_sw c rfl) ?_
      refine sh_w (i := (.aload_n 0)) (len := 1) (pc2 := 184) (lv2 := [(0, .ref 40), (1, .int x1)]) (st2 := [.ref 40]) (h2 := (sh_rep m.T m.I m.J)) rfl rfl rfl ?_
      refine sh_w (i := (.iload_n 1)) (len := 1) (pc2 := 185) (lv2 := [(0, .ref 40), (1, .int x1)]) (st2 := [.int x1, .ref 40]) (h2 := (sh_rep m.T m.I m.J)) rfl rfl rfl ?_
      exact kk
    rcases sh_bt_e e with ⟨m18, e8, rfl⟩ | ⟨r8, m18, e8, e⟩
    · obtain ⟨rfl, rfl⟩ := tg
      exact sh_Lk_tV (k2 := 67) (a := 39) (as := [.ref 40, .int x1]) (rest := []) rfl rfl rfl (fun hT => (sh_s39 hT.st)) rfl rfl ⟨Nat.le_of_ble_eq_true rfl, Nat.le_of_ble_eq_true rfl⟩ (hQ.f67 e8 ⟨rfl, rfl⟩) rfl (show d + 11 + 1 ≤ d + 1 + 11 by omega) (show 8 + (6 + 11) + (40 * d + 263) ≤ 40 * (d + 1) + 263 by omega) (by omega) (by omega) rfl
    refine sh_Lk_cV (r := none) (st2 := []) (pc2 := 188) (k2 := 67) (a := 39) (as := [.ref 40, .int x1]) (rest := []) rfl rfl rfl (fun hT => (sh_s39 hT.st)) rfl rfl ⟨Nat.le_of_ble_eq_true rfl, Nat.le_of_ble_eq_true rfl⟩ (hQ.f67 e8 ⟨rfl, rfl⟩) rfl rfl (show d + 11 + 1 ≤ d + 1 + 11 by omega) (show 8 + (6 + 11) + (40 * d + 263) ≤ 40 * (d + 1) + 263 by omega) ?_
    refine sh_Lk_lift (T := m18.T) (I := m18.I) (J := m18.J) (s := m18.s) (pc2 := 195) (lv2 := [(0, .ref 40), (1, .int x1)]) (st2 := []) (I2 := m18.I) (J2 := m18.J) (fun hT v kk => ?_) ?_
    · refine sh_w (i := (.goto 7)) (len := 3) (pc2 := 195) (lv2 := [(0, .ref 40), (1, .int x1)]) (st2 := []) (h2 := (sh_rep m18.T m18.I m18.J)) rfl rfl rfl ?_
      exact kk
    obtain rfl := Option.some.inj e
    obtain ⟨rfl, rfl⟩ := tg
    exact sh_Lk_ret (i := .return_) rfl rfl rfl (by omega) (by omega)
  refine sh_Lk_lift (T := m.T) (I := m.I) (J := m.J) (s := m.s) (pc2 := 192) (lv2 := [(0, .ref 40), (1, .int x1)]) (st2 := [.ref 40]) (I2 := m.I) (J2 := m.J) (fun hT v kk => ?_) ?_
  · refine sh_w (i := (.lookupswitch 187 #[(1, 137), (2, 68), (3, 145), (7, 96), (15, 96), (40, 153), (91, 179)])) (len := 68) (pc2 := 191) (lv2 := [(0, .ref 40), (1, .int x1)]) (st2 := []) (h2 := (sh_rep m.T m.I m.J)) rfl rfl (sh_swl rfl (sh_fc (fun h => c0 (h)) (sh_fc (fun h => c1 (h)) (sh_fc (fun h => c2 (h)) (sh_fc (fun h => c3 (Or.inl h)) (sh_fc (fun h => c3 (Or.inr (h))) (sh_fc (fun h => c4 (h)) (sh_fc (fun h => c5 (h)) sh_fn))))))) rfl) ?_
    refine sh_w (i := (.aload_n 0)) (len := 1) (pc2 := 192) (lv2 := [(0, .ref 40), (1, .int x1)]) (st2 := [.ref 40]) (h2 := (sh_rep m.T m.I m.J)) rfl rfl rfl ?_
    exact kk
  rcases sh_bt_e e with ⟨m19, e9, rfl⟩ | ⟨r9, m19, e9, e⟩
  · obtain ⟨rfl, rfl⟩ := tg
    exact sh_Lk_tV (k2 := 49) (a := 39) (as := [.ref 40]) (rest := []) rfl rfl rfl (fun hT => (sh_s39 hT.st)) rfl rfl ⟨Nat.le_of_ble_eq_true rfl, Nat.le_of_ble_eq_true rfl⟩ (sl_49 e9 ⟨rfl, rfl⟩) rfl (show 9 + 1 ≤ d + 1 + 11 by omega) (show 8 + (1 + 11) + (222) ≤ 40 * (d + 1) + 263 by omega) (by omega) (by omega) rfl
  refine sh_Lk_cV (r := none) (st2 := []) (pc2 := 195) (k2 := 49) (a := 39) (as := [.ref 40]) (rest := []) rfl rfl rfl (fun hT => (sh_s39 hT.st)) rfl rfl ⟨Nat.le_of_ble_eq_true rfl, Nat.le_of_ble_eq_true rfl⟩ (sl_49 e9 ⟨rfl, rfl⟩) rfl rfl (show 9 + 1 ≤ d + 1 + 11 by omega) (show 8 + (1 + 11) + (222) ≤ 40 * (d + 1) + 263 by omega) ?_
  obtain rfl := Option.some.inj e
  obtain ⟨rfl, rfl⟩ := tg
  exact sh_Lk_ret (i := .return_) rfl rfl rfl (by omega) (by omega)
theorem sl_62_167 {Q : sh_Q44} {d : Nat} {x1 : Int32} {x2 : Int32} {x3 : Int32} {x4 : Int32} {x5 : Bool} {x6 : Int32} {y1 : Int32} {y2 : Bool} {m m2 : sh_X} {o : Outcome} {z : ((Int32 × Bool × Int32 × sh_X) ⊕ (Option Unit × sh_X))} (hQ : sh_QL44 Q d) (e : sf_62_167 Q x1 x2 x3 x4 x5 x6 y1 y2 m = some z) (tg : (sh_el (fun q => sh_Lk 62 93 [(0, .ref 40), (1, .int x1), (2, .int x2), (3, .int x3), (4, .int q.1), (5, .int (sh_b2 q.2.1)), (6, .int q.2.2.1)] [] q.2.2.2 o m2 (d + 1 + 11) (40 * (d + 1) + 263)) (sh_tVt o m2)) z) : sh_Lk 62 167 [(0, .ref 40), (1, .int x1), (2, .int x2), (3, .int x3), (4, .int x4), (5, .int (sh_b2 x5)), (6, .int x6)] [.int (sh_b2 y2), .int y1, .ref 40] m o m2 (d + 1 + 11) (40 * (d + 1) + 263) := by
  unfold sf_62_167 at e
  refine sh_Lk_lift (T := m.T) (I := m.I) (J := m.J) (s := m.s) (pc2 := 93) (lv2 := [(6, .int (x6 + 1)), (0, .ref 40), (1, .int x1), (2, .int x2), (3, .int x3), (4, .int x4), (5, .int (sh_b2 x5))]) (st2 := []) (I2 := sh_u2 m.I 39 4 (y1 + (sh_b2 y2))) (J2 := m.J) (fun hT v kk => ?_) ?_
  · refine sh_w (i := .iadd) (len := 1) (pc2 := 168) (lv2 := [(0, .ref 40), (1, .int x1), (2, .int x2), (3, .int x3), (4, .int x4), (5, .int (sh_b2 x5)), (6, .int x6)]) (st2 := [.int (y1 + (sh_b2 y2)), .ref 40]) (h2 := (sh_rep m.T m.I m.J)) rfl rfl rfl ?_
    refine sh_pI1 (x := y1 + (sh_b2 y2)) (pc2 := 171) rfl rfl (sh_s39 hT.st) rfl rfl rfl rfl ?_
    refine sh_w (i := (.iinc 6 1)) (len := 3) (pc2 := 174) (lv2 := [(6, .int (x6 + 1)), (0, .ref 40), (1, .int x1), (2, .int x2), (3, .int x3), (4, .int x4), (5, .int (sh_b2 x5))]) (st2 := []) (h2 := (sh_rep m.T (sh_u2 m.I 39 4 (y1 + (sh_b2 y2))) m.J)) rfl rfl rfl ?_
    refine sh_w (i := (.goto (-81))) (len := 3) (pc2 := 93) (lv2 := [(6, .int (x6 + 1)), (0, .ref 40), (1, .int x1), (2, .int x2), (3, .int x3), (4, .int x4), (5, .int (sh_b2 x5))]) (st2 := []) (h2 := (sh_rep m.T (sh_u2 m.I 39 4 (y1 + (sh_b2 y2))) m.J)) rfl rfl rfl ?_
    exact kk
  obtain rfl := Option.some.inj e
  exact sh_Lk_sub (sh_sub_c rfl (sh_sub_c rfl (sh_sub_c rfl (sh_sub_c rfl (sh_sub_c rfl (sh_sub_c rfl (sh_sub_c rfl (sh_sub_n)))))))) tg
theorem sl_62_150 {Q : sh_Q44} {d : Nat} {x1 : Int32} {x2 : Int32} {x3 : Int32} {x4 : Int32} {x6 : Int32} {y0 : Bool} {m m2 : sh_X} {o : Outcome} {z : ((Int32 × Bool × Int32 × sh_X) ⊕ (Option Unit × sh_X))} (hQ : sh_QL44 Q d) (e : sf_62_150 Q x1 x2 x3 x4 x6 y0 m = some z) (tg : (sh_el (fun q => sh_Lk 62 93 [(0, .ref 40), (1, .int x1), (2, .int x2), (3, .int x3), (4, .int q.1), (5, .int (sh_b2 q.2.1)), (6, .int q.2.2.1)] [] q.2.2.2 o m2 (d + 1 + 11) (40 * (d + 1) + 263)) (sh_tVt o m2)) z) : sh_Lk 62 150 [(0, .ref 40), (1, .int x1), (2, .int x2), (3, .int x3), (4, .int x4), (6, .int x6)] [.int (sh_b2 y0)] m o m2 (d + 1 + 11) (40 * (d + 1) + 263) := by
  unfold sf_62_150 at e
  refine sh_Lk_lift (T := m.T) (I := m.I) (J := m.J) (s := m.s) (pc2 := 159) (lv2 := [(5, .int (sh_b2 y0)), (0, .ref 40), (1, .int x1), (2, .int x2), (3, .int x3), (4, .int x4), (6, .int x6)]) (st2 := [.int (sh_b2 y0), .int (m.I 39 4), .ref 40]) (I2 := m.I) (J2 := m.J) (fun hT v kk => ?_) ?_
  · refine sh_w (i := (.istore 5)) (len := 2) (pc2 := 152) (lv2 := [(5, .int (sh_b2 y0)), (0, .ref 40), (1, .int x1), (2, .int x2), (3, .int x3), (4, .int x4), (6, .int x6)]) (st2 := []) (h2 := (sh_rep m.T m.I m.J)) rfl rfl rfl ?_
    refine sh_w (i := (.aload_n 0)) (len := 1) (pc2 := 153) (lv2 := [(5, .int (sh_b2 y0)), (0, .ref 40), (1, .int x1), (2, .int x2), (3, .int x3), (4, .int x4), (6, .int x6)]) (st2 := [.ref 40]) (h2 := (sh_rep m.T m.I m.J)) rfl rfl rfl ?_
    refine sh_w (i := .dup) (len := 1) (pc2 := 154) (lv2 := [(5, .int (sh_b2 y0)), (0, .ref 40), (1, .int x1), (2, .int x2), (3, .int x3), (4, .int x4), (6, .int x6)]) (st2 := [.ref 40, .ref 40]) (h2 := (sh_rep m.T m.I m.J)) rfl rfl rfl ?_
    refine sh_gI1 (len := 3) (x := m.I 39 4) (pc2 := 157) rfl rfl (sh_s39 hT.st) rfl rfl rfl ?_
    refine sh_w (i := (.iload 5)) (len := 2) (pc2 := 159) (lv2 := [(5, .int (sh_b2 y0)), (0, .ref 40), (1, .int x1), (2, .int x2), (3, .int x3), (4, .int x4), (6, .int x6)]) (st2 := [.int (sh_b2 y0), .int (m.I 39 4), .ref 40]) (h2 := (sh_rep m.T m.I m.J)) rfl rfl rfl ?_
    exact kk
  rcases sh_ite e with ⟨c, e⟩ | ⟨c, e⟩
  · refine sh_Lk_lift (T := m.T) (I := m.I) (J := m.J) (s := m.s) (pc2 := 167) (lv2 := [(5, .int (sh_b2 y0)), (0, .ref 40), (1, .int x1), (2, .int x2), (3, .int x3), (4, .int x4), (6, .int x6)]) (st2 := [.int 1, .int (m.I 39 4), .ref 40]) (I2 := m.I) (J2 := m.J) (fun hT v kk => ?_) ?_
    · refine sh_j0 (c := .eq) (off := (7)) (pc2 := 162) false rfl (sh_Zeqf c) rfl ?_
      refine sh_w (i := (.iconst 1)) (len := 1) (pc2 := 163) (lv2 := [(5, .int (sh_b2 y0)), (0, .ref 40), (1, .int x1), (2, .int x2), (3, .int x3), (4, .int x4), (6, .int x6)]) (st2 := [.int 1, .int (m.I 39 4), .ref 40]) (h2 := (sh_rep m.T m.I m.J)) rfl rfl rfl ?_
      refine sh_w (i := (.goto 4)) (len := 3) (pc2 := 167) (lv2 := [(5, .int (sh_b2 y0)), (0, .ref 40), (1, .int x1), (2, .int x2), (3, .int x3), (4, .int x4), (6, .int x6)]) (st2 := [.int 1, .int (m.I 39 4), .ref 40]) (h2 := (sh_rep m.T m.I m.J)) rfl rfl rfl ?_
      exact kk
    exact sh_Lk_sub (sh_sub_c rfl (sh_sub_c rfl (sh_sub_c rfl (sh_sub_c rfl (sh_sub_c rfl (sh_sub_c rfl (sh_sub_c rfl (sh_sub_n)))))))) (sl_62_167 hQ e tg)
  · refine sh_Lk_lift (T := m.T) (I := m.I) (J := m.J) (s := m.s) (pc2 := 167) (lv2 := [(5, .int (sh_b2 y0)), (0, .ref 40), (1, .int x1), (2, .int x2), (3, .int x3), (4, .int x4), (6, .int x6)]) (st2 := [.int 0, .int (m.I 39 4), .ref 40]) (I2 := m.I) (J2 := m.J) (fun hT v kk => ?_) ?_
    · refine sh_j0 (c := .eq) (off := (7)) (pc2 := 166) true rfl (sh_Zeqt c) rfl ?_
      refine sh_w (i := (.iconst 0)) (len := 1) (pc2 := 167) (lv2 := [(5, .int (sh_b2 y0)), (0, .ref 40), (1, .int x1), (2, .int x2), (3, .int x3), (4, .int x4), (6, .int x6)]) (st2 := [.int 0, .int (m.I 39 4), .ref 40]) (h2 := (sh_rep m.T m.I m.J)) rfl rfl rfl ?_
      exact kk
    exact sh_Lk_sub (sh_sub_c rfl (sh_sub_c rfl (sh_sub_c rfl (sh_sub_c rfl (sh_sub_c rfl (sh_sub_c rfl (sh_sub_c rfl (sh_sub_n)))))))) (sl_62_167 hQ e tg)
theorem sl_62_177 {Q : sh_Q44} {d : Nat} {x1 : Int32} {x2 : Int32} {x3 : Int32} {x4 : Int32} {m m2 : sh_X} {o : Outcome} {z : (Option Unit × sh_X)} (hQ : sh_QL44 Q d) (e : sf_62_177 Q x1 x2 x3 x4 m = some z) (tg : (sh_tVt o m2) z) : sh_Lk 62 177 [(0, .ref 40), (1, .int x1), (2, .int x2), (3, .int x3), (4, .int x4)] [] m o m2 (d + 1 + 11) (40 * (d + 1) + 263) := by
  unfold sf_62_177 at e
  refine sh_Lk_lift (T := m.T) (I := m.I) (J := m.J) (s := m.s) (pc2 := 180) (lv2 := [(0, .ref 40), (1, .int x1), (2, .int x2), (3, .int x3), (4, .int x4)]) (st2 := [.int 41, .ref 40]) (I2 := m.I) (J2 := m.J) (fun hT v kk => ?_) ?_
  · refine sh_w (i := (.aload_n 0)) (len := 1) (pc2 := 178) (lv2 := [(0, .ref 40), (1, .int x1), (2, .int x2), (3, .int x3), (4, .int x4)]) (st2 := [.ref 40]) (h2 := (sh_rep m.T m.I m.J)) rfl rfl rfl ?_
    refine sh_w (i := (.bipush 41)) (len := 2) (pc2 := 180) (lv2 := [(0, .ref 40), (1, .int x1), (2, .int x2), (3, .int x3), (4, .int x4)]) (st2 := [.int 41, .ref 40]) (h2 := (sh_rep m.T m.I m.J)) rfl rfl rfl ?_
    exact kk
  rcases sh_bt_e e with ⟨m11, e1, rfl⟩ | ⟨r1, m11, e1, e⟩
  · obtain ⟨rfl, rfl⟩ := tg
    exact sh_Lk_tV (k2 := 48) (a := 39) (as := [.ref 40, .int 41]) (rest := []) rfl rfl rfl (fun hT => (sh_s39 hT.st)) rfl rfl ⟨Nat.le_of_ble_eq_true rfl, Nat.le_of_ble_eq_true rfl⟩ (sl_48 e1 ⟨rfl, rfl⟩) rfl (show 10 + 1 ≤ d + 1 + 11 by omega) (show 8 + (2 + 11) + (242) ≤ 40 * (d + 1) + 263 by omega) (by omega) (by omega) rfl
  refine sh_Lk_cV (r := none) (st2 := []) (pc2 := 183) (k2 := 48) (a := 39) (as := [.ref 40, .int 41]) (rest := []) rfl rfl rfl (fun hT => (sh_s39 hT.st)) rfl rfl ⟨Nat.le_of_ble_eq_true rfl, Nat.le_of_ble_eq_true rfl⟩ (sl_48 e1 ⟨rfl, rfl⟩) rfl rfl (show 10 + 1 ≤ d + 1 + 11 by omega) (show 8 + (2 + 11) + (242) ≤ 40 * (d + 1) + 263 by omega) ?_
  refine sh_Lk_lift (T := m11.T) (I := m11.I) (J := m11.J) (s := m11.s) (pc2 := 190) (lv2 := [(0, .ref 40), (1, .int x1), (2, .int x2), (3, .int x3), (4, .int x4)]) (st2 := [.int x4, .int x3, .ref 29]) (I2 := m11.I) (J2 := m11.J) (fun hT v kk => ?_) ?_
  · refine sh_w (i := (.aload_n 0)) (len := 1) (pc2 := 184) (lv2 := [(0, .ref 40), (1, .int x1), (2, .int x2), (3, .int x3), (4, .int x4)]) (st2 := [.ref 40]) (h2 := (sh_rep m11.T m11.I m11.J)) rfl rfl rfl ?_
    refine sh_gR1 (len := 3) (x := .ref 29) (pc2 := 187) rfl rfl (sh_s39 hT.st) rfl rfl ?_
    refine sh_w (i := (.iload_n 3)) (len := 1) (pc2 := 188) (lv2 := [(0, .ref 40), (1, .int x1), (2, .int x2), (3, .int x3), (4, .int x4)]) (st2 := [.int x3, .ref 29]) (h2 := (sh_rep m11.T m11.I m11.J)) rfl rfl rfl ?_
    refine sh_w (i := (.iload 4)) (len := 2) (pc2 := 190) (lv2 := [(0, .ref 40), (1, .int x1), (2, .int x2), (3, .int x3), (4, .int x4)]) (st2 := [.int x4, .int x3, .ref 29]) (h2 := (sh_rep m11.T m11.I m11.J)) rfl rfl rfl ?_
    exact kk
  obtain ⟨r2, m12, e2, e⟩ := sh_bn_e e
  refine sh_Lk_cV (r := none) (st2 := []) (pc2 := 193) (k2 := 63) (a := 28) (as := [.ref 29, .int x3, .int x4]) (rest := []) rfl rfl rfl (fun hT => (sh_s28 hT.st)) rfl rfl ⟨Nat.le_of_ble_eq_true rfl, Nat.le_of_ble_eq_true rfl⟩ (sl_63 e2 ⟨rfl, rfl⟩) rfl rfl (show 9 + 1 ≤ d + 1 + 11 by omega) (show 8 + (3 + 11) + (221) ≤ 40 * (d + 1) + 263 by omega) ?_
  refine sh_Lk_lift (T := m12.T) (I := m12.I) (J := m12.J) (s := m12.s) (pc2 := 201) (lv2 := [(0, .ref 40), (1, .int x1), (2, .int x2), (3, .int x3), (4, .int x4)]) (st2 := [.int x1, .int x2, .int 17, .ref 29]) (I2 := m12.I) (J2 := m12.J) (fun hT v kk => ?_) ?_
  · refine sh_w (i := (.aload_n 0)) (len := 1) (pc2 := 194) (lv2 := [(0, .ref 40), (1, .int x1), (2, .int x2), (3, .int x3), (4, .int x4)]) (st2 := [.ref 40]) (h2 := (sh_rep m12.T m12.I m12.J)) rfl rfl rfl ?_
    refine sh_gR1 (len := 3) (x := .ref 29) (pc2 := 197) rfl rfl (sh_s39 hT.st) rfl rfl ?_
    refine sh_w (i := (.bipush 17)) (len := 2) (pc2 := 199) (lv2 := [(0, .ref 40), (1, .int x1), (2, .int x2), (3, .int x3), (4, .int x4)]) (st2 := [.int 17, .ref 29]) (h2 := (sh_rep m12.T m12.I m12.J)) rfl rfl rfl ?_
    refine sh_w (i := (.iload_n 2)) (len := 1) (pc2 := 200) (lv2 := [(0, .ref 40), (1, .int x1), (2, .int x2), (3, .int x3), (4, .int x4)]) (st2 := [.int x2, .int 17, .ref 29]) (h2 := (sh_rep m12.T m12.I m12.J)) rfl rfl rfl ?_
    refine sh_w (i := (.iload_n 1)) (len := 1) (pc2 := 201) (lv2 := [(0, .ref 40), (1, .int x1), (2, .int x2), (3, .int x3), (4, .int x4)]) (st2 := [.int x1, .int x2, .int 17, .ref 29]) (h2 := (sh_rep m12.T m12.I m12.J)) rfl rfl rfl ?_
    exact kk
  obtain ⟨r3, m13, e3, e⟩ := sh_bn_e e
  refine sh_Lk_cV (r := (some (.int r3))) (st2 := [.int r3]) (pc2 := 204) (k2 := 56) (a := 28) (as := [.ref 29, .int 17, .int x2, .int x1]) (rest := []) rfl rfl rfl (fun hT => (sh_s28 hT.st)) rfl rfl ⟨Nat.le_of_ble_eq_true rfl, Nat.le_of_ble_eq_true rfl⟩ (sl_56 e3 ⟨rfl, rfl⟩) rfl rfl (show 8 + 1 ≤ d + 1 + 11 by omega) (show 8 + (4 + 11) + (200) ≤ 40 * (d + 1) + 263 by omega) ?_
  refine sh_Lk_lift (T := m13.T) (I := m13.I) (J := m13.J) (s := m13.s) (pc2 := 205) (lv2 := [(0, .ref 40), (1, .int x1), (2, .int x2), (3, .int x3), (4, .int x4)]) (st2 := []) (I2 := m13.I) (J2 := m13.J) (fun hT v kk => ?_) ?_
  · refine sh_w (i := .pop) (len := 1) (pc2 := 205) (lv2 := [(0, .ref 40), (1, .int x1), (2, .int x2), (3, .int x3), (4, .int x4)]) (st2 := []) (h2 := (sh_rep m13.T m13.I m13.J)) rfl rfl rfl ?_
    exact kk
  obtain rfl := Option.some.inj e
  obtain ⟨rfl, rfl⟩ := tg
  exact sh_Lk_ret (i := .return_) rfl rfl rfl (by omega) (by omega)
theorem sl_62_93s {Q : sh_Q44} {d : Nat} {x1 : Int32} {x2 : Int32} {x3 : Int32} {x4 : Int32} {x5 : Bool} {x6 : Int32} {m m2 : sh_X} {o : Outcome} {z : ((Int32 × Bool × Int32 × sh_X) ⊕ (Option Unit × sh_X))} (hQ : sh_QL44 Q d) (e : sf_62_93s Q x1 x2 x3 x4 x5 x6 m = some z) (tg : (sh_el (fun q => sh_Lk 62 93 [(0, .ref 40), (1, .int x1), (2, .int x2), (3, .int x3), (4, .int q.1), (5, .int (sh_b2 q.2.1)), (6, .int q.2.2.1)] [] q.2.2.2 o m2 (d + 1 + 11) (40 * (d + 1) + 263)) (sh_tVt o m2)) z) : sh_Lk 62 93 [(0, .ref 40), (1, .int x1), (2, .int x2), (3, .int x3), (4, .int x4), (5, .int (sh_b2 x5)), (6, .int x6)] [] m o m2 (d + 1 + 11) (40 * (d + 1) + 263) := by
  unfold sf_62_93s at e
  refine sh_Lk_lift (T := m.T) (I := m.I) (J := m.J) (s := m.s) (pc2 := 98) (lv2 := [(0, .ref 40), (1, .int x1), (2, .int x2), (3, .int x3), (4, .int x4), (5, .int (sh_b2 x5)), (6, .int x6)]) (st2 := [.int 4000, .int x6]) (I2 := m.I) (J2 := m.J) (fun hT v kk => ?_) ?_
  · refine sh_w (i := (.iload 6)) (len := 2) (pc2 := 95) (lv2 := [(0, .ref 40), (1, .int x1), (2, .int x2), (3, .int x3), (4, .int x4), (5, .int (sh_b2 x5)), (6, .int x6)]) (st2 := [.int x6]) (h2 := (sh_rep m.T m.I m.J)) rfl rfl rfl ?_
    refine sh_w (i := (.sipush 4000)) (len := 3) (pc2 := 98) (lv2 := [(0, .ref 40), (1, .int x1), (2, .int x2), (3, .int x3), (4, .int x4), (5, .int (sh_b2 x5)), (6, .int x6)]) (st2 := [.int 4000, .int x6]) (h2 := (sh_rep m.T m.I m.J)) rfl rfl rfl ?_
    exact kk
  rcases sh_ite e with ⟨c, e⟩ | ⟨c, e⟩
  · refine sh_Lk_lift (T := m.T) (I := m.I) (J := m.J) (s := m.s) (pc2 := 103) (lv2 := [(0, .ref 40), (1, .int x1), (2, .int x2), (3, .int x3), (4, .int x4), (5, .int (sh_b2 x5)), (6, .int x6)]) (st2 := [.int (sh_b2 x5)]) (I2 := m.I) (J2 := m.J) (fun hT v kk => ?_) ?_
    · refine sh_jc (c := .ge) (off := (79)) (pc2 := 101) false rfl (sh_Bgef c) rfl ?_
      refine sh_w (i := (.iload 5)) (len := 2) (pc2 := 103) (lv2 := [(0, .ref 40), (1, .int x1), (2, .int x2), (3, .int x3), (4, .int x4), (5, .int (sh_b2 x5)), (6, .int x6)]) (st2 := [.int (sh_b2 x5)]) (h2 := (sh_rep m.T m.I m.J)) rfl rfl rfl ?_
      exact kk
    rcases sh_ite e with ⟨c, e⟩ | ⟨c, e⟩
    · refine sh_Lk_lift (T := m.T) (I := m.I) (J := m.J) (s := m.s) (pc2 := 116) (lv2 := [(7, .int (m.I 39 4)), (0, .ref 40), (1, .int x1), (2, .int x2), (3, .int x3), (4, .int x4), (5, .int (sh_b2 x5)), (6, .int x6)]) (st2 := [.int (x1 + 1), .ref 40]) (I2 := m.I) (J2 := m.J) (fun hT v kk => ?_) ?_
      · refine sh_j0 (c := .eq) (off := (74)) (pc2 := 106) false rfl (sh_Zeqf c) rfl ?_
        refine sh_w (i := (.aload_n 0)) (len := 1) (pc2 := 107) (lv2 := [(0, .ref 40), (1, .int x1), (2, .int x2), (3, .int x3), (4, .int x4), (5, .int (sh_b2 x5)), (6, .int x6)]) (st2 := [.ref 40]) (h2 := (sh_rep m.T m.I m.J)) rfl rfl rfl ?_
        refine sh_gI1 (len := 3) (x := m.I 39 4) (pc2 := 110) rfl rfl (sh_s39 hT.st) rfl rfl rfl ?_
        refine sh_w (i := (.istore 7)) (len := 2) (pc2 := 112) (lv2 := [(7, .int (m.I 39 4)), (0, .ref 40), (1, .int x1), (2, .int x2), (3, .int x3), (4, .int x4), (5, .int (sh_b2 x5)), (6, .int x6)]) (st2 := []) (h2 := (sh_rep m.T m.I m.J)) rfl rfl rfl ?_
        refine sh_w (i := (.aload_n 0)) (len := 1) (pc2 := 113) (lv2 := [(7, .int (m.I 39 4)), (0, .ref 40), (1, .int x1), (2, .int x2), (3, .int x3), (4, .int x4), (5, .int (sh_b2 x5)), (6, .int x6)]) (st2 := [.ref 40]) (h2 := (sh_rep m.T m.I m.J)) rfl rfl rfl ?_
        refine sh_w (i := (.iload_n 1)) (len := 1) (pc2 := 114) (lv2 := [(7, .int (m.I 39 4)), (0, .ref 40), (1, .int x1), (2, .int x2), (3, .int x3), (4, .int x4), (5, .int (sh_b2 x5)), (6, .int x6)]) (st2 := [.int x1, .ref 40]) (h2 := (sh_rep m.T m.I m.J)) rfl rfl rfl ?_
        refine sh_w (i := (.iconst 1)) (len := 1) (pc2 := 115) (lv2 := [(7, .int (m.I 39 4)), (0, .ref 40), (1, .int x1), (2, .int x2), (3, .int x3), (4, .int x4), (5, .int (sh_b2 x5)), (6, .int x6)]) (st2 := [.int 1, .int x1, .ref 40]) (h2 := (sh_rep m.T m.I m.J)) rfl rfl rfl ?_
        refine sh_w (i := .iadd) (len := 1) (pc2 := 116) (lv2 := [(7, .int (m.I 39 4)), (0, .ref 40), (1, .int x1), (2, .int x2), (3, .int x3), (4, .int x4), (5, .int (sh_b2 x5)), (6, .int x6)]) (st2 := [.int (x1 + 1), .ref 40]) (h2 := (sh_rep m.T m.I m.J)) rfl rfl rfl ?_
        exact kk
      rcases sh_bt_e e with ⟨m11, e1, rfl⟩ | ⟨r1, m11, e1, e⟩
      · obtain ⟨rfl, rfl⟩ := tg
        exact sh_Lk_tV (k2 := 58) (a := 39) (as := [.ref 40, .int (x1 + 1)]) (rest := []) rfl rfl rfl (fun hT => (sh_s39 hT.st)) rfl rfl ⟨Nat.le_of_ble_eq_true rfl, Nat.le_of_ble_eq_true rfl⟩ (hQ.f58 e1 ⟨rfl, rfl⟩) rfl (show d + 11 + 1 ≤ d + 1 + 11 by omega) (show 8 + (4 + 11) + (40 * d + 263) ≤ 40 * (d + 1) + 263 by omega) (by omega) (by omega) rfl
      refine sh_Lk_cV (r := none) (st2 := []) (pc2 := 119) (k2 := 58) (a := 39) (as := [.ref 40, .int (x1 + 1)]) (rest := []) rfl rfl rfl (fun hT => (sh_s39 hT.st)) rfl rfl ⟨Nat.le_of_ble_eq_true rfl, Nat.le_of_ble_eq_true rfl⟩ (hQ.f58 e1 ⟨rfl, rfl⟩) rfl rfl (show d + 11 + 1 ≤ d + 1 + 11 by omega) (show 8 + (4 + 11) + (40 * d + 263) ≤ 40 * (d + 1) + 263 by omega) ?_
      refine sh_Lk_lift (T := m11.T) (I := m11.I) (J := m11.J) (s := m11.s) (pc2 := 129) (lv2 := [(7, .int (m.I 39 4)), (0, .ref 40), (1, .int x1), (2, .int x2), (3, .int x3), (4, .int x4), (5, .int (sh_b2 x5)), (6, .int x6)]) (st2 := [.int x4, .int (m.I 39 4), .int 16, .ref 29]) (I2 := m11.I) (J2 := m11.J) (fun hT v kk => ?_) ?_
      · refine sh_w (i := (.aload_n 0)) (len := 1) (pc2 := 120) (lv2 := [(7, .int (m.I 39 4)), (0, .ref 40), (1, .int x1), (2, .int x2), (3, .int x3), (4, .int x4), (5, .int (sh_b2 x5)), (6, .int x6)]) (st2 := [.ref 40]) (h2 := (sh_rep m11.T m11.I m11.J)) rfl rfl rfl ?_
        refine sh_gR1 (len := 3) (x := .ref 29) (pc2 := 123) rfl rfl (sh_s39 hT.st) rfl rfl ?_
        refine sh_w (i := (.bipush 16)) (len := 2) (pc2 := 125) (lv2 := [(7, .int (m.I 39 4)), (0, .ref 40), (1, .int x1), (2, .int x2), (3, .int x3), (4, .int x4), (5, .int (sh_b2 x5)), (6, .int x6)]) (st2 := [.int 16, .ref 29]) (h2 := (sh_rep m11.T m11.I m11.J)) rfl rfl rfl ?_
        refine sh_w (i := (.iload 7)) (len := 2) (pc2 := 127) (lv2 := [(7, .int (m.I 39 4)), (0, .ref 40), (1, .int x1), (2, .int x2), (3, .int x3), (4, .int x4), (5, .int (sh_b2 x5)), (6, .int x6)]) (st2 := [.int (m.I 39 4), .int 16, .ref 29]) (h2 := (sh_rep m11.T m11.I m11.J)) rfl rfl rfl ?_
        refine sh_w (i := (.iload 4)) (len := 2) (pc2 := 129) (lv2 := [(7, .int (m.I 39 4)), (0, .ref 40), (1, .int x1), (2, .int x2), (3, .int x3), (4, .int x4), (5, .int (sh_b2 x5)), (6, .int x6)]) (st2 := [.int x4, .int (m.I 39 4), .int 16, .ref 29]) (h2 := (sh_rep m11.T m11.I m11.J)) rfl rfl rfl ?_
        exact kk
      obtain ⟨r2, m12, e2, e⟩ := sh_bn_e e
      refine sh_Lk_cV (r := (some (.int r2))) (st2 := [.int r2]) (pc2 := 132) (k2 := 56) (a := 28) (as := [.ref 29, .int 16, .int (m.I 39 4), .int x4]) (rest := []) rfl rfl rfl (fun hT => (sh_s28 hT.st)) rfl rfl ⟨Nat.le_of_ble_eq_true rfl, Nat.le_of_ble_eq_true rfl⟩ (sl_56 e2 ⟨rfl, rfl⟩) rfl rfl (show 8 + 1 ≤ d + 1 + 11 by omega) (show 8 + (4 + 11) + (200) ≤ 40 * (d + 1) + 263 by omega) ?_
      refine sh_Lk_lift (T := m12.T) (I := m12.I) (J := m12.J) (s := m12.s) (pc2 := 137) (lv2 := [(4, .int (x4 + 1)), (7, .int (m.I 39 4)), (0, .ref 40), (1, .int x1), (2, .int x2), (3, .int x3), (5, .int (sh_b2 x5)), (6, .int x6)]) (st2 := [.ref 40]) (I2 := m12.I) (J2 := m12.J) (fun hT v kk => ?_) ?_
      · refine sh_w (i := .pop) (len := 1) (pc2 := 133) (lv2 := [(7, .int (m.I 39 4)), (0, .ref 40), (1, .int x1), (2, .int x2), (3, .int x3), (4, .int x4), (5, .int (sh_b2 x5)), (6, .int x6)]) (st2 := []) (h2 := (sh_rep m12.T m12.I m12.J)) rfl rfl rfl ?_
        refine sh_w (i := (.iinc 4 1)) (len := 3) (pc2 := 136) (lv2 := [(4, .int (x4 + 1)), (7, .int (m.I 39 4)), (0, .ref 40), (1, .int x1), (2, .int x2), (3, .int x3), (5, .int (sh_b2 x5)), (6, .int x6)]) (st2 := []) (h2 := (sh_rep m12.T m12.I m12.J)) rfl rfl rfl ?_
        refine sh_w (i := (.aload_n 0)) (len := 1) (pc2 := 137) (lv2 := [(4, .int (x4 + 1)), (7, .int (m.I 39 4)), (0, .ref 40), (1, .int x1), (2, .int x2), (3, .int x3), (5, .int (sh_b2 x5)), (6, .int x6)]) (st2 := [.ref 40]) (h2 := (sh_rep m12.T m12.I m12.J)) rfl rfl rfl ?_
        exact kk
      obtain ⟨r3, e3, e⟩ := sh_bc_e e
      refine sh_Lk_cV (r := (some (.int r3))) (st2 := [.int r3]) (pc2 := 140) (k2 := 45) (a := 39) (as := [.ref 40]) (rest := []) rfl rfl rfl (fun hT => (sh_s39 hT.st)) rfl rfl ⟨Nat.le_of_ble_eq_true rfl, Nat.le_of_ble_eq_true rfl⟩ (sl_45 e3 ⟨rfl, rfl⟩) rfl rfl (show 9 + 1 ≤ d + 1 + 11 by omega) (show 8 + (1 + 11) + (221) ≤ 40 * (d + 1) + 263 by omega) ?_
      refine sh_Lk_lift (T := m12.T) (I := m12.I) (J := m12.J) (s := m12.s) (pc2 := 142) (lv2 := [(4, .int (x4 + 1)), (7, .int (m.I 39 4)), (0, .ref 40), (1, .int x1), (2, .int x2), (3, .int x3), (5, .int (sh_b2 x5)), (6, .int x6)]) (st2 := [.int 44, .int r3]) (I2 := m12.I) (J2 := m12.J) (fun hT v kk => ?_) ?_
      · refine sh_w (i := (.bipush 44)) (len := 2) (pc2 := 142) (lv2 := [(4, .int (x4 + 1)), (7, .int (m.I 39 4)), (0, .ref 40), (1, .int x1), (2, .int x2), (3, .int x3), (5, .int (sh_b2 x5)), (6, .int x6)]) (st2 := [.int 44, .int r3]) (h2 := (sh_rep m12.T m12.I m12.J)) rfl rfl rfl ?_
        exact kk
      rcases sh_ite e with ⟨c, e⟩ | ⟨c, e⟩
      · refine sh_Lk_lift (T := m12.T) (I := m12.I) (J := m12.J) (s := m12.s) (pc2 := 150) (lv2 := [(4, .int (x4 + 1)), (7, .int (m.I 39 4)), (0, .ref 40), (1, .int x1), (2, .int x2), (3, .int x3), (5, .int (sh_b2 x5)), (6, .int x6)]) (st2 := [.int 1]) (I2 := m12.I) (J2 := m12.J) (fun hT v kk => ?_) ?_
        · refine sh_jc (c := .ne) (off := (7)) (pc2 := 145) false rfl (sh_Bnef c) rfl ?_
          refine sh_w (i := (.iconst 1)) (len := 1) (pc2 := 146) (lv2 := [(4, .int (x4 + 1)), (7, .int (m.I 39 4)), (0, .ref 40), (1, .int x1), (2, .int x2), (3, .int x3), (5, .int (sh_b2 x5)), (6, .int x6)]) (st2 := [.int 1]) (h2 := (sh_rep m12.T m12.I m12.J)) rfl rfl rfl ?_
          refine sh_w (i := (.goto 4)) (len := 3) (pc2 := 150) (lv2 := [(4, .int (x4 + 1)), (7, .int (m.I 39 4)), (0, .ref 40), (1, .int x1), (2, .int x2), (3, .int x3), (5, .int (sh_b2 x5)), (6, .int x6)]) (st2 := [.int 1]) (h2 := (sh_rep m12.T m12.I m12.J)) rfl rfl rfl ?_
          exact kk
        exact sh_Lk_sub (sh_sub_c rfl (sh_sub_c rfl (sh_sub_c rfl (sh_sub_c rfl (sh_sub_c rfl (sh_sub_c rfl (sh_sub_n))))))) (sl_62_150 hQ e tg)
      · refine sh_Lk_lift (T := m12.T) (I := m12.I) (J := m12.J) (s := m12.s) (pc2 := 150) (lv2 := [(4, .int (x4 + 1)), (7, .int (m.I 39 4)), (0, .ref 40), (1, .int x1), (2, .int x2), (3, .int x3), (5, .int (sh_b2 x5)), (6, .int x6)]) (st2 := [.int 0]) (I2 := m12.I) (J2 := m12.J) (fun hT v kk => ?_) ?_
        · refine sh_jc (c := .ne) (off := (7)) (pc2 := 149) true rfl (sh_Bnet c) rfl ?_
          refine sh_w (i := (.iconst 0)) (len := 1) (pc2 := 150) (lv2 := [(4, .int (x4 + 1)), (7, .int (m.I 39 4)), (0, .ref 40), (1, .int x1), (2, .int x2), (3, .int x3), (5, .int (sh_b2 x5)), (6, .int x6)]) (st2 := [.int 0]) (h2 := (sh_rep m12.T m12.I m12.J)) rfl rfl rfl ?_
          exact kk
        exact sh_Lk_sub (sh_sub_c rfl (sh_sub_c rfl (sh_sub_c rfl (sh_sub_c rfl (sh_sub_c rfl (sh_sub_c rfl (sh_sub_n))))))) (sl_62_150 hQ e tg)
    · refine sh_Lk_lift (T := m.T) (I := m.I) (J := m.J) (s := m.s) (pc2 := 177) (lv2 := [(0, .ref 40), (1, .int x1), (2, .int x2), (3, .int x3), (4, .int x4), (5, .int (sh_b2 x5)), (6, .int x6)]) (st2 := []) (I2 := m.I) (J2 := m.J) (fun hT v kk => ?_) ?_
      · refine sh_j0 (c := .eq) (off := (74)) (pc2 := 177) true rfl (sh_Zeqt c) rfl ?_
        exact kk
      obtain ⟨_, eu, rfl⟩ := sh_up_e e
      exact sh_Lk_sub (sh_sub_c rfl (sh_sub_c rfl (sh_sub_c rfl (sh_sub_c rfl (sh_sub_c rfl (sh_sub_n)))))) (sl_62_177 hQ eu tg)
  · refine sh_Lk_lift (T := m.T) (I := m.I) (J := m.J) (s := m.s) (pc2 := 177) (lv2 := [(0, .ref 40), (1, .int x1), (2, .int x2), (3, .int x3), (4, .int x4), (5, .int (sh_b2 x5)), (6, .int x6)]) (st2 := []) (I2 := m.I) (J2 := m.J) (fun hT v kk => ?_) ?_
    · refine sh_jc (c := .ge) (off := (79)) (pc2 := 177) true rfl (sh_Bget c) rfl ?_
      exact kk
    obtain ⟨_, eu, rfl⟩ := sh_up_e e
    exact sh_Lk_sub (sh_sub_c rfl (sh_sub_c rfl (sh_sub_c rfl (sh_sub_c rfl (sh_sub_c rfl (sh_sub_n)))))) (sl_62_177 hQ eu tg)
theorem sl_62_93 {Q : sh_Q44} {d : Nat} {x1 : Int32} {x2 : Int32} {x3 : Int32} {x4 : Int32} {x5 : Bool} {x6 : Int32} {m m2 : sh_X} {o : Outcome} {z : (Option Unit × sh_X)} (hQ : sh_QL44 Q d) (e : sf_62_93 Q x1 x2 x3 x4 x5 x6 m = some z) (tg : (sh_tVt o m2) z) : sh_Lk 62 93 [(0, .ref 40), (1, .int x1), (2, .int x2), (3, .int x3), (4, .int x4), (5, .int (sh_b2 x5)), (6, .int x6)] [] m o m2 (d + 1 + 11) (40 * (d + 1) + 263) := by
  unfold sf_62_93 at e
  exact sh_while_lk (P := fun q => sh_Lk 62 93 [(0, .ref 40), (1, .int x1), (2, .int x2), (3, .int x3), (4, .int q.1), (5, .int (sh_b2 q.2.1)), (6, .int q.2.2.1)] [] q.2.2.2 o m2 (d + 1 + 11) (40 * (d + 1) + 263)) (Q := (sh_tVt o m2)) (fun q z e tg => sl_62_93s (x1 := x1) (x2 := x2) (x3 := x3) (x4 := q.1) (x5 := q.2.1) (x6 := q.2.2.1) (m := q.2.2.2) hQ e tg) (s := (x4, x5, x6, m)) e tg
theorem sl_62_88 {Q : sh_Q44} {d : Nat} {x1 : Int32} {x2 : Int32} {x3 : Int32} {x4 : Bool} {y0 : Bool} {m m2 : sh_X} {o : Outcome} {z : (Option Unit × sh_X)} (hQ : sh_QL44 Q d) (e : sf_62_88 Q x1 x2 x3 x4 y0 m = some z) (tg : (sh_tVt o m2) z) : sh_Lk 62 88 [(0, .ref 40), (1, .int x1), (2, .int x2), (3, .int x3), (4, .int (sh_b2 x4))] [.int (sh_b2 y0)] m o m2 (d + 1 + 11) (40 * (d + 1) + 263) := by
  unfold sf_62_88 at e
  refine sh_Lk_lift (T := m.T) (I := m.I) (J := m.J) (s := m.s) (pc2 := 93) (lv2 := [(6, .int 0), (5, .int (sh_b2 y0)), (0, .ref 40), (1, .int x1), (2, .int x2), (3, .int x3), (4, .int (sh_b2 x4))]) (st2 := []) (I2 := m.I) (J2 := m.J) (fun hT v kk => ?_) ?_
  · refine sh_w (i := (.istore 5)) (len := 2) (pc2 := 90) (lv2 := [(5, .int (sh_b2 y0)), (0, .ref 40), (1, .int x1), (2, .int x2), (3, .int x3), (4, .int (sh_b2 x4))]) (st2 := []) (h2 := (sh_rep m.T m.I m.J)) rfl rfl rfl ?_
    refine sh_w (i := (.iconst 0)) (len := 1) (pc2 := 91) (lv2 := [(5, .int (sh_b2 y0)), (0, .ref 40), (1, .int x1), (2, .int x2), (3, .int x3), (4, .int (sh_b2 x4))]) (st2 := [.int 0]) (h2 := (sh_rep m.T m.I m.J)) rfl rfl rfl ?_
    refine sh_w (i := (.istore 6)) (len := 2) (pc2 := 93) (lv2 := [(6, .int 0), (5, .int (sh_b2 y0)), (0, .ref 40), (1, .int x1), (2, .int x2), (3, .int x3), (4, .int (sh_b2 x4))]) (st2 := []) (h2 := (sh_rep m.T m.I m.J)) rfl rfl rfl ?_
    exact kk
  exact sh_Lk_sub (sh_sub_c rfl (sh_sub_c rfl (sh_sub_c rfl (sh_sub_c rfl (sh_sub_c rfl (sh_sub_c rfl (sh_sub_c rfl (sh_sub_n)))))))) (sl_62_93 hQ e tg)
theorem sl_62 {Q : sh_Q44} {d : Nat} {x1 : Int32} {m m2 : sh_X} {o : Outcome} {z : (Option Unit × sh_X)} (hQ : sh_QL44 Q d) (e : sf_62 Q x1 m = some z) (tg : (sh_tVt o m2) z) : sh_Lk 62 0 [(0, .ref 40), (1, .int x1)] [] m o m2 (d + 1 + 11) (40 * (d + 1) + 263) := by
  unfold sf_62 at e
  refine sh_Lk_lift (T := m.T) (I := m.I) (J := m.J) (s := m.s) (pc2 := 16) (lv2 := [(2, .int (m.I 39 4)), (0, .ref 40), (1, .int x1)]) (st2 := [.ref 40]) (I2 := sh_u2 m.I 39 4 ((m.I 39 4) + 1)) (J2 := m.J) (fun hT v kk => ?_) ?_
  · refine sh_w (i := (.aload_n 0)) (len := 1) (pc2 := 1) (lv2 := [(0, .ref 40), (1, .int x1)]) (st2 := [.ref 40]) (h2 := (sh_rep m.T m.I m.J)) rfl rfl rfl ?_
    refine sh_gI1 (len := 3) (x := m.I 39 4) (pc2 := 4) rfl rfl (sh_s39 hT.st) rfl rfl rfl ?_
    refine sh_w (i := (.istore_n 2)) (len := 1) (pc2 := 5) (lv2 := [(2, .int (m.I 39 4)), (0, .ref 40), (1, .int x1)]) (st2 := []) (h2 := (sh_rep m.T m.I m.J)) rfl rfl rfl ?_
    refine sh_w (i := (.aload_n 0)) (len := 1) (pc2 := 6) (lv2 := [(2, .int (m.I 39 4)), (0, .ref 40), (1, .int x1)]) (st2 := [.ref 40]) (h2 := (sh_rep m.T m.I m.J)) rfl rfl rfl ?_
    refine sh_w (i := .dup) (len := 1) (pc2 := 7) (lv2 := [(2, .int (m.I 39 4)), (0, .ref 40), (1, .int x1)]) (st2 := [.ref 40, .ref 40]) (h2 := (sh_rep m.T m.I m.J)) rfl rfl rfl ?_
    refine sh_gI1 (len := 3) (x := m.I 39 4) (pc2 := 10) rfl rfl (sh_s39 hT.st) rfl rfl rfl ?_
    refine sh_w (i := (.iconst 1)) (len := 1) (pc2 := 11) (lv2 := [(2, .int (m.I 39 4)), (0, .ref 40), (1, .int x1)]) (st2 := [.int 1, .int (m.I 39 4), .ref 40]) (h2 := (sh_rep m.T m.I m.J)) rfl rfl rfl ?_
    refine sh_w (i := .iadd) (len := 1) (pc2 := 12) (lv2 := [(2, .int (m.I 39 4)), (0, .ref 40), (1, .int x1)]) (st2 := [.int ((m.I 39 4) + 1), .ref 40]) (h2 := (sh_rep m.T m.I m.J)) rfl rfl rfl ?_
    refine sh_pI1 (x := (m.I 39 4) + 1) (pc2 := 15) rfl rfl (sh_s39 hT.st) rfl rfl rfl rfl ?_
    refine sh_w (i := (.aload_n 0)) (len := 1) (pc2 := 16) (lv2 := [(2, .int (m.I 39 4)), (0, .ref 40), (1, .int x1)]) (st2 := [.ref 40]) (h2 := (sh_rep m.T (sh_u2 m.I 39 4 ((m.I 39 4) + 1)) m.J)) rfl rfl rfl ?_
    exact kk
  obtain ⟨r1, e1, e⟩ := sh_bc_e e
  refine sh_Lk_cV (r := (some (.int r1))) (st2 := [.int r1]) (pc2 := 19) (k2 := 45) (a := 39) (as := [.ref 40]) (rest := []) rfl rfl rfl (fun hT => (sh_s39 hT.st)) rfl rfl ⟨Nat.le_of_ble_eq_true rfl, Nat.le_of_ble_eq_true rfl⟩ (sl_45 e1 ⟨rfl, rfl⟩) rfl rfl (show 9 + 1 ≤ d + 1 + 11 by omega) (show 8 + (1 + 11) + (221) ≤ 40 * (d + 1) + 263 by omega) ?_
  refine sh_Lk_lift (T := m.T) (I := sh_u2 m.I 39 4 ((m.I 39 4) + 1)) (J := m.J) (s := m.s) (pc2 := 21) (lv2 := [(2, .int (m.I 39 4)), (0, .ref 40), (1, .int x1)]) (st2 := [.int 40, .int r1]) (I2 := sh_u2 m.I 39 4 ((m.I 39 4) + 1)) (J2 := m.J) (fun hT v kk => ?_) ?_
  · refine sh_w (i := (.bipush 40)) (len := 2) (pc2 := 21) (lv2 := [(2, .int (m.I 39 4)), (0, .ref 40), (1, .int x1)]) (st2 := [.int 40, .int r1]) (h2 := (sh_rep m.T (sh_u2 m.I 39 4 ((m.I 39 4) + 1)) m.J)) rfl rfl rfl ?_
    exact kk
  rcases sh_ite e with ⟨c, e⟩ | ⟨c, e⟩
  · refine sh_Lk_lift (T := m.T) (I := sh_u2 m.I 39 4 ((m.I 39 4) + 1)) (J := m.J) (s := m.s) (pc2 := 55) (lv2 := [(2, .int (m.I 39 4)), (0, .ref 40), (1, .int x1)]) (st2 := [.int 0, .int (m.I 39 4), .int 14, .ref 29]) (I2 := sh_u2 (sh_u2 m.I 39 4 ((m.I 39 4) + 1)) 39 4 (((m.I 39 4) + 1) + 1)) (J2 := m.J) (fun hT v kk => ?_) ?_
    · refine sh_jc (c := .eq) (off := (16)) (pc2 := 37) true rfl (sh_Beqt c) rfl ?_
      refine sh_w (i := (.aload_n 0)) (len := 1) (pc2 := 38) (lv2 := [(2, .int (m.I 39 4)), (0, .ref 40), (1, .int x1)]) (st2 := [.ref 40]) (h2 := (sh_rep m.T (sh_u2 m.I 39 4 ((m.I 39 4) + 1)) m.J)) rfl rfl rfl ?_
      refine sh_w (i := .dup) (len := 1) (pc2 := 39) (lv2 := [(2, .int (m.I 39 4)), (0, .ref 40), (1, .int x1)]) (st2 := [.ref 40, .ref 40]) (h2 := (sh_rep m.T (sh_u2 m.I 39 4 ((m.I 39 4) + 1)) m.J)) rfl rfl rfl ?_
      refine sh_gI1 (len := 3) (x := (m.I 39 4) + 1) (pc2 := 42) rfl rfl (sh_s39 hT.st) rfl rfl rfl ?_
      refine sh_w (i := (.iconst 1)) (len := 1) (pc2 := 43) (lv2 := [(2, .int (m.I 39 4)), (0, .ref 40), (1, .int x1)]) (st2 := [.int 1, .int ((m.I 39 4) + 1), .ref 40]) (h2 := (sh_rep m.T (sh_u2 m.I 39 4 ((m.I 39 4) + 1)) m.J)) rfl rfl rfl ?_
      refine sh_w (i := .iadd) (len := 1) (pc2 := 44) (lv2 := [(2, .int (m.I 39 4)), (0, .ref 40), (1, .int x1)]) (st2 := [.int (((m.I 39 4) + 1) + 1), .ref 40]) (h2 := (sh_rep m.T (sh_u2 m.I 39 4 ((m.I 39 4) + 1)) m.J)) rfl rfl rfl ?_
      refine sh_pI1 (x := ((m.I 39 4) + 1) + 1) (pc2 := 47) rfl rfl (sh_s39 hT.st) rfl rfl rfl rfl ?_
      refine sh_w (i := (.aload_n 0)) (len := 1) (pc2 := 48) (lv2 := [(2, .int (m.I 39 4)), (0, .ref 40), (1, .int x1)]) (st2 := [.ref 40]) (h2 := (sh_rep m.T (sh_u2 (sh_u2 m.I 39 4 ((m.I 39 4) + 1)) 39 4 (((m.I 39 4) + 1) + 1)) m.J)) rfl rfl rfl ?_
      refine sh_gR1 (len := 3) (x := .ref 29) (pc2 := 51) rfl rfl (sh_s39 hT.st) rfl rfl ?_
      refine sh_w (i := (.bipush 14)) (len := 2) (pc2 := 53) (lv2 := [(2, .int (m.I 39 4)), (0, .ref 40), (1, .int x1)]) (st2 := [.int 14, .ref 29]) (h2 := (sh_rep m.T (sh_u2 (sh_u2 m.I 39 4 ((m.I 39 4) + 1)) 39 4 (((m.I 39 4) + 1) + 1)) m.J)) rfl rfl rfl ?_
      refine sh_w (i := (.iload_n 2)) (len := 1) (pc2 := 54) (lv2 := [(2, .int (m.I 39 4)), (0, .ref 40), (1, .int x1)]) (st2 := [.int (m.I 39 4), .int 14, .ref 29]) (h2 := (sh_rep m.T (sh_u2 (sh_u2 m.I 39 4 ((m.I 39 4) + 1)) 39 4 (((m.I 39 4) + 1) + 1)) m.J)) rfl rfl rfl ?_
      refine sh_w (i := (.iconst 0)) (len := 1) (pc2 := 55) (lv2 := [(2, .int (m.I 39 4)), (0, .ref 40), (1, .int x1)]) (st2 := [.int 0, .int (m.I 39 4), .int 14, .ref 29]) (h2 := (sh_rep m.T (sh_u2 (sh_u2 m.I 39 4 ((m.I 39 4) + 1)) 39 4 (((m.I 39 4) + 1) + 1)) m.J)) rfl rfl rfl ?_
      exact kk
    obtain ⟨r2, m12, e2, e⟩ := sh_bn_e e
    refine sh_Lk_cV (r := (some (.int r2))) (st2 := [.int r2]) (pc2 := 58) (k2 := 56) (a := 28) (as := [.ref 29, .int 14, .int (m.I 39 4), .int 0]) (rest := []) rfl rfl rfl (fun hT => (sh_s28 hT.st)) rfl rfl ⟨Nat.le_of_ble_eq_true rfl, Nat.le_of_ble_eq_true rfl⟩ (sl_56 e2 ⟨rfl, rfl⟩) rfl rfl (show 8 + 1 ≤ d + 1 + 11 by omega) (show 8 + (4 + 11) + (200) ≤ 40 * (d + 1) + 263 by omega) ?_
    refine sh_Lk_lift (T := m12.T) (I := m12.I) (J := m12.J) (s := m12.s) (pc2 := 67) (lv2 := [(3, .int r2), (2, .int (m.I 39 4)), (0, .ref 40), (1, .int x1)]) (st2 := [.int x1, .int (m.I 39 4), .int 15, .ref 29]) (I2 := m12.I) (J2 := m12.J) (fun hT v kk => ?_) ?_
    · refine sh_w (i := (.istore_n 3)) (len := 1) (pc2 := 59) (lv2 := [(3, .int r2), (2, .int (m.I 39 4)), (0, .ref 40), (1, .int x1)]) (st2 := []) (h2 := (sh_rep m12.T m12.I m12.J)) rfl rfl rfl ?_
      refine sh_w (i := (.aload_n 0)) (len := 1) (pc2 := 60) (lv2 := [(3, .int r2), (2, .int (m.I 39 4)), (0, .ref 40), (1, .int x1)]) (st2 := [.ref 40]) (h2 := (sh_rep m12.T m12.I m12.J)) rfl rfl rfl ?_
      refine sh_gR1 (len := 3) (x := .ref 29) (pc2 := 63) rfl rfl (sh_s39 hT.st) rfl rfl ?_
      refine sh_w (i := (.bipush 15)) (len := 2) (pc2 := 65) (lv2 := [(3, .int r2), (2, .int (m.I 39 4)), (0, .ref 40), (1, .int x1)]) (st2 := [.int 15, .ref 29]) (h2 := (sh_rep m12.T m12.I m12.J)) rfl rfl rfl ?_
      refine sh_w (i := (.iload_n 2)) (len := 1) (pc2 := 66) (lv2 := [(3, .int r2), (2, .int (m.I 39 4)), (0, .ref 40), (1, .int x1)]) (st2 := [.int (m.I 39 4), .int 15, .ref 29]) (h2 := (sh_rep m12.T m12.I m12.J)) rfl rfl rfl ?_
      refine sh_w (i := (.iload_n 1)) (len := 1) (pc2 := 67) (lv2 := [(3, .int r2), (2, .int (m.I 39 4)), (0, .ref 40), (1, .int x1)]) (st2 := [.int x1, .int (m.I 39 4), .int 15, .ref 29]) (h2 := (sh_rep m12.T m12.I m12.J)) rfl rfl rfl ?_
      exact kk
    obtain ⟨r3, m13, e3, e⟩ := sh_bn_e e
    refine sh_Lk_cV (r := (some (.int r3))) (st2 := [.int r3]) (pc2 := 70) (k2 := 56) (a := 28) (as := [.ref 29, .int 15, .int (m.I 39 4), .int x1]) (rest := []) rfl rfl rfl (fun hT => (sh_s28 hT.st)) rfl rfl ⟨Nat.le_of_ble_eq_true rfl, Nat.le_of_ble_eq_true rfl⟩ (sl_56 e3 ⟨rfl, rfl⟩) rfl rfl (show 8 + 1 ≤ d + 1 + 11 by omega) (show 8 + (4 + 11) + (200) ≤ 40 * (d + 1) + 263 by omega) ?_
    refine sh_Lk_lift (T := m13.T) (I := m13.I) (J := m13.J) (s := m13.s) (pc2 := 75) (lv2 := [(4, .int 0), (3, .int r2), (2, .int (m.I 39 4)), (0, .ref 40), (1, .int x1)]) (st2 := [.ref 40]) (I2 := m13.I) (J2 := m13.J) (fun hT v kk => ?_) ?_
    · refine sh_w (i := .pop) (len := 1) (pc2 := 71) (lv2 := [(3, .int r2), (2, .int (m.I 39 4)), (0, .ref 40), (1, .int x1)]) (st2 := []) (h2 := (sh_rep m13.T m13.I m13.J)) rfl rfl rfl ?_
      refine sh_w (i := (.iconst 0)) (len := 1) (pc2 := 72) (lv2 := [(3, .int r2), (2, .int (m.I 39 4)), (0, .ref 40), (1, .int x1)]) (st2 := [.int 0]) (h2 := (sh_rep m13.T m13.I m13.J)) rfl rfl rfl ?_
      refine sh_w (i := (.istore 4)) (len := 2) (pc2 := 74) (lv2 := [(4, .int 0), (3, .int r2), (2, .int (m.I 39 4)), (0, .ref 40), (1, .int x1)]) (st2 := []) (h2 := (sh_rep m13.T m13.I m13.J)) rfl rfl rfl ?_
      refine sh_w (i := (.aload_n 0)) (len := 1) (pc2 := 75) (lv2 := [(4, .int 0), (3, .int r2), (2, .int (m.I 39 4)), (0, .ref 40), (1, .int x1)]) (st2 := [.ref 40]) (h2 := (sh_rep m13.T m13.I m13.J)) rfl rfl rfl ?_
      exact kk
    obtain ⟨r4, e4, e⟩ := sh_bc_e e
    refine sh_Lk_cV (r := (some (.int r4))) (st2 := [.int r4]) (pc2 := 78) (k2 := 45) (a := 39) (as := [.ref 40]) (rest := []) rfl rfl rfl (fun hT => (sh_s39 hT.st)) rfl rfl ⟨Nat.le_of_ble_eq_true rfl, Nat.le_of_ble_eq_true rfl⟩ (sl_45 e4 ⟨rfl, rfl⟩) rfl rfl (show 9 + 1 ≤ d + 1 + 11 by omega) (show 8 + (1 + 11) + (221) ≤ 40 * (d + 1) + 263 by omega) ?_
    refine sh_Lk_lift (T := m13.T) (I := m13.I) (J := m13.J) (s := m13.s) (pc2 := 80) (lv2 := [(4, .int 0), (3, .int r2), (2, .int (m.I 39 4)), (0, .ref 40), (1, .int x1)]) (st2 := [.int 41, .int r4]) (I2 := m13.I) (J2 := m13.J) (fun hT v kk => ?_) ?_
    · refine sh_w (i := (.bipush 41)) (len := 2) (pc2 := 80) (lv2 := [(4, .int 0), (3, .int r2), (2, .int (m.I 39 4)), (0, .ref 40), (1, .int x1)]) (st2 := [.int 41, .int r4]) (h2 := (sh_rep m13.T m13.I m13.J)) rfl rfl rfl ?_
      exact kk
    rcases sh_ite e with ⟨c, e⟩ | ⟨c, e⟩
    · refine sh_Lk_lift (T := m13.T) (I := m13.I) (J := m13.J) (s := m13.s) (pc2 := 88) (lv2 := [(4, .int 0), (3, .int r2), (2, .int (m.I 39 4)), (0, .ref 40), (1, .int x1)]) (st2 := [.int 0]) (I2 := m13.I) (J2 := m13.J) (fun hT v kk => ?_) ?_
      · refine sh_jc (c := .eq) (off := (7)) (pc2 := 87) true rfl (sh_Beqt c) rfl ?_
        refine sh_w (i := (.iconst 0)) (len := 1) (pc2 := 88) (lv2 := [(4, .int 0), (3, .int r2), (2, .int (m.I 39 4)), (0, .ref 40), (1, .int x1)]) (st2 := [.int 0]) (h2 := (sh_rep m13.T m13.I m13.J)) rfl rfl rfl ?_
        exact kk
      exact sh_Lk_sub (sh_sub_c rfl (sh_sub_c rfl (sh_sub_c rfl (sh_sub_c rfl (sh_sub_c rfl (sh_sub_n)))))) (sl_62_88 hQ e tg)
    · refine sh_Lk_lift (T := m13.T) (I := m13.I) (J := m13.J) (s := m13.s) (pc2 := 88) (lv2 := [(4, .int 0), (3, .int r2), (2, .int (m.I 39 4)), (0, .ref 40), (1, .int x1)]) (st2 := [.int 1]) (I2 := m13.I) (J2 := m13.J) (fun hT v kk => ?_) ?_
      · refine sh_jc (c := .eq) (off := (7)) (pc2 := 83) false rfl (sh_Beqf c) rfl ?_
        refine sh_w (i := (.iconst 1)) (len := 1) (pc2 := 84) (lv2 := [(4, .int 0), (3, .int r2), (2, .int (m.I 39 4)), (0, .ref 40), (1, .int x1)]) (st2 := [.int 1]) (h2 := (sh_rep m13.T m13.I m13.J)) rfl rfl rfl ?_
        refine sh_w (i := (.goto 4)) (len := 3) (pc2 := 88) (lv2 := [(4, .int 0), (3, .int r2), (2, .int (m.I 39 4)), (0, .ref 40), (1, .int x1)]) (st2 := [.int 1]) (h2 := (sh_rep m13.T m13.I m13.J)) rfl rfl rfl ?_
        exact kk
      exact sh_Lk_sub (sh_sub_c rfl (sh_sub_c rfl (sh_sub_c rfl (sh_sub_c rfl (sh_sub_c rfl (sh_sub_n)))))) (sl_62_88 hQ e tg)
  · refine sh_Lk_lift (T := m.T) (I := sh_u2 m.I 39 4 ((m.I 39 4) + 1)) (J := m.J) (s := m.s) (pc2 := 32) (lv2 := [(2, .int (m.I 39 4)), (0, .ref 40), (1, .int x1)]) (st2 := [.int 0, .int (m.I 39 4), .int 21, .ref 29]) (I2 := sh_u2 m.I 39 4 ((m.I 39 4) + 1)) (J2 := m.J) (fun hT v kk => ?_) ?_
    · refine sh_jc (c := .eq) (off := (16)) (pc2 := 24) false rfl (sh_Beqf c) rfl ?_
      refine sh_w (i := (.aload_n 0)) (len := 1) (pc2 := 25) (lv2 := [(2, .int (m.I 39 4)), (0, .ref 40), (1, .int x1)]) (st2 := [.ref 40]) (h2 := (sh_rep m.T (sh_u2 m.I 39 4 ((m.I 39 4) + 1)) m.J)) rfl rfl rfl ?_
      refine sh_gR1 (len := 3) (x := .ref 29) (pc2 := 28) rfl rfl (sh_s39 hT.st) rfl rfl ?_
      refine sh_w (i := (.bipush 21)) (len := 2) (pc2 := 30) (lv2 := [(2, .int (m.I 39 4)), (0, .ref 40), (1, .int x1)]) (st2 := [.int 21, .ref 29]) (h2 := (sh_rep m.T (sh_u2 m.I 39 4 ((m.I 39 4) + 1)) m.J)) rfl rfl rfl ?_
      refine sh_w (i := (.iload_n 2)) (len := 1) (pc2 := 31) (lv2 := [(2, .int (m.I 39 4)), (0, .ref 40), (1, .int x1)]) (st2 := [.int (m.I 39 4), .int 21, .ref 29]) (h2 := (sh_rep m.T (sh_u2 m.I 39 4 ((m.I 39 4) + 1)) m.J)) rfl rfl rfl ?_
      refine sh_w (i := (.iconst 0)) (len := 1) (pc2 := 32) (lv2 := [(2, .int (m.I 39 4)), (0, .ref 40), (1, .int x1)]) (st2 := [.int 0, .int (m.I 39 4), .int 21, .ref 29]) (h2 := (sh_rep m.T (sh_u2 m.I 39 4 ((m.I 39 4) + 1)) m.J)) rfl rfl rfl ?_
      exact kk
    obtain ⟨r5, m15, e5, e⟩ := sh_bn_e e
    refine sh_Lk_cV (r := (some (.int r5))) (st2 := [.int r5]) (pc2 := 35) (k2 := 56) (a := 28) (as := [.ref 29, .int 21, .int (m.I 39 4), .int 0]) (rest := []) rfl rfl rfl (fun hT => (sh_s28 hT.st)) rfl rfl ⟨Nat.le_of_ble_eq_true rfl, Nat.le_of_ble_eq_true rfl⟩ (sl_56 e5 ⟨rfl, rfl⟩) rfl rfl (show 8 + 1 ≤ d + 1 + 11 by omega) (show 8 + (4 + 11) + (200) ≤ 40 * (d + 1) + 263 by omega) ?_
    refine sh_Lk_lift (T := m15.T) (I := m15.I) (J := m15.J) (s := m15.s) (pc2 := 36) (lv2 := [(2, .int (m.I 39 4)), (0, .ref 40), (1, .int x1)]) (st2 := []) (I2 := m15.I) (J2 := m15.J) (fun hT v kk => ?_) ?_
    · refine sh_w (i := .pop) (len := 1) (pc2 := 36) (lv2 := [(2, .int (m.I 39 4)), (0, .ref 40), (1, .int x1)]) (st2 := []) (h2 := (sh_rep m15.T m15.I m15.J)) rfl rfl rfl ?_
      exact kk
    obtain rfl := Option.some.inj e
    obtain ⟨rfl, rfl⟩ := tg
    exact sh_Lk_ret (i := .return_) rfl rfl rfl (by omega) (by omega)
