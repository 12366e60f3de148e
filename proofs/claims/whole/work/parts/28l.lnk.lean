/-! LINKS, printed by gen27.py -/
theorem sl_327 {x1 : Int32} {m m2 : sh_X} {o : Outcome} {z : (Bool × sh_X)} (e : sf_327 x1 m = some z) (tg : (sh_tZ o m2) z) : sh_Lk 327 0 [(0, .ref 67), (1, .int x1)] [] m o m2 9 222 := by
  unfold sf_327 at e
  refine sh_Lk_lift (T := m.T) (I := m.I) (J := m.J) (s := m.s) (pc2 := 5) (lv2 := [(0, .ref 67), (1, .int x1)]) (st2 := [.int (m.I 66 91), .ref 67]) (I2 := m.I) (J2 := m.J) (fun hT v kk => ?_) ?_
  · refine sh_w (i := (.aload_n 0)) (len := 1) (pc2 := 1) (lv2 := [(0, .ref 67), (1, .int x1)]) (st2 := [.ref 67]) (h2 := (sh_rep m.T m.I m.J)) rfl rfl rfl ?_
    refine sh_w (i := (.aload_n 0)) (len := 1) (pc2 := 2) (lv2 := [(0, .ref 67), (1, .int x1)]) (st2 := [.ref 67, .ref 67]) (h2 := (sh_rep m.T m.I m.J)) rfl rfl rfl ?_
    refine sh_gI1 (len := 3) (x := m.I 66 91) (pc2 := 5) rfl rfl (sh_s66 hT.st) rfl rfl rfl ?_
    exact kk
  obtain ⟨r1, e1, e⟩ := sh_bc_e e
  refine sh_Lk_cV (r := (some (.int r1))) (st2 := [.int r1]) (pc2 := 8) (k2 := 249) (a := 66) (as := [.ref 67, .int (m.I 66 91)]) (rest := []) rfl rfl rfl (fun hT => (sh_s66 hT.st)) rfl rfl ⟨Nat.le_of_ble_eq_true rfl, Nat.le_of_ble_eq_true rfl⟩ (sl_249 e1 ⟨rfl, rfl⟩) rfl rfl (Nat.le_of_ble_eq_true rfl) (Nat.le_of_ble_eq_true rfl) ?_
  refine sh_Lk_lift (T := m.T) (I := m.I) (J := m.J) (s := m.s) (pc2 := 9) (lv2 := [(0, .ref 67), (1, .int x1)]) (st2 := [.int x1, .int r1]) (I2 := m.I) (J2 := m.J) (fun hT v kk => ?_) ?_
  · refine sh_w (i := (.iload_n 1)) (len := 1) (pc2 := 9) (lv2 := [(0, .ref 67), (1, .int x1)]) (st2 := [.int x1, .int r1]) (h2 := (sh_rep m.T m.I m.J)) rfl rfl rfl ?_
    exact kk
  rcases sh_ite e with ⟨c, e⟩ | ⟨c, e⟩
  · refine sh_Lk_lift (T := m.T) (I := m.I) (J := m.J) (s := m.s) (pc2 := 33) (lv2 := [(0, .ref 67), (1, .int x1)]) (st2 := [.int 1]) (I2 := sh_u2 m.I 66 91 ((m.I 66 91) + 1)) (J2 := m.J) (fun hT v kk => ?_) ?_
    · refine sh_jc (c := .eq) (off := (13)) (pc2 := 22) true rfl (sh_Beqt c) rfl ?_
      refine sh_w (i := (.aload_n 0)) (len := 1) (pc2 := 23) (lv2 := [(0, .ref 67), (1, .int x1)]) (st2 := [.ref 67]) (h2 := (sh_rep m.T m.I m.J)) rfl rfl rfl ?_
      refine sh_w (i := .dup) (len := 1) (pc2 := 24) (lv2 := [(0, .ref 67), (1, .int x1)]) (st2 := [.ref 67, .ref 67]) (h2 := (sh_rep m.T m.I m.J)) rfl rfl rfl ?_
      refine sh_gI1 (len := 3) (x := m.I 66 91) (pc2 := 27) rfl rfl (sh_s66 hT.st) rfl rfl rfl ?_
      refine sh_w (i := (.iconst 1)) (len := 1) (pc2 := 28) (lv2 := [(0, .ref 67), (1, .int x1)]) (st2 := [.int 1, .int (m.I 66 91), .ref 67]) (h2 := (sh_rep m.T m.I m.J)) rfl rfl rfl ?_
      refine sh_w (i := .iadd) (len := 1) (pc2 := 29) (lv2 := [(0, .ref 67), (1, .int x1)]) (st2 := [.int ((m.I 66 91) + 1), .ref 67]) (h2 := (sh_rep m.T m.I m.J)) rfl rfl rfl ?_
      refine sh_pI1 (x := (m.I 66 91) + 1) (pc2 := 32) rfl rfl (sh_s66 hT.st) rfl rfl rfl rfl ?_
      refine sh_w (i := (.iconst 1)) (len := 1) (pc2 := 33) (lv2 := [(0, .ref 67), (1, .int x1)]) (st2 := [.int 1]) (h2 := (sh_rep m.T (sh_u2 m.I 66 91 ((m.I 66 91) + 1)) m.J)) rfl rfl rfl ?_
      exact kk
    obtain rfl := Option.some.inj e
    obtain ⟨rfl, rfl⟩ := tg
    exact sh_Lk_ret (i := .ireturn) rfl rfl rfl (Nat.le_of_ble_eq_true rfl) (Nat.le_of_ble_eq_true rfl)
  · refine sh_Lk_lift (T := m.T) (I := m.I) (J := m.J) (s := m.s) (pc2 := 18) (lv2 := [(0, .ref 67), (1, .int x1)]) (st2 := [.int (m.I 66 91), .int 2, .ref 67]) (I2 := m.I) (J2 := m.J) (fun hT v kk => ?_) ?_
    · refine sh_jc (c := .eq) (off := (13)) (pc2 := 12) false rfl (sh_Beqf c) rfl ?_
      refine sh_w (i := (.aload_n 0)) (len := 1) (pc2 := 13) (lv2 := [(0, .ref 67), (1, .int x1)]) (st2 := [.ref 67]) (h2 := (sh_rep m.T m.I m.J)) rfl rfl rfl ?_
      refine sh_w (i := (.iconst 2)) (len := 1) (pc2 := 14) (lv2 := [(0, .ref 67), (1, .int x1)]) (st2 := [.int 2, .ref 67]) (h2 := (sh_rep m.T m.I m.J)) rfl rfl rfl ?_
      refine sh_w (i := (.aload_n 0)) (len := 1) (pc2 := 15) (lv2 := [(0, .ref 67), (1, .int x1)]) (st2 := [.ref 67, .int 2, .ref 67]) (h2 := (sh_rep m.T m.I m.J)) rfl rfl rfl ?_
      refine sh_gI1 (len := 3) (x := m.I 66 91) (pc2 := 18) rfl rfl (sh_s66 hT.st) rfl rfl rfl ?_
      exact kk
    obtain ⟨r2, m12, e2, e⟩ := sh_bn_e e
    refine sh_Lk_cV (r := (some (.int (sh_b2 r2)))) (st2 := [.int (sh_b2 r2)]) (pc2 := 21) (k2 := 252) (a := 66) (as := [.ref 67, .int 2, .int (m.I 66 91)]) (rest := []) rfl rfl rfl (fun hT => (sh_s66 hT.st)) rfl rfl ⟨Nat.le_of_ble_eq_true rfl, Nat.le_of_ble_eq_true rfl⟩ (sl_252 e2 ⟨rfl, rfl⟩) rfl rfl (Nat.le_of_ble_eq_true rfl) (Nat.le_of_ble_eq_true rfl) ?_
    obtain rfl := Option.some.inj e
    obtain ⟨rfl, rfl⟩ := tg
    exact sh_Lk_ret (i := .ireturn) rfl rfl (sh_rb rfl _) (Nat.le_of_ble_eq_true rfl) (Nat.le_of_ble_eq_true rfl)
theorem sl_325 {x1 : Int32} {x2 : Int32} {x3 : Int32} {m m2 : sh_X} {o : Outcome} {z : (Bool × sh_X)} (e : sf_325 x1 x2 x3 m = some z) (tg : (sh_tZ o m2) z) : sh_Lk 325 0 [(0, .ref 67), (1, .int x1), (2, .int x2), (3, .int x3)] [] m o m2 10 245 := by
  unfold sf_325 at e
  refine sh_Lk_lift (T := m.T) (I := m.I) (J := m.J) (s := m.s) (pc2 := 3) (lv2 := [(0, .ref 67), (1, .int x1), (2, .int x2), (3, .int x3)]) (st2 := [.int x2, .int x1, .ref 67]) (I2 := m.I) (J2 := m.J) (fun hT v kk => ?_) ?_
  · refine sh_w (i := (.aload_n 0)) (len := 1) (pc2 := 1) (lv2 := [(0, .ref 67), (1, .int x1), (2, .int x2), (3, .int x3)]) (st2 := [.ref 67]) (h2 := (sh_rep m.T m.I m.J)) rfl rfl rfl ?_
    refine sh_w (i := (.iload_n 1)) (len := 1) (pc2 := 2) (lv2 := [(0, .ref 67), (1, .int x1), (2, .int x2), (3, .int x3)]) (st2 := [.int x1, .ref 67]) (h2 := (sh_rep m.T m.I m.J)) rfl rfl rfl ?_
    refine sh_w (i := (.iload_n 2)) (len := 1) (pc2 := 3) (lv2 := [(0, .ref 67), (1, .int x1), (2, .int x2), (3, .int x3)]) (st2 := [.int x2, .int x1, .ref 67]) (h2 := (sh_rep m.T m.I m.J)) rfl rfl rfl ?_
    exact kk
  obtain ⟨r1, m11, e1, e⟩ := sh_bn_e e
  refine sh_Lk_cV (r := (some (.int (sh_b2 r1)))) (st2 := [.int (sh_b2 r1)]) (pc2 := 6) (k2 := 326) (a := 66) (as := [.ref 67, .int x1, .int x2]) (rest := []) rfl rfl rfl (fun hT => (sh_s66 hT.st)) rfl rfl ⟨Nat.le_of_ble_eq_true rfl, Nat.le_of_ble_eq_true rfl⟩ (sl_326 e1 ⟨rfl, rfl⟩) rfl rfl (Nat.le_of_ble_eq_true rfl) (Nat.le_of_ble_eq_true rfl) ?_
  rcases sh_ite e with ⟨c, e⟩ | ⟨c, e⟩
  · refine sh_Lk_lift (T := m11.T) (I := m11.I) (J := m11.J) (s := m11.s) (pc2 := 11) (lv2 := [(0, .ref 67), (1, .int x1), (2, .int x2), (3, .int x3)]) (st2 := [.int x3, .ref 67]) (I2 := m11.I) (J2 := m11.J) (fun hT v kk => ?_) ?_
    · refine sh_j0 (c := .eq) (off := (15)) (pc2 := 9) false rfl (sh_Zeqf c) rfl ?_
      refine sh_w (i := (.aload_n 0)) (len := 1) (pc2 := 10) (lv2 := [(0, .ref 67), (1, .int x1), (2, .int x2), (3, .int x3)]) (st2 := [.ref 67]) (h2 := (sh_rep m11.T m11.I m11.J)) rfl rfl rfl ?_
      refine sh_w (i := (.iload_n 3)) (len := 1) (pc2 := 11) (lv2 := [(0, .ref 67), (1, .int x1), (2, .int x2), (3, .int x3)]) (st2 := [.int x3, .ref 67]) (h2 := (sh_rep m11.T m11.I m11.J)) rfl rfl rfl ?_
      exact kk
    obtain ⟨r2, m12, e2, e⟩ := sh_bn_e e
    refine sh_Lk_cV (r := (some (.int (sh_b2 r2)))) (st2 := [.int (sh_b2 r2)]) (pc2 := 14) (k2 := 327) (a := 66) (as := [.ref 67, .int x3]) (rest := []) rfl rfl rfl (fun hT => (sh_s66 hT.st)) rfl rfl ⟨Nat.le_of_ble_eq_true rfl, Nat.le_of_ble_eq_true rfl⟩ (sl_327 e2 ⟨rfl, rfl⟩) rfl rfl (Nat.le_of_ble_eq_true rfl) (Nat.le_of_ble_eq_true rfl) ?_
    rcases sh_ite e with ⟨c, e⟩ | ⟨c, e⟩
    · refine sh_Lk_lift (T := m12.T) (I := m12.I) (J := m12.J) (s := m12.s) (pc2 := 22) (lv2 := [(0, .ref 67), (1, .int x1), (2, .int x2), (3, .int x3)]) (st2 := [.int 1]) (I2 := m12.I) (J2 := m12.J) (fun hT v kk => ?_) ?_
      · refine sh_j0 (c := .eq) (off := (7)) (pc2 := 17) false rfl (sh_Zeqf c) rfl ?_
        refine sh_w (i := (.iconst 1)) (len := 1) (pc2 := 18) (lv2 := [(0, .ref 67), (1, .int x1), (2, .int x2), (3, .int x3)]) (st2 := [.int 1]) (h2 := (sh_rep m12.T m12.I m12.J)) rfl rfl rfl ?_
        refine sh_w (i := (.goto 4)) (len := 3) (pc2 := 22) (lv2 := [(0, .ref 67), (1, .int x1), (2, .int x2), (3, .int x3)]) (st2 := [.int 1]) (h2 := (sh_rep m12.T m12.I m12.J)) rfl rfl rfl ?_
        exact kk
      obtain rfl := Option.some.inj e
      obtain ⟨rfl, rfl⟩ := tg
      exact sh_Lk_ret (i := .ireturn) rfl rfl rfl (Nat.le_of_ble_eq_true rfl) (Nat.le_of_ble_eq_true rfl)
    · refine sh_Lk_lift (T := m12.T) (I := m12.I) (J := m12.J) (s := m12.s) (pc2 := 22) (lv2 := [(0, .ref 67), (1, .int x1), (2, .int x2), (3, .int x3)]) (st2 := [.int 0]) (I2 := m12.I) (J2 := m12.J) (fun hT v kk => ?_) ?_
      · refine sh_j0 (c := .eq) (off := (7)) (pc2 := 21) true rfl (sh_Zeqt c) rfl ?_
        refine sh_w (i := (.iconst 0)) (len := 1) (pc2 := 22) (lv2 := [(0, .ref 67), (1, .int x1), (2, .int x2), (3, .int x3)]) (st2 := [.int 0]) (h2 := (sh_rep m12.T m12.I m12.J)) rfl rfl rfl ?_
        exact kk
      obtain rfl := Option.some.inj e
      obtain ⟨rfl, rfl⟩ := tg
      exact sh_Lk_ret (i := .ireturn) rfl rfl rfl (Nat.le_of_ble_eq_true rfl) (Nat.le_of_ble_eq_true rfl)
  · refine sh_Lk_lift (T := m11.T) (I := m11.I) (J := m11.J) (s := m11.s) (pc2 := 22) (lv2 := [(0, .ref 67), (1, .int x1), (2, .int x2), (3, .int x3)]) (st2 := [.int 0]) (I2 := m11.I) (J2 := m11.J) (fun hT v kk => ?_) ?_
    · refine sh_j0 (c := .eq) (off := (15)) (pc2 := 21) true rfl (sh_Zeqt c) rfl ?_
      refine sh_w (i := (.iconst 0)) (len := 1) (pc2 := 22) (lv2 := [(0, .ref 67), (1, .int x1), (2, .int x2), (3, .int x3)]) (st2 := [.int 0]) (h2 := (sh_rep m11.T m11.I m11.J)) rfl rfl rfl ?_
      exact kk
    obtain rfl := Option.some.inj e
    obtain ⟨rfl, rfl⟩ := tg
    exact sh_Lk_ret (i := .ireturn) rfl rfl rfl (Nat.le_of_ble_eq_true rfl) (Nat.le_of_ble_eq_true rfl)
theorem sl_328_2s {x1 : Nat} {x2 : Int32} {m m2 : sh_X} {o : Outcome} {z : ((Int32 × sh_X) ⊕ (Bool × sh_X))} (e : sf_328_2s x1 x2 m = some z) (tg : (sh_el (fun q => sh_Lk 328 2 [(0, .ref 67), (1, .ref (1000001 + x1)), (2, .int q.1)] [] q.2 o m2 30 600) (sh_tZ o m2)) z) : sh_Lk 328 2 [(0, .ref 67), (1, .ref (1000001 + x1)), (2, .int x2)] [] m o m2 30 600 := by
  unfold sf_328_2s at e
  refine sh_Lk_lift (T := m.T) (I := m.I) (J := m.J) (s := m.s) (pc2 := 4) (lv2 := [(0, .ref 67), (1, .ref (1000001 + x1)), (2, .int x2)]) (st2 := [.ref (1000001 + x1), .int x2]) (I2 := m.I) (J2 := m.J) (fun hT v kk => ?_) ?_
  · refine sh_w (i := (.iload_n 2)) (len := 1) (pc2 := 3) (lv2 := [(0, .ref 67), (1, .ref (1000001 + x1)), (2, .int x2)]) (st2 := [.int x2]) (h2 := (sh_rep m.T m.I m.J)) rfl rfl rfl ?_
    refine sh_w (i := (.aload_n 1)) (len := 1) (pc2 := 4) (lv2 := [(0, .ref 67), (1, .ref (1000001 + x1)), (2, .int x2)]) (st2 := [.ref (1000001 + x1), .int x2]) (h2 := (sh_rep m.T m.I m.J)) rfl rfl rfl ?_
    exact kk
  obtain ⟨c, e⟩ := sh_gd e
  refine sh_Lk_tl (j := x1) (pc2 := 7) rfl rfl rfl c (Nat.le_of_ble_eq_true rfl) rfl (Nat.le_of_ble_eq_true rfl) (Nat.le_of_ble_eq_true rfl) ?_
  rcases sh_ite e with ⟨c, e⟩ | ⟨c, e⟩
  · refine sh_Lk_lift (T := m.T) (I := m.I) (J := m.J) (s := m.s) (pc2 := 15) (lv2 := [(0, .ref 67), (1, .ref (1000001 + x1)), (2, .int x2)]) (st2 := [.int (m.I 66 91), .ref 67]) (I2 := m.I) (J2 := m.J) (fun hT v kk => ?_) ?_
    · refine sh_jc (c := .ge) (off := (45)) (pc2 := 10) false rfl (sh_Bgef c) rfl ?_
      refine sh_w (i := (.aload_n 0)) (len := 1) (pc2 := 11) (lv2 := [(0, .ref 67), (1, .ref (1000001 + x1)), (2, .int x2)]) (st2 := [.ref 67]) (h2 := (sh_rep m.T m.I m.J)) rfl rfl rfl ?_
      refine sh_w (i := (.aload_n 0)) (len := 1) (pc2 := 12) (lv2 := [(0, .ref 67), (1, .ref (1000001 + x1)), (2, .int x2)]) (st2 := [.ref 67, .ref 67]) (h2 := (sh_rep m.T m.I m.J)) rfl rfl rfl ?_
      refine sh_gI1 (len := 3) (x := m.I 66 91) (pc2 := 15) rfl rfl (sh_s66 hT.st) rfl rfl rfl ?_
      exact kk
    obtain ⟨r1, e1, e⟩ := sh_bc_e e
    refine sh_Lk_cV (r := (some (.int r1))) (st2 := [.int r1]) (pc2 := 18) (k2 := 249) (a := 66) (as := [.ref 67, .int (m.I 66 91)]) (rest := []) rfl rfl rfl (fun hT => (sh_s66 hT.st)) rfl rfl ⟨Nat.le_of_ble_eq_true rfl, Nat.le_of_ble_eq_true rfl⟩ (sl_249 e1 ⟨rfl, rfl⟩) rfl rfl (Nat.le_of_ble_eq_true rfl) (Nat.le_of_ble_eq_true rfl) ?_
    refine sh_Lk_lift (T := m.T) (I := m.I) (J := m.J) (s := m.s) (pc2 := 20) (lv2 := [(0, .ref 67), (1, .ref (1000001 + x1)), (2, .int x2)]) (st2 := [.int x2, .ref (1000001 + x1), .int r1]) (I2 := m.I) (J2 := m.J) (fun hT v kk => ?_) ?_
    · refine sh_w (i := (.aload_n 1)) (len := 1) (pc2 := 19) (lv2 := [(0, .ref 67), (1, .ref (1000001 + x1)), (2, .int x2)]) (st2 := [.ref (1000001 + x1), .int r1]) (h2 := (sh_rep m.T m.I m.J)) rfl rfl rfl ?_
      refine sh_w (i := (.iload_n 2)) (len := 1) (pc2 := 20) (lv2 := [(0, .ref 67), (1, .ref (1000001 + x1)), (2, .int x2)]) (st2 := [.int x2, .ref (1000001 + x1), .int r1]) (h2 := (sh_rep m.T m.I m.J)) rfl rfl rfl ?_
      exact kk
    obtain ⟨c, e⟩ := sh_gd e
    refine sh_Lk_tc (j := x1) (pc2 := 23) rfl rfl rfl c (Nat.le_of_ble_eq_true rfl) rfl (Nat.le_of_ble_eq_true rfl) (Nat.le_of_ble_eq_true rfl) ?_
    rcases sh_ite e with ⟨c, e⟩ | ⟨c, e⟩
    · refine sh_Lk_lift (T := m.T) (I := m.I) (J := m.J) (s := m.s) (pc2 := 2) (lv2 := [(2, .int (x2 + 1)), (0, .ref 67), (1, .ref (1000001 + x1))]) (st2 := []) (I2 := sh_u2 m.I 66 91 ((m.I 66 91) + 1)) (J2 := m.J) (fun hT v kk => ?_) ?_
      · refine sh_jc (c := .eq) (off := (13)) (pc2 := 36) true rfl (sh_Beqt c) rfl ?_
        refine sh_w (i := (.aload_n 0)) (len := 1) (pc2 := 37) (lv2 := [(0, .ref 67), (1, .ref (1000001 + x1)), (2, .int x2)]) (st2 := [.ref 67]) (h2 := (sh_rep m.T m.I m.J)) rfl rfl rfl ?_
        refine sh_w (i := .dup) (len := 1) (pc2 := 38) (lv2 := [(0, .ref 67), (1, .ref (1000001 + x1)), (2, .int x2)]) (st2 := [.ref 67, .ref 67]) (h2 := (sh_rep m.T m.I m.J)) rfl rfl rfl ?_
        refine sh_gI1 (len := 3) (x := m.I 66 91) (pc2 := 41) rfl rfl (sh_s66 hT.st) rfl rfl rfl ?_
        refine sh_w (i := (.iconst 1)) (len := 1) (pc2 := 42) (lv2 := [(0, .ref 67), (1, .ref (1000001 + x1)), (2, .int x2)]) (st2 := [.int 1, .int (m.I 66 91), .ref 67]) (h2 := (sh_rep m.T m.I m.J)) rfl rfl rfl ?_
        refine sh_w (i := .iadd) (len := 1) (pc2 := 43) (lv2 := [(0, .ref 67), (1, .ref (1000001 + x1)), (2, .int x2)]) (st2 := [.int ((m.I 66 91) + 1), .ref 67]) (h2 := (sh_rep m.T m.I m.J)) rfl rfl rfl ?_
        refine sh_pI1 (x := (m.I 66 91) + 1) (pc2 := 46) rfl rfl (sh_s66 hT.st) rfl rfl rfl rfl ?_
        refine sh_w (i := (.iinc 2 1)) (len := 3) (pc2 := 49) (lv2 := [(2, .int (x2 + 1)), (0, .ref 67), (1, .ref (1000001 + x1))]) (st2 := []) (h2 := (sh_rep m.T (sh_u2 m.I 66 91 ((m.I 66 91) + 1)) m.J)) rfl rfl rfl ?_
        refine sh_w (i := (.goto (-47))) (len := 3) (pc2 := 2) (lv2 := [(2, .int (x2 + 1)), (0, .ref 67), (1, .ref (1000001 + x1))]) (st2 := []) (h2 := (sh_rep m.T (sh_u2 m.I 66 91 ((m.I 66 91) + 1)) m.J)) rfl rfl rfl ?_
        exact kk
      obtain rfl := Option.some.inj e
      exact sh_Lk_sub (sh_sub_c rfl (sh_sub_c rfl (sh_sub_c rfl (sh_sub_n)))) tg
    · refine sh_Lk_lift (T := m.T) (I := m.I) (J := m.J) (s := m.s) (pc2 := 32) (lv2 := [(0, .ref 67), (1, .ref (1000001 + x1)), (2, .int x2)]) (st2 := [.int (m.I 66 91), .int 2, .ref 67]) (I2 := m.I) (J2 := m.J) (fun hT v kk => ?_) ?_
      · refine sh_jc (c := .eq) (off := (13)) (pc2 := 26) false rfl (sh_Beqf c) rfl ?_
        refine sh_w (i := (.aload_n 0)) (len := 1) (pc2 := 27) (lv2 := [(0, .ref 67), (1, .ref (1000001 + x1)), (2, .int x2)]) (st2 := [.ref 67]) (h2 := (sh_rep m.T m.I m.J)) rfl rfl rfl ?_
        refine sh_w (i := (.iconst 2)) (len := 1) (pc2 := 28) (lv2 := [(0, .ref 67), (1, .ref (1000001 + x1)), (2, .int x2)]) (st2 := [.int 2, .ref 67]) (h2 := (sh_rep m.T m.I m.J)) rfl rfl rfl ?_
        refine sh_w (i := (.aload_n 0)) (len := 1) (pc2 := 29) (lv2 := [(0, .ref 67), (1, .ref (1000001 + x1)), (2, .int x2)]) (st2 := [.ref 67, .int 2, .ref 67]) (h2 := (sh_rep m.T m.I m.J)) rfl rfl rfl ?_
        refine sh_gI1 (len := 3) (x := m.I 66 91) (pc2 := 32) rfl rfl (sh_s66 hT.st) rfl rfl rfl ?_
        exact kk
      obtain ⟨r2, m12, e2, e⟩ := sh_bn_e e
      refine sh_Lk_cV (r := (some (.int (sh_b2 r2)))) (st2 := [.int (sh_b2 r2)]) (pc2 := 35) (k2 := 252) (a := 66) (as := [.ref 67, .int 2, .int (m.I 66 91)]) (rest := []) rfl rfl rfl (fun hT => (sh_s66 hT.st)) rfl rfl ⟨Nat.le_of_ble_eq_true rfl, Nat.le_of_ble_eq_true rfl⟩ (sl_252 e2 ⟨rfl, rfl⟩) rfl rfl (Nat.le_of_ble_eq_true rfl) (Nat.le_of_ble_eq_true rfl) ?_
      obtain rfl := Option.some.inj e
      obtain ⟨rfl, rfl⟩ := tg
      exact sh_Lk_ret (i := .ireturn) rfl rfl (sh_rb rfl _) (Nat.le_of_ble_eq_true rfl) (Nat.le_of_ble_eq_true rfl)
  · refine sh_Lk_lift (T := m.T) (I := m.I) (J := m.J) (s := m.s) (pc2 := 53) (lv2 := [(0, .ref 67), (1, .ref (1000001 + x1)), (2, .int x2)]) (st2 := [.int 1]) (I2 := m.I) (J2 := m.J) (fun hT v kk => ?_) ?_
    · refine sh_jc (c := .ge) (off := (45)) (pc2 := 52) true rfl (sh_Bget c) rfl ?_
      refine sh_w (i := (.iconst 1)) (len := 1) (pc2 := 53) (lv2 := [(0, .ref 67), (1, .ref (1000001 + x1)), (2, .int x2)]) (st2 := [.int 1]) (h2 := (sh_rep m.T m.I m.J)) rfl rfl rfl ?_
      exact kk
    obtain rfl := Option.some.inj e
    obtain ⟨rfl, rfl⟩ := tg
    exact sh_Lk_ret (i := .ireturn) rfl rfl rfl (Nat.le_of_ble_eq_true rfl) (Nat.le_of_ble_eq_true rfl)
theorem sl_328_2 {x1 : Nat} {x2 : Int32} {m m2 : sh_X} {o : Outcome} {z : (Bool × sh_X)} (e : sf_328_2 x1 x2 m = some z) (tg : (sh_tZ o m2) z) : sh_Lk 328 2 [(0, .ref 67), (1, .ref (1000001 + x1)), (2, .int x2)] [] m o m2 30 600 := by
  unfold sf_328_2 at e
  exact sh_while_lk (P := fun q => sh_Lk 328 2 [(0, .ref 67), (1, .ref (1000001 + x1)), (2, .int q.1)] [] q.2 o m2 30 600) (Q := (sh_tZ o m2)) (fun q z e tg => sl_328_2s (x1 := x1) (x2 := q.1) (m := q.2) e tg) (s := (x2, m)) e tg
theorem sl_328 {x1 : Nat} {m m2 : sh_X} {o : Outcome} {z : (Bool × sh_X)} (e : sf_328 x1 m = some z) (tg : (sh_tZ o m2) z) : sh_Lk 328 0 [(0, .ref 67), (1, .ref (1000001 + x1))] [] m o m2 30 600 := by
  unfold sf_328 at e
  refine sh_Lk_lift (T := m.T) (I := m.I) (J := m.J) (s := m.s) (pc2 := 2) (lv2 := [(2, .int 0), (0, .ref 67), (1, .ref (1000001 + x1))]) (st2 := []) (I2 := m.I) (J2 := m.J) (fun hT v kk => ?_) ?_
  · refine sh_w (i := (.iconst 0)) (len := 1) (pc2 := 1) (lv2 := [(0, .ref 67), (1, .ref (1000001 + x1))]) (st2 := [.int 0]) (h2 := (sh_rep m.T m.I m.J)) rfl rfl rfl ?_
    refine sh_w (i := (.istore_n 2)) (len := 1) (pc2 := 2) (lv2 := [(2, .int 0), (0, .ref 67), (1, .ref (1000001 + x1))]) (st2 := []) (h2 := (sh_rep m.T m.I m.J)) rfl rfl rfl ?_
    exact kk
  exact sh_Lk_sub (sh_sub_c rfl (sh_sub_c rfl (sh_sub_c rfl (sh_sub_n)))) (sl_328_2 e tg)
theorem sl_330 {m m2 : sh_X} {o : Outcome} {z : (Bool × sh_X)} (e : sf_330 m = some z) (tg : (sh_tZ o m2) z) : sh_Lk 330 0 [(0, .ref 67)] [] m o m2 10 245 := by
  unfold sf_330 at e
  refine sh_Lk_lift (T := m.T) (I := m.I) (J := m.J) (s := m.s) (pc2 := 8) (lv2 := [(0, .ref 67)]) (st2 := [.int ((m.I 66 86) - 1), .int 0, .ref 67]) (I2 := m.I) (J2 := m.J) (fun hT v kk => ?_) ?_
  · refine sh_w (i := (.aload_n 0)) (len := 1) (pc2 := 1) (lv2 := [(0, .ref 67)]) (st2 := [.ref 67]) (h2 := (sh_rep m.T m.I m.J)) rfl rfl rfl ?_
    refine sh_w (i := (.iconst 0)) (len := 1) (pc2 := 2) (lv2 := [(0, .ref 67)]) (st2 := [.int 0, .ref 67]) (h2 := (sh_rep m.T m.I m.J)) rfl rfl rfl ?_
    refine sh_w (i := (.aload_n 0)) (len := 1) (pc2 := 3) (lv2 := [(0, .ref 67)]) (st2 := [.ref 67, .int 0, .ref 67]) (h2 := (sh_rep m.T m.I m.J)) rfl rfl rfl ?_
    refine sh_gI1 (len := 3) (x := m.I 66 86) (pc2 := 6) rfl rfl (sh_s66 hT.st) rfl rfl rfl ?_
    refine sh_w (i := (.iconst 1)) (len := 1) (pc2 := 7) (lv2 := [(0, .ref 67)]) (st2 := [.int 1, .int (m.I 66 86), .int 0, .ref 67]) (h2 := (sh_rep m.T m.I m.J)) rfl rfl rfl ?_
    refine sh_w (i := .isub) (len := 1) (pc2 := 8) (lv2 := [(0, .ref 67)]) (st2 := [.int ((m.I 66 86) - 1), .int 0, .ref 67]) (h2 := (sh_rep m.T m.I m.J)) rfl rfl rfl ?_
    exact kk
  obtain ⟨r1, m11, e1, e⟩ := sh_bn_e e
  refine sh_Lk_cV (r := (some (.int (sh_b2 r1)))) (st2 := [.int (sh_b2 r1)]) (pc2 := 11) (k2 := 326) (a := 66) (as := [.ref 67, .int 0, .int ((m.I 66 86) - 1)]) (rest := []) rfl rfl rfl (fun hT => (sh_s66 hT.st)) rfl rfl ⟨Nat.le_of_ble_eq_true rfl, Nat.le_of_ble_eq_true rfl⟩ (sl_326 e1 ⟨rfl, rfl⟩) rfl rfl (Nat.le_of_ble_eq_true rfl) (Nat.le_of_ble_eq_true rfl) ?_
  rcases sh_ite e with ⟨c, e⟩ | ⟨c, e⟩
  · refine sh_Lk_lift (T := m11.T) (I := m11.I) (J := m11.J) (s := m11.s) (pc2 := 24) (lv2 := [(0, .ref 67)]) (st2 := [.int (m11.I 66 92), .ref 124]) (I2 := m11.I) (J2 := m11.J) (fun hT v kk => ?_) ?_
    · refine sh_j0 (c := .ne) (off := (5)) (pc2 := 16) true rfl (sh_Znet c) rfl ?_
      refine sh_w (i := (.aload_n 0)) (len := 1) (pc2 := 17) (lv2 := [(0, .ref 67)]) (st2 := [.ref 67]) (h2 := (sh_rep m11.T m11.I m11.J)) rfl rfl rfl ?_
      refine sh_gR1 (len := 3) (x := .ref 124) (pc2 := 20) rfl rfl (sh_s66 hT.st) rfl rfl ?_
      refine sh_w (i := (.aload_n 0)) (len := 1) (pc2 := 21) (lv2 := [(0, .ref 67)]) (st2 := [.ref 67, .ref 124]) (h2 := (sh_rep m11.T m11.I m11.J)) rfl rfl rfl ?_
      refine sh_gI1 (len := 3) (x := m11.I 66 92) (pc2 := 24) rfl rfl (sh_s66 hT.st) rfl rfl rfl ?_
      exact kk
    obtain ⟨c, e⟩ := sh_gd e
    refine sh_Lk_lift (T := m11.T) (I := m11.I) (J := m11.J) (s := m11.s) (pc2 := 25) (lv2 := [(0, .ref 67)]) (st2 := [.int (m11.I 123 (Int32.toNatClampNeg (m11.I 66 92)))]) (I2 := m11.I) (J2 := m11.J) (fun hT v kk => ?_) ?_
    · refine sh_ba1 (x := m11.I 123 (Int32.toNatClampNeg (m11.I 66 92))) (pc2 := 25) rfl (sh_s123 hT.st) (Or.inr rfl) (sh_okb1 c) (sh_okb2 c) rfl rfl ?_
      exact kk
    rcases sh_ite e with ⟨c, e⟩ | ⟨c, e⟩
    · refine sh_Lk_lift (T := m11.T) (I := m11.I) (J := m11.J) (s := m11.s) (pc2 := 34) (lv2 := [(0, .ref 67)]) (st2 := [.int (m11.I 66 93), .int 2, .ref 67]) (I2 := m11.I) (J2 := m11.J) (fun hT v kk => ?_) ?_
      · refine sh_j0 (c := .ne) (off := (13)) (pc2 := 28) false rfl (sh_Bnef c) rfl ?_
        refine sh_w (i := (.aload_n 0)) (len := 1) (pc2 := 29) (lv2 := [(0, .ref 67)]) (st2 := [.ref 67]) (h2 := (sh_rep m11.T m11.I m11.J)) rfl rfl rfl ?_
        refine sh_w (i := (.iconst 2)) (len := 1) (pc2 := 30) (lv2 := [(0, .ref 67)]) (st2 := [.int 2, .ref 67]) (h2 := (sh_rep m11.T m11.I m11.J)) rfl rfl rfl ?_
        refine sh_w (i := (.aload_n 0)) (len := 1) (pc2 := 31) (lv2 := [(0, .ref 67)]) (st2 := [.ref 67, .int 2, .ref 67]) (h2 := (sh_rep m11.T m11.I m11.J)) rfl rfl rfl ?_
        refine sh_gI1 (len := 3) (x := m11.I 66 93) (pc2 := 34) rfl rfl (sh_s66 hT.st) rfl rfl rfl ?_
        exact kk
      obtain ⟨r2, m12, e2, e⟩ := sh_bn_e e
      refine sh_Lk_cV (r := (some (.int (sh_b2 r2)))) (st2 := [.int (sh_b2 r2)]) (pc2 := 37) (k2 := 252) (a := 66) (as := [.ref 67, .int 2, .int (m11.I 66 93)]) (rest := []) rfl rfl rfl (fun hT => (sh_s66 hT.st)) rfl rfl ⟨Nat.le_of_ble_eq_true rfl, Nat.le_of_ble_eq_true rfl⟩ (sl_252 e2 ⟨rfl, rfl⟩) rfl rfl (Nat.le_of_ble_eq_true rfl) (Nat.le_of_ble_eq_true rfl) ?_
      obtain rfl := Option.some.inj e
      obtain ⟨rfl, rfl⟩ := tg
      exact sh_Lk_ret (i := .ireturn) rfl rfl (sh_rb rfl _) (Nat.le_of_ble_eq_true rfl) (Nat.le_of_ble_eq_true rfl)
    · refine sh_Lk_lift (T := m11.T) (I := m11.I) (J := m11.J) (s := m11.s) (pc2 := 41) (lv2 := [(0, .ref 67)]) (st2 := [.int 32, .ref 67]) (I2 := m11.I) (J2 := m11.J) (fun hT v kk => ?_) ?_
      · refine sh_j0 (c := .ne) (off := (13)) (pc2 := 38) true rfl (sh_Bnet c) rfl ?_
        refine sh_w (i := (.aload_n 0)) (len := 1) (pc2 := 39) (lv2 := [(0, .ref 67)]) (st2 := [.ref 67]) (h2 := (sh_rep m11.T m11.I m11.J)) rfl rfl rfl ?_
        refine sh_w (i := (.bipush 32)) (len := 2) (pc2 := 41) (lv2 := [(0, .ref 67)]) (st2 := [.int 32, .ref 67]) (h2 := (sh_rep m11.T m11.I m11.J)) rfl rfl rfl ?_
        exact kk
      obtain ⟨r3, m13, e3, e⟩ := sh_bn_e e
      refine sh_Lk_cV (r := (some (.int (sh_b2 r3)))) (st2 := [.int (sh_b2 r3)]) (pc2 := 44) (k2 := 327) (a := 66) (as := [.ref 67, .int 32]) (rest := []) rfl rfl rfl (fun hT => (sh_s66 hT.st)) rfl rfl ⟨Nat.le_of_ble_eq_true rfl, Nat.le_of_ble_eq_true rfl⟩ (sl_327 e3 ⟨rfl, rfl⟩) rfl rfl (Nat.le_of_ble_eq_true rfl) (Nat.le_of_ble_eq_true rfl) ?_
      obtain rfl := Option.some.inj e
      obtain ⟨rfl, rfl⟩ := tg
      exact sh_Lk_ret (i := .ireturn) rfl rfl (sh_rb rfl _) (Nat.le_of_ble_eq_true rfl) (Nat.le_of_ble_eq_true rfl)
  · refine sh_Lk_lift (T := m11.T) (I := m11.I) (J := m11.J) (s := m11.s) (pc2 := 15) (lv2 := [(0, .ref 67)]) (st2 := [.int 0]) (I2 := m11.I) (J2 := m11.J) (fun hT v kk => ?_) ?_
    · refine sh_j0 (c := .ne) (off := (5)) (pc2 := 14) false rfl (sh_Znef c) rfl ?_
      refine sh_w (i := (.iconst 0)) (len := 1) (pc2 := 15) (lv2 := [(0, .ref 67)]) (st2 := [.int 0]) (h2 := (sh_rep m11.T m11.I m11.J)) rfl rfl rfl ?_
      exact kk
    obtain rfl := Option.some.inj e
    obtain ⟨rfl, rfl⟩ := tg
    exact sh_Lk_ret (i := .ireturn) rfl rfl rfl (Nat.le_of_ble_eq_true rfl) (Nat.le_of_ble_eq_true rfl)
theorem sl_331 {x1 : Nat} {m m2 : sh_X} {o : Outcome} {z : Bool} (e : sf_331 x1 m = some z) (tg : (sh_tZc m o m2) z) : sh_Lk 331 0 [(0, .ref 67), (1, .ref (1000001 + x1))] [] m o m2 30 600 := by
  unfold sf_331 at e
  refine sh_Lk_lift (T := m.T) (I := m.I) (J := m.J) (s := m.s) (pc2 := 5) (lv2 := [(0, .ref 67), (1, .ref (1000001 + x1))]) (st2 := [.int (m.I 66 91), .ref 67]) (I2 := m.I) (J2 := m.J) (fun hT v kk => ?_) ?_
  · refine sh_w (i := (.aload_n 0)) (len := 1) (pc2 := 1) (lv2 := [(0, .ref 67), (1, .ref (1000001 + x1))]) (st2 := [.ref 67]) (h2 := (sh_rep m.T m.I m.J)) rfl rfl rfl ?_
    refine sh_w (i := (.aload_n 0)) (len := 1) (pc2 := 2) (lv2 := [(0, .ref 67), (1, .ref (1000001 + x1))]) (st2 := [.ref 67, .ref 67]) (h2 := (sh_rep m.T m.I m.J)) rfl rfl rfl ?_
    refine sh_gI1 (len := 3) (x := m.I 66 91) (pc2 := 5) rfl rfl (sh_s66 hT.st) rfl rfl rfl ?_
    exact kk
  obtain ⟨r1, e1, e⟩ := sh_bc_e e
  refine sh_Lk_cV (r := (some (.int r1))) (st2 := [.int r1]) (pc2 := 8) (k2 := 249) (a := 66) (as := [.ref 67, .int (m.I 66 91)]) (rest := []) rfl rfl rfl (fun hT => (sh_s66 hT.st)) rfl rfl ⟨Nat.le_of_ble_eq_true rfl, Nat.le_of_ble_eq_true rfl⟩ (sl_249 e1 ⟨rfl, rfl⟩) rfl rfl (Nat.le_of_ble_eq_true rfl) (Nat.le_of_ble_eq_true rfl) ?_
  refine sh_Lk_lift (T := m.T) (I := m.I) (J := m.J) (s := m.s) (pc2 := 10) (lv2 := [(0, .ref 67), (1, .ref (1000001 + x1))]) (st2 := [.int 0, .ref (1000001 + x1), .int r1]) (I2 := m.I) (J2 := m.J) (fun hT v kk => ?_) ?_
  · refine sh_w (i := (.aload_n 1)) (len := 1) (pc2 := 9) (lv2 := [(0, .ref 67), (1, .ref (1000001 + x1))]) (st2 := [.ref (1000001 + x1), .int r1]) (h2 := (sh_rep m.T m.I m.J)) rfl rfl rfl ?_
    refine sh_w (i := (.iconst 0)) (len := 1) (pc2 := 10) (lv2 := [(0, .ref 67), (1, .ref (1000001 + x1))]) (st2 := [.int 0, .ref (1000001 + x1), .int r1]) (h2 := (sh_rep m.T m.I m.J)) rfl rfl rfl ?_
    exact kk
  obtain ⟨c, e⟩ := sh_gd e
  refine sh_Lk_tc (j := x1) (pc2 := 13) rfl rfl rfl c (Nat.le_of_ble_eq_true rfl) rfl (Nat.le_of_ble_eq_true rfl) (Nat.le_of_ble_eq_true rfl) ?_
  rcases sh_ite e with ⟨c, e⟩ | ⟨c, e⟩
  · refine sh_Lk_lift (T := m.T) (I := m.I) (J := m.J) (s := m.s) (pc2 := 21) (lv2 := [(0, .ref 67), (1, .ref (1000001 + x1))]) (st2 := [.int 1]) (I2 := m.I) (J2 := m.J) (fun hT v kk => ?_) ?_
    · refine sh_jc (c := .ne) (off := (7)) (pc2 := 16) false rfl (sh_Bnef c) rfl ?_
      refine sh_w (i := (.iconst 1)) (len := 1) (pc2 := 17) (lv2 := [(0, .ref 67), (1, .ref (1000001 + x1))]) (st2 := [.int 1]) (h2 := (sh_rep m.T m.I m.J)) rfl rfl rfl ?_
      refine sh_w (i := (.goto 4)) (len := 3) (pc2 := 21) (lv2 := [(0, .ref 67), (1, .ref (1000001 + x1))]) (st2 := [.int 1]) (h2 := (sh_rep m.T m.I m.J)) rfl rfl rfl ?_
      exact kk
    obtain rfl := Option.some.inj e
    obtain ⟨rfl, rfl⟩ := tg
    exact sh_Lk_ret (i := .ireturn) rfl rfl rfl (Nat.le_of_ble_eq_true rfl) (Nat.le_of_ble_eq_true rfl)
  · refine sh_Lk_lift (T := m.T) (I := m.I) (J := m.J) (s := m.s) (pc2 := 21) (lv2 := [(0, .ref 67), (1, .ref (1000001 + x1))]) (st2 := [.int 0]) (I2 := m.I) (J2 := m.J) (fun hT v kk => ?_) ?_
    · refine sh_jc (c := .ne) (off := (7)) (pc2 := 20) true rfl (sh_Bnet c) rfl ?_
      refine sh_w (i := (.iconst 0)) (len := 1) (pc2 := 21) (lv2 := [(0, .ref 67), (1, .ref (1000001 + x1))]) (st2 := [.int 0]) (h2 := (sh_rep m.T m.I m.J)) rfl rfl rfl ?_
      exact kk
    obtain rfl := Option.some.inj e
    obtain ⟨rfl, rfl⟩ := tg
    exact sh_Lk_ret (i := .ireturn) rfl rfl rfl (Nat.le_of_ble_eq_true rfl) (Nat.le_of_ble_eq_true rfl)
theorem sl_329_212 {y1 : Nat} {m m2 : sh_X} {o : Outcome} {z : (Bool × sh_X)} (e : sf_329_212 y1 m = some z) (tg : (sh_tZ o m2) z) : sh_Lk 329 212 [] [.ref (1000001 + y1), .ref 67] m o m2 31 622 := by
  unfold sf_329_212 at e
  obtain ⟨r1, m11, e1, e⟩ := sh_bn_e e
  refine sh_Lk_cV (r := (some (.int (sh_b2 r1)))) (st2 := [.int (sh_b2 r1)]) (pc2 := 215) (k2 := 328) (a := 66) (as := [.ref 67, .ref (1000001 + y1)]) (rest := []) rfl rfl rfl (fun hT => (sh_s66 hT.st)) rfl rfl ⟨Nat.le_of_ble_eq_true rfl, Nat.le_of_ble_eq_true rfl⟩ (sl_328 e1 ⟨rfl, rfl⟩) rfl rfl (Nat.le_of_ble_eq_true rfl) (Nat.le_of_ble_eq_true rfl) ?_
  obtain rfl := Option.some.inj e
  obtain ⟨rfl, rfl⟩ := tg
  exact sh_Lk_ret (i := .ireturn) rfl rfl (sh_rb rfl _) (Nat.le_of_ble_eq_true rfl) (Nat.le_of_ble_eq_true rfl)
theorem sl_329_176 {x1 : Int32} {y1 : Int32} {y2 : Bool} {m m2 : sh_X} {o : Outcome} {z : (Bool × sh_X)} (e : sf_329_176 x1 y1 y2 m = some z) (tg : (sh_tZ o m2) z) : sh_Lk 329 176 [(0, .ref 67), (1, .int x1)] [.int (sh_b2 y2), .int y1, .ref 118] m o m2 31 622 := by
  unfold sf_329_176 at e
  obtain ⟨c, e⟩ := sh_gd e
  refine sh_Lk_lift (T := m.T) (I := m.I) (J := m.J) (s := m.s) (pc2 := 187) (lv2 := [(0, .ref 67), (1, .int x1)]) (st2 := [.int x1, .ref 118, .int (m.I 66 87), .ref 67]) (I2 := sh_u2 m.I 117 (Int32.toNatClampNeg y1) (sh_b2 y2)) (J2 := m.J) (fun hT v kk => ?_) ?_
  · refine sh_is1 (x := sh_b2 y2) (i := y1) (pc2 := 177) rfl (sh_s117 hT.st) (sh_okb1 c) (sh_okb2 c) rfl ?_
    refine sh_w (i := (.aload_n 0)) (len := 1) (pc2 := 178) (lv2 := [(0, .ref 67), (1, .int x1)]) (st2 := [.ref 67]) (h2 := (sh_rep m.T (sh_u2 m.I 117 (Int32.toNatClampNeg y1) (sh_b2 y2)) m.J)) rfl rfl rfl ?_
    refine sh_w (i := .dup) (len := 1) (pc2 := 179) (lv2 := [(0, .ref 67), (1, .int x1)]) (st2 := [.ref 67, .ref 67]) (h2 := (sh_rep m.T (sh_u2 m.I 117 (Int32.toNatClampNeg y1) (sh_b2 y2)) m.J)) rfl rfl rfl ?_
    refine sh_gI1 (len := 3) (x := m.I 66 87) (pc2 := 182) rfl rfl (sh_s66 hT.st) rfl rfl rfl ?_
    refine sh_w (i := (.aload_n 0)) (len := 1) (pc2 := 183) (lv2 := [(0, .ref 67), (1, .int x1)]) (st2 := [.ref 67, .int (m.I 66 87), .ref 67]) (h2 := (sh_rep m.T (sh_u2 m.I 117 (Int32.toNatClampNeg y1) (sh_b2 y2)) m.J)) rfl rfl rfl ?_
    refine sh_gR1 (len := 3) (x := .ref 118) (pc2 := 186) rfl rfl (sh_s66 hT.st) rfl rfl ?_
    refine sh_w (i := (.iload_n 1)) (len := 1) (pc2 := 187) (lv2 := [(0, .ref 67), (1, .int x1)]) (st2 := [.int x1, .ref 118, .int (m.I 66 87), .ref 67]) (h2 := (sh_rep m.T (sh_u2 m.I 117 (Int32.toNatClampNeg y1) (sh_b2 y2)) m.J)) rfl rfl rfl ?_
    exact kk
  obtain ⟨c, e⟩ := sh_gd e
  refine sh_Lk_lift (T := m.T) (I := sh_u2 m.I 117 (Int32.toNatClampNeg y1) (sh_b2 y2)) (J := m.J) (s := m.s) (pc2 := 198) (lv2 := [(0, .ref 67), (1, .int x1)]) (st2 := [.int x1, .ref 118, .ref 67]) (I2 := sh_u2 (sh_u2 m.I 117 (Int32.toNatClampNeg y1) (sh_b2 y2)) 66 87 ((m.I 66 87) + ((sh_u2 m.I 117 (Int32.toNatClampNeg y1) (sh_b2 y2)) 117 (Int32.toNatClampNeg x1)))) (J2 := m.J) (fun hT v kk => ?_) ?_
  · refine sh_ia1 (x := (sh_u2 m.I 117 (Int32.toNatClampNeg y1) (sh_b2 y2)) 117 (Int32.toNatClampNeg x1)) (pc2 := 188) rfl (sh_s117 hT.st) (sh_okb1 c) (sh_okb2 c) rfl rfl ?_
    refine sh_w (i := .iadd) (len := 1) (pc2 := 189) (lv2 := [(0, .ref 67), (1, .int x1)]) (st2 := [.int ((m.I 66 87) + ((sh_u2 m.I 117 (Int32.toNatClampNeg y1) (sh_b2 y2)) 117 (Int32.toNatClampNeg x1))), .ref 67]) (h2 := (sh_rep m.T (sh_u2 m.I 117 (Int32.toNatClampNeg y1) (sh_b2 y2)) m.J)) rfl rfl rfl ?_
    refine sh_pI1 (x := (m.I 66 87) + ((sh_u2 m.I 117 (Int32.toNatClampNeg y1) (sh_b2 y2)) 117 (Int32.toNatClampNeg x1))) (pc2 := 192) rfl rfl (sh_s66 hT.st) rfl rfl rfl rfl ?_
    refine sh_w (i := (.aload_n 0)) (len := 1) (pc2 := 193) (lv2 := [(0, .ref 67), (1, .int x1)]) (st2 := [.ref 67]) (h2 := (sh_rep m.T (sh_u2 (sh_u2 m.I 117 (Int32.toNatClampNeg y1) (sh_b2 y2)) 66 87 ((m.I 66 87) + ((sh_u2 m.I 117 (Int32.toNatClampNeg y1) (sh_b2 y2)) 117 (Int32.toNatClampNeg x1)))) m.J)) rfl rfl rfl ?_
    refine sh_w (i := (.aload_n 0)) (len := 1) (pc2 := 194) (lv2 := [(0, .ref 67), (1, .int x1)]) (st2 := [.ref 67, .ref 67]) (h2 := (sh_rep m.T (sh_u2 (sh_u2 m.I 117 (Int32.toNatClampNeg y1) (sh_b2 y2)) 66 87 ((m.I 66 87) + ((sh_u2 m.I 117 (Int32.toNatClampNeg y1) (sh_b2 y2)) 117 (Int32.toNatClampNeg x1)))) m.J)) rfl rfl rfl ?_
    refine sh_gR1 (len := 3) (x := .ref 118) (pc2 := 197) rfl rfl (sh_s66 hT.st) rfl rfl ?_
    refine sh_w (i := (.iload_n 1)) (len := 1) (pc2 := 198) (lv2 := [(0, .ref 67), (1, .int x1)]) (st2 := [.int x1, .ref 118, .ref 67]) (h2 := (sh_rep m.T (sh_u2 (sh_u2 m.I 117 (Int32.toNatClampNeg y1) (sh_b2 y2)) 66 87 ((m.I 66 87) + ((sh_u2 m.I 117 (Int32.toNatClampNeg y1) (sh_b2 y2)) 117 (Int32.toNatClampNeg x1)))) m.J)) rfl rfl rfl ?_
    exact kk
  obtain ⟨c, e⟩ := sh_gd e
  refine sh_Lk_lift (T := m.T) (I := sh_u2 (sh_u2 m.I 117 (Int32.toNatClampNeg y1) (sh_b2 y2)) 66 87 ((m.I 66 87) + ((sh_u2 m.I 117 (Int32.toNatClampNeg y1) (sh_b2 y2)) 117 (Int32.toNatClampNeg x1)))) (J := m.J) (s := m.s) (pc2 := 200) (lv2 := [(0, .ref 67), (1, .int x1)]) (st2 := [.int 1, .int ((sh_u2 m.I 117 (Int32.toNatClampNeg y1) (sh_b2 y2)) 117 (Int32.toNatClampNeg x1)), .ref 67]) (I2 := sh_u2 (sh_u2 m.I 117 (Int32.toNatClampNeg y1) (sh_b2 y2)) 66 87 ((m.I 66 87) + ((sh_u2 m.I 117 (Int32.toNatClampNeg y1) (sh_b2 y2)) 117 (Int32.toNatClampNeg x1)))) (J2 := m.J) (fun hT v kk => ?_) ?_
  · refine sh_ia1 (x := (sh_u2 m.I 117 (Int32.toNatClampNeg y1) (sh_b2 y2)) 117 (Int32.toNatClampNeg x1)) (pc2 := 199) rfl (sh_s117 hT.st) (sh_okb1 c) (sh_okb2 c) rfl rfl ?_
    refine sh_w (i := (.iconst 1)) (len := 1) (pc2 := 200) (lv2 := [(0, .ref 67), (1, .int x1)]) (st2 := [.int 1, .int ((sh_u2 m.I 117 (Int32.toNatClampNeg y1) (sh_b2 y2)) 117 (Int32.toNatClampNeg x1)), .ref 67]) (h2 := (sh_rep m.T (sh_u2 (sh_u2 m.I 117 (Int32.toNatClampNeg y1) (sh_b2 y2)) 66 87 ((m.I 66 87) + ((sh_u2 m.I 117 (Int32.toNatClampNeg y1) (sh_b2 y2)) 117 (Int32.toNatClampNeg x1)))) m.J)) rfl rfl rfl ?_
    exact kk
  rcases sh_ite e with ⟨c, e⟩ | ⟨c, e⟩
  · refine sh_Lk_lift (T := m.T) (I := sh_u2 (sh_u2 m.I 117 (Int32.toNatClampNeg y1) (sh_b2 y2)) 66 87 ((m.I 66 87) + ((sh_u2 m.I 117 (Int32.toNatClampNeg y1) (sh_b2 y2)) 117 (Int32.toNatClampNeg x1)))) (J := m.J) (s := m.s) (pc2 := 212) (lv2 := [(0, .ref 67), (1, .int x1)]) (st2 := [.ref 1000023, .ref 67]) (I2 := sh_u2 (sh_u2 m.I 117 (Int32.toNatClampNeg y1) (sh_b2 y2)) 66 87 ((m.I 66 87) + ((sh_u2 m.I 117 (Int32.toNatClampNeg y1) (sh_b2 y2)) 117 (Int32.toNatClampNeg x1)))) (J2 := m.J) (fun hT v kk => ?_) ?_
    · refine sh_jc (c := .ne) (off := (9)) (pc2 := 203) false rfl (sh_Bnef c) rfl ?_
      refine sh_w (i := (.ldc_w 625)) (len := 3) (pc2 := 206) (lv2 := [(0, .ref 67), (1, .int x1)]) (st2 := [.ref 1000023, .ref 67]) (h2 := (sh_rep m.T (sh_u2 (sh_u2 m.I 117 (Int32.toNatClampNeg y1) (sh_b2 y2)) 66 87 ((m.I 66 87) + ((sh_u2 m.I 117 (Int32.toNatClampNeg y1) (sh_b2 y2)) 117 (Int32.toNatClampNeg x1)))) m.J)) rfl rfl rfl ?_
      refine sh_w (i := (.goto 6)) (len := 3) (pc2 := 212) (lv2 := [(0, .ref 67), (1, .int x1)]) (st2 := [.ref 1000023, .ref 67]) (h2 := (sh_rep m.T (sh_u2 (sh_u2 m.I 117 (Int32.toNatClampNeg y1) (sh_b2 y2)) 66 87 ((m.I 66 87) + ((sh_u2 m.I 117 (Int32.toNatClampNeg y1) (sh_b2 y2)) 117 (Int32.toNatClampNeg x1)))) m.J)) rfl rfl rfl ?_
      exact kk
    exact sh_Lk_sub (sh_sub_n) (sl_329_212 e tg)
  · refine sh_Lk_lift (T := m.T) (I := sh_u2 (sh_u2 m.I 117 (Int32.toNatClampNeg y1) (sh_b2 y2)) 66 87 ((m.I 66 87) + ((sh_u2 m.I 117 (Int32.toNatClampNeg y1) (sh_b2 y2)) 117 (Int32.toNatClampNeg x1)))) (J := m.J) (s := m.s) (pc2 := 212) (lv2 := [(0, .ref 67), (1, .int x1)]) (st2 := [.ref 1000024, .ref 67]) (I2 := sh_u2 (sh_u2 m.I 117 (Int32.toNatClampNeg y1) (sh_b2 y2)) 66 87 ((m.I 66 87) + ((sh_u2 m.I 117 (Int32.toNatClampNeg y1) (sh_b2 y2)) 117 (Int32.toNatClampNeg x1)))) (J2 := m.J) (fun hT v kk => ?_) ?_
    · refine sh_jc (c := .ne) (off := (9)) (pc2 := 209) true rfl (sh_Bnet c) rfl ?_
      refine sh_w (i := (.ldc_w 627)) (len := 3) (pc2 := 212) (lv2 := [(0, .ref 67), (1, .int x1)]) (st2 := [.ref 1000024, .ref 67]) (h2 := (sh_rep m.T (sh_u2 (sh_u2 m.I 117 (Int32.toNatClampNeg y1) (sh_b2 y2)) 66 87 ((m.I 66 87) + ((sh_u2 m.I 117 (Int32.toNatClampNeg y1) (sh_b2 y2)) 117 (Int32.toNatClampNeg x1)))) m.J)) rfl rfl rfl ?_
      exact kk
    exact sh_Lk_sub (sh_sub_n) (sl_329_212 e tg)
theorem sl_329_257 {y1 : Nat} {m m2 : sh_X} {o : Outcome} {z : (Bool × sh_X)} (e : sf_329_257 y1 m = some z) (tg : (sh_tZ o m2) z) : sh_Lk 329 257 [] [.ref (1000001 + y1), .ref 67] m o m2 31 622 := by
  unfold sf_329_257 at e
  obtain ⟨r1, m11, e1, e⟩ := sh_bn_e e
  refine sh_Lk_cV (r := (some (.int (sh_b2 r1)))) (st2 := [.int (sh_b2 r1)]) (pc2 := 260) (k2 := 328) (a := 66) (as := [.ref 67, .ref (1000001 + y1)]) (rest := []) rfl rfl rfl (fun hT => (sh_s66 hT.st)) rfl rfl ⟨Nat.le_of_ble_eq_true rfl, Nat.le_of_ble_eq_true rfl⟩ (sl_328 e1 ⟨rfl, rfl⟩) rfl rfl (Nat.le_of_ble_eq_true rfl) (Nat.le_of_ble_eq_true rfl) ?_
  obtain rfl := Option.some.inj e
  obtain ⟨rfl, rfl⟩ := tg
  exact sh_Lk_ret (i := .ireturn) rfl rfl (sh_rb rfl _) (Nat.le_of_ble_eq_true rfl) (Nat.le_of_ble_eq_true rfl)
theorem sl_329_236 {x1 : Int32} {y1 : Int32} {y2 : Int32} {m m2 : sh_X} {o : Outcome} {z : (Bool × sh_X)} (e : sf_329_236 x1 y1 y2 m = some z) (tg : (sh_tZ o m2) z) : sh_Lk 329 236 [(0, .ref 67), (1, .int x1)] [.int y2, .int y1, .ref 118] m o m2 31 622 := by
  unfold sf_329_236 at e
  obtain ⟨c, e⟩ := sh_gd e
  refine sh_Lk_lift (T := m.T) (I := m.I) (J := m.J) (s := m.s) (pc2 := 243) (lv2 := [(0, .ref 67), (1, .int x1)]) (st2 := [.int x1, .ref 118, .ref 67]) (I2 := sh_u2 m.I 117 (Int32.toNatClampNeg y1) y2) (J2 := m.J) (fun hT v kk => ?_) ?_
  · refine sh_is1 (x := y2) (i := y1) (pc2 := 237) rfl (sh_s117 hT.st) (sh_okb1 c) (sh_okb2 c) rfl ?_
    refine sh_w (i := (.aload_n 0)) (len := 1) (pc2 := 238) (lv2 := [(0, .ref 67), (1, .int x1)]) (st2 := [.ref 67]) (h2 := (sh_rep m.T (sh_u2 m.I 117 (Int32.toNatClampNeg y1) y2) m.J)) rfl rfl rfl ?_
    refine sh_w (i := (.aload_n 0)) (len := 1) (pc2 := 239) (lv2 := [(0, .ref 67), (1, .int x1)]) (st2 := [.ref 67, .ref 67]) (h2 := (sh_rep m.T (sh_u2 m.I 117 (Int32.toNatClampNeg y1) y2) m.J)) rfl rfl rfl ?_
    refine sh_gR1 (len := 3) (x := .ref 118) (pc2 := 242) rfl rfl (sh_s66 hT.st) rfl rfl ?_
    refine sh_w (i := (.iload_n 1)) (len := 1) (pc2 := 243) (lv2 := [(0, .ref 67), (1, .int x1)]) (st2 := [.int x1, .ref 118, .ref 67]) (h2 := (sh_rep m.T (sh_u2 m.I 117 (Int32.toNatClampNeg y1) y2) m.J)) rfl rfl rfl ?_
    exact kk
  obtain ⟨c, e⟩ := sh_gd e
  refine sh_Lk_lift (T := m.T) (I := sh_u2 m.I 117 (Int32.toNatClampNeg y1) y2) (J := m.J) (s := m.s) (pc2 := 245) (lv2 := [(0, .ref 67), (1, .int x1)]) (st2 := [.int 3, .int ((sh_u2 m.I 117 (Int32.toNatClampNeg y1) y2) 117 (Int32.toNatClampNeg x1)), .ref 67]) (I2 := sh_u2 m.I 117 (Int32.toNatClampNeg y1) y2) (J2 := m.J) (fun hT v kk => ?_) ?_
  · refine sh_ia1 (x := (sh_u2 m.I 117 (Int32.toNatClampNeg y1) y2) 117 (Int32.toNatClampNeg x1)) (pc2 := 244) rfl (sh_s117 hT.st) (sh_okb1 c) (sh_okb2 c) rfl rfl ?_
    refine sh_w (i := (.iconst 3)) (len := 1) (pc2 := 245) (lv2 := [(0, .ref 67), (1, .int x1)]) (st2 := [.int 3, .int ((sh_u2 m.I 117 (Int32.toNatClampNeg y1) y2) 117 (Int32.toNatClampNeg x1)), .ref 67]) (h2 := (sh_rep m.T (sh_u2 m.I 117 (Int32.toNatClampNeg y1) y2) m.J)) rfl rfl rfl ?_
    exact kk
  rcases sh_ite e with ⟨c, e⟩ | ⟨c, e⟩
  · refine sh_Lk_lift (T := m.T) (I := sh_u2 m.I 117 (Int32.toNatClampNeg y1) y2) (J := m.J) (s := m.s) (pc2 := 257) (lv2 := [(0, .ref 67), (1, .int x1)]) (st2 := [.ref 1000026, .ref 67]) (I2 := sh_u2 m.I 117 (Int32.toNatClampNeg y1) y2) (J2 := m.J) (fun hT v kk => ?_) ?_
    · refine sh_jc (c := .ne) (off := (9)) (pc2 := 248) false rfl (sh_Bnef c) rfl ?_
      refine sh_w (i := (.ldc_w 631)) (len := 3) (pc2 := 251) (lv2 := [(0, .ref 67), (1, .int x1)]) (st2 := [.ref 1000026, .ref 67]) (h2 := (sh_rep m.T (sh_u2 m.I 117 (Int32.toNatClampNeg y1) y2) m.J)) rfl rfl rfl ?_
      refine sh_w (i := (.goto 6)) (len := 3) (pc2 := 257) (lv2 := [(0, .ref 67), (1, .int x1)]) (st2 := [.ref 1000026, .ref 67]) (h2 := (sh_rep m.T (sh_u2 m.I 117 (Int32.toNatClampNeg y1) y2) m.J)) rfl rfl rfl ?_
      exact kk
    exact sh_Lk_sub (sh_sub_n) (sl_329_257 e tg)
  · refine sh_Lk_lift (T := m.T) (I := sh_u2 m.I 117 (Int32.toNatClampNeg y1) y2) (J := m.J) (s := m.s) (pc2 := 257) (lv2 := [(0, .ref 67), (1, .int x1)]) (st2 := [.ref 1000027, .ref 67]) (I2 := sh_u2 m.I 117 (Int32.toNatClampNeg y1) y2) (J2 := m.J) (fun hT v kk => ?_) ?_
    · refine sh_jc (c := .ne) (off := (9)) (pc2 := 254) true rfl (sh_Bnet c) rfl ?_
      refine sh_w (i := (.ldc_w 633)) (len := 3) (pc2 := 257) (lv2 := [(0, .ref 67), (1, .int x1)]) (st2 := [.ref 1000027, .ref 67]) (h2 := (sh_rep m.T (sh_u2 m.I 117 (Int32.toNatClampNeg y1) y2) m.J)) rfl rfl rfl ?_
      exact kk
    exact sh_Lk_sub (sh_sub_n) (sl_329_257 e tg)
theorem sl_329_82 {x1 : Int32} {x2 : Int32} {m m2 : sh_X} {o : Outcome} {z : (Bool × sh_X)} (e : sf_329_82 x1 x2 m = some z) (tg : (sh_tZ o m2) z) : sh_Lk 329 82 [(0, .ref 67), (1, .int x1), (2, .int x2)] [] m o m2 31 622 := by
  unfold sf_329_82 at e
  refine sh_Lk_lift (T := m.T) (I := m.I) (J := m.J) (s := m.s) (pc2 := 90) (lv2 := [(0, .ref 67), (1, .int x1), (2, .int x2)]) (st2 := [.int ((m.I 66 86) - 1), .int 0, .ref 67]) (I2 := m.I) (J2 := m.J) (fun hT v kk => ?_) ?_
  · refine sh_w (i := (.aload_n 0)) (len := 1) (pc2 := 83) (lv2 := [(0, .ref 67), (1, .int x1), (2, .int x2)]) (st2 := [.ref 67]) (h2 := (sh_rep m.T m.I m.J)) rfl rfl rfl ?_
    refine sh_w (i := (.iconst 0)) (len := 1) (pc2 := 84) (lv2 := [(0, .ref 67), (1, .int x1), (2, .int x2)]) (st2 := [.int 0, .ref 67]) (h2 := (sh_rep m.T m.I m.J)) rfl rfl rfl ?_
    refine sh_w (i := (.aload_n 0)) (len := 1) (pc2 := 85) (lv2 := [(0, .ref 67), (1, .int x1), (2, .int x2)]) (st2 := [.ref 67, .int 0, .ref 67]) (h2 := (sh_rep m.T m.I m.J)) rfl rfl rfl ?_
    refine sh_gI1 (len := 3) (x := m.I 66 86) (pc2 := 88) rfl rfl (sh_s66 hT.st) rfl rfl rfl ?_
    refine sh_w (i := (.iconst 1)) (len := 1) (pc2 := 89) (lv2 := [(0, .ref 67), (1, .int x1), (2, .int x2)]) (st2 := [.int 1, .int (m.I 66 86), .int 0, .ref 67]) (h2 := (sh_rep m.T m.I m.J)) rfl rfl rfl ?_
    refine sh_w (i := .isub) (len := 1) (pc2 := 90) (lv2 := [(0, .ref 67), (1, .int x1), (2, .int x2)]) (st2 := [.int ((m.I 66 86) - 1), .int 0, .ref 67]) (h2 := (sh_rep m.T m.I m.J)) rfl rfl rfl ?_
    exact kk
  obtain ⟨r1, m11, e1, e⟩ := sh_bn_e e
  refine sh_Lk_cV (r := (some (.int (sh_b2 r1)))) (st2 := [.int (sh_b2 r1)]) (pc2 := 93) (k2 := 326) (a := 66) (as := [.ref 67, .int 0, .int ((m.I 66 86) - 1)]) (rest := []) rfl rfl rfl (fun hT => (sh_s66 hT.st)) rfl rfl ⟨Nat.le_of_ble_eq_true rfl, Nat.le_of_ble_eq_true rfl⟩ (sl_326 e1 ⟨rfl, rfl⟩) rfl rfl (Nat.le_of_ble_eq_true rfl) (Nat.le_of_ble_eq_true rfl) ?_
  rcases sh_ite e with ⟨c, e⟩ | ⟨c, e⟩
  · refine sh_Lk_lift (T := m11.T) (I := m11.I) (J := m11.J) (s := m11.s) (pc2 := 106) (lv2 := [(0, .ref 67), (1, .int x1), (2, .int x2)]) (st2 := [.int (m11.I 66 92), .ref 124]) (I2 := m11.I) (J2 := m11.J) (fun hT v kk => ?_) ?_
    · refine sh_j0 (c := .ne) (off := (5)) (pc2 := 98) true rfl (sh_Znet c) rfl ?_
      refine sh_w (i := (.aload_n 0)) (len := 1) (pc2 := 99) (lv2 := [(0, .ref 67), (1, .int x1), (2, .int x2)]) (st2 := [.ref 67]) (h2 := (sh_rep m11.T m11.I m11.J)) rfl rfl rfl ?_
      refine sh_gR1 (len := 3) (x := .ref 124) (pc2 := 102) rfl rfl (sh_s66 hT.st) rfl rfl ?_
      refine sh_w (i := (.aload_n 0)) (len := 1) (pc2 := 103) (lv2 := [(0, .ref 67), (1, .int x1), (2, .int x2)]) (st2 := [.ref 67, .ref 124]) (h2 := (sh_rep m11.T m11.I m11.J)) rfl rfl rfl ?_
      refine sh_gI1 (len := 3) (x := m11.I 66 92) (pc2 := 106) rfl rfl (sh_s66 hT.st) rfl rfl rfl ?_
      exact kk
    obtain ⟨c, e⟩ := sh_gd e
    refine sh_Lk_lift (T := m11.T) (I := m11.I) (J := m11.J) (s := m11.s) (pc2 := 107) (lv2 := [(0, .ref 67), (1, .int x1), (2, .int x2)]) (st2 := [.int (m11.I 123 (Int32.toNatClampNeg (m11.I 66 92)))]) (I2 := m11.I) (J2 := m11.J) (fun hT v kk => ?_) ?_
    · refine sh_ba1 (x := m11.I 123 (Int32.toNatClampNeg (m11.I 66 92))) (pc2 := 107) rfl (sh_s123 hT.st) (Or.inr rfl) (sh_okb1 c) (sh_okb2 c) rfl rfl ?_
      exact kk
    rcases sh_ite e with ⟨c, e⟩ | ⟨c, e⟩
    · refine sh_Lk_lift (T := m11.T) (I := m11.I) (J := m11.J) (s := m11.s) (pc2 := 123) (lv2 := [(0, .ref 67), (1, .int x1), (2, .int x2)]) (st2 := [.int 32, .ref 67]) (I2 := m11.I) (J2 := m11.J) (fun hT v kk => ?_) ?_
      · refine sh_j0 (c := .eq) (off := (13)) (pc2 := 120) true rfl (sh_Beqt c) rfl ?_
        refine sh_w (i := (.aload_n 0)) (len := 1) (pc2 := 121) (lv2 := [(0, .ref 67), (1, .int x1), (2, .int x2)]) (st2 := [.ref 67]) (h2 := (sh_rep m11.T m11.I m11.J)) rfl rfl rfl ?_
        refine sh_w (i := (.bipush 32)) (len := 2) (pc2 := 123) (lv2 := [(0, .ref 67), (1, .int x1), (2, .int x2)]) (st2 := [.int 32, .ref 67]) (h2 := (sh_rep m11.T m11.I m11.J)) rfl rfl rfl ?_
        exact kk
      obtain ⟨r2, m12, e2, e⟩ := sh_bn_e e
      refine sh_Lk_cV (r := (some (.int (sh_b2 r2)))) (st2 := [.int (sh_b2 r2)]) (pc2 := 126) (k2 := 327) (a := 66) (as := [.ref 67, .int 32]) (rest := []) rfl rfl rfl (fun hT => (sh_s66 hT.st)) rfl rfl ⟨Nat.le_of_ble_eq_true rfl, Nat.le_of_ble_eq_true rfl⟩ (sl_327 e2 ⟨rfl, rfl⟩) rfl rfl (Nat.le_of_ble_eq_true rfl) (Nat.le_of_ble_eq_true rfl) ?_
      rcases sh_ite e with ⟨c, e⟩ | ⟨c, e⟩
      · refine sh_Lk_lift (T := m12.T) (I := m12.I) (J := m12.J) (s := m12.s) (pc2 := 140) (lv2 := [(0, .ref 67), (1, .int x1), (2, .int x2)]) (st2 := [.int (m12.I 66 92), .int x1, .ref 121]) (I2 := m12.I) (J2 := m12.J) (fun hT v kk => ?_) ?_
        · refine sh_j0 (c := .ne) (off := (5)) (pc2 := 131) true rfl (sh_Znet c) rfl ?_
          refine sh_w (i := (.aload_n 0)) (len := 1) (pc2 := 132) (lv2 := [(0, .ref 67), (1, .int x1), (2, .int x2)]) (st2 := [.ref 67]) (h2 := (sh_rep m12.T m12.I m12.J)) rfl rfl rfl ?_
          refine sh_gR1 (len := 3) (x := .ref 121) (pc2 := 135) rfl rfl (sh_s66 hT.st) rfl rfl ?_
          refine sh_w (i := (.iload_n 1)) (len := 1) (pc2 := 136) (lv2 := [(0, .ref 67), (1, .int x1), (2, .int x2)]) (st2 := [.int x1, .ref 121]) (h2 := (sh_rep m12.T m12.I m12.J)) rfl rfl rfl ?_
          refine sh_w (i := (.aload_n 0)) (len := 1) (pc2 := 137) (lv2 := [(0, .ref 67), (1, .int x1), (2, .int x2)]) (st2 := [.ref 67, .int x1, .ref 121]) (h2 := (sh_rep m12.T m12.I m12.J)) rfl rfl rfl ?_
          refine sh_gI1 (len := 3) (x := m12.I 66 92) (pc2 := 140) rfl rfl (sh_s66 hT.st) rfl rfl rfl ?_
          exact kk
        obtain ⟨c, e⟩ := sh_gd e
        refine sh_Lk_lift (T := m12.T) (I := m12.I) (J := m12.J) (s := m12.s) (pc2 := 150) (lv2 := [(0, .ref 67), (1, .int x1), (2, .int x2)]) (st2 := [.int 1, .int (m12.I 66 92), .ref 124]) (I2 := sh_u2 m12.I 120 (Int32.toNatClampNeg x1) (m12.I 66 92)) (J2 := m12.J) (fun hT v kk => ?_) ?_
        · refine sh_is1 (x := m12.I 66 92) (i := x1) (pc2 := 141) rfl (sh_s120 hT.st) (sh_okb1 c) (sh_okb2 c) rfl ?_
          refine sh_w (i := (.aload_n 0)) (len := 1) (pc2 := 142) (lv2 := [(0, .ref 67), (1, .int x1), (2, .int x2)]) (st2 := [.ref 67]) (h2 := (sh_rep m12.T (sh_u2 m12.I 120 (Int32.toNatClampNeg x1) (m12.I 66 92)) m12.J)) rfl rfl rfl ?_
          refine sh_gR1 (len := 3) (x := .ref 124) (pc2 := 145) rfl rfl (sh_s66 hT.st) rfl rfl ?_
          refine sh_w (i := (.aload_n 0)) (len := 1) (pc2 := 146) (lv2 := [(0, .ref 67), (1, .int x1), (2, .int x2)]) (st2 := [.ref 67, .ref 124]) (h2 := (sh_rep m12.T (sh_u2 m12.I 120 (Int32.toNatClampNeg x1) (m12.I 66 92)) m12.J)) rfl rfl rfl ?_
          refine sh_gI1 (len := 3) (x := m12.I 66 92) (pc2 := 149) rfl rfl (sh_s66 hT.st) rfl rfl rfl ?_
          refine sh_w (i := (.iconst 1)) (len := 1) (pc2 := 150) (lv2 := [(0, .ref 67), (1, .int x1), (2, .int x2)]) (st2 := [.int 1, .int (m12.I 66 92), .ref 124]) (h2 := (sh_rep m12.T (sh_u2 m12.I 120 (Int32.toNatClampNeg x1) (m12.I 66 92)) m12.J)) rfl rfl rfl ?_
          exact kk
        obtain ⟨c, e⟩ := sh_gd e
        refine sh_Lk_lift (T := m12.T) (I := sh_u2 m12.I 120 (Int32.toNatClampNeg x1) (m12.I 66 92)) (J := m12.J) (s := m12.s) (pc2 := 153) (lv2 := [(0, .ref 67), (1, .int x1), (2, .int x2)]) (st2 := [.int 2, .int x2]) (I2 := sh_u2 (sh_u2 m12.I 120 (Int32.toNatClampNeg x1) (m12.I 66 92)) 123 (Int32.toNatClampNeg (m12.I 66 92)) (vp_nar .boolean 1)) (J2 := m12.J) (fun hT v kk => ?_) ?_
        · refine sh_zs1 (x := 1) (y := vp_nar .boolean 1) (i := m12.I 66 92) (pc2 := 151) rfl (sh_s123 hT.st) (sh_okb1 c) (sh_okb2 c) rfl rfl ?_
          refine sh_w (i := (.iload_n 2)) (len := 1) (pc2 := 152) (lv2 := [(0, .ref 67), (1, .int x1), (2, .int x2)]) (st2 := [.int x2]) (h2 := (sh_rep m12.T (sh_u2 (sh_u2 m12.I 120 (Int32.toNatClampNeg x1) (m12.I 66 92)) 123 (Int32.toNatClampNeg (m12.I 66 92)) (vp_nar .boolean 1)) m12.J)) rfl rfl rfl ?_
          refine sh_w (i := (.iconst 2)) (len := 1) (pc2 := 153) (lv2 := [(0, .ref 67), (1, .int x1), (2, .int x2)]) (st2 := [.int 2, .int x2]) (h2 := (sh_rep m12.T (sh_u2 (sh_u2 m12.I 120 (Int32.toNatClampNeg x1) (m12.I 66 92)) 123 (Int32.toNatClampNeg (m12.I 66 92)) (vp_nar .boolean 1)) m12.J)) rfl rfl rfl ?_
          exact kk
        rcases sh_ite e with ⟨c, e⟩ | ⟨c, e⟩
        · refine sh_Lk_lift (T := m12.T) (I := sh_u2 (sh_u2 m12.I 120 (Int32.toNatClampNeg x1) (m12.I 66 92)) 123 (Int32.toNatClampNeg (m12.I 66 92)) (vp_nar .boolean 1)) (J := m12.J) (s := m12.s) (pc2 := 165) (lv2 := [(0, .ref 67), (1, .int x1), (2, .int x2)]) (st2 := [.ref 1000022, .ref 67, .int x1, .ref 118]) (I2 := sh_u2 (sh_u2 m12.I 120 (Int32.toNatClampNeg x1) (m12.I 66 92)) 123 (Int32.toNatClampNeg (m12.I 66 92)) (vp_nar .boolean 1)) (J2 := m12.J) (fun hT v kk => ?_) ?_
          · refine sh_jc (c := .ne) (off := (63)) (pc2 := 156) false rfl (sh_Bnef c) rfl ?_
            refine sh_w (i := (.aload_n 0)) (len := 1) (pc2 := 157) (lv2 := [(0, .ref 67), (1, .int x1), (2, .int x2)]) (st2 := [.ref 67]) (h2 := (sh_rep m12.T (sh_u2 (sh_u2 m12.I 120 (Int32.toNatClampNeg x1) (m12.I 66 92)) 123 (Int32.toNatClampNeg (m12.I 66 92)) (vp_nar .boolean 1)) m12.J)) rfl rfl rfl ?_
            refine sh_gR1 (len := 3) (x := .ref 118) (pc2 := 160) rfl rfl (sh_s66 hT.st) rfl rfl ?_
            refine sh_w (i := (.iload_n 1)) (len := 1) (pc2 := 161) (lv2 := [(0, .ref 67), (1, .int x1), (2, .int x2)]) (st2 := [.int x1, .ref 118]) (h2 := (sh_rep m12.T (sh_u2 (sh_u2 m12.I 120 (Int32.toNatClampNeg x1) (m12.I 66 92)) 123 (Int32.toNatClampNeg (m12.I 66 92)) (vp_nar .boolean 1)) m12.J)) rfl rfl rfl ?_
            refine sh_w (i := (.aload_n 0)) (len := 1) (pc2 := 162) (lv2 := [(0, .ref 67), (1, .int x1), (2, .int x2)]) (st2 := [.ref 67, .int x1, .ref 118]) (h2 := (sh_rep m12.T (sh_u2 (sh_u2 m12.I 120 (Int32.toNatClampNeg x1) (m12.I 66 92)) 123 (Int32.toNatClampNeg (m12.I 66 92)) (vp_nar .boolean 1)) m12.J)) rfl rfl rfl ?_
            refine sh_w (i := (.ldc_w 620)) (len := 3) (pc2 := 165) (lv2 := [(0, .ref 67), (1, .int x1), (2, .int x2)]) (st2 := [.ref 1000022, .ref 67, .int x1, .ref 118]) (h2 := (sh_rep m12.T (sh_u2 (sh_u2 m12.I 120 (Int32.toNatClampNeg x1) (m12.I 66 92)) 123 (Int32.toNatClampNeg (m12.I 66 92)) (vp_nar .boolean 1)) m12.J)) rfl rfl rfl ?_
            exact kk
          obtain ⟨r3, e3, e⟩ := sh_bc_e e
          refine sh_Lk_cV (r := (some (.int (sh_b2 r3)))) (st2 := [.int (sh_b2 r3), .int x1, .ref 118]) (pc2 := 168) (k2 := 331) (a := 66) (as := [.ref 67, .ref 1000022]) (rest := [.int x1, .ref 118]) rfl rfl rfl (fun hT => (sh_s66 hT.st)) rfl rfl ⟨Nat.le_of_ble_eq_true rfl, Nat.le_of_ble_eq_true rfl⟩ (sl_331 e3 ⟨rfl, rfl⟩) rfl rfl (Nat.le_of_ble_eq_true rfl) (Nat.le_of_ble_eq_true rfl) ?_
          rcases sh_ite e with ⟨c, e⟩ | ⟨c, e⟩
          · refine sh_Lk_lift (T := m12.T) (I := sh_u2 (sh_u2 m12.I 120 (Int32.toNatClampNeg x1) (m12.I 66 92)) 123 (Int32.toNatClampNeg (m12.I 66 92)) (vp_nar .boolean 1)) (J := m12.J) (s := m12.s) (pc2 := 176) (lv2 := [(0, .ref 67), (1, .int x1), (2, .int x2)]) (st2 := [.int 1, .int x1, .ref 118]) (I2 := sh_u2 (sh_u2 m12.I 120 (Int32.toNatClampNeg x1) (m12.I 66 92)) 123 (Int32.toNatClampNeg (m12.I 66 92)) (vp_nar .boolean 1)) (J2 := m12.J) (fun hT v kk => ?_) ?_
            · refine sh_j0 (c := .eq) (off := (7)) (pc2 := 171) false rfl (sh_Zeqf c) rfl ?_
              refine sh_w (i := (.iconst 1)) (len := 1) (pc2 := 172) (lv2 := [(0, .ref 67), (1, .int x1), (2, .int x2)]) (st2 := [.int 1, .int x1, .ref 118]) (h2 := (sh_rep m12.T (sh_u2 (sh_u2 m12.I 120 (Int32.toNatClampNeg x1) (m12.I 66 92)) 123 (Int32.toNatClampNeg (m12.I 66 92)) (vp_nar .boolean 1)) m12.J)) rfl rfl rfl ?_
              refine sh_w (i := (.goto 4)) (len := 3) (pc2 := 176) (lv2 := [(0, .ref 67), (1, .int x1), (2, .int x2)]) (st2 := [.int 1, .int x1, .ref 118]) (h2 := (sh_rep m12.T (sh_u2 (sh_u2 m12.I 120 (Int32.toNatClampNeg x1) (m12.I 66 92)) 123 (Int32.toNatClampNeg (m12.I 66 92)) (vp_nar .boolean 1)) m12.J)) rfl rfl rfl ?_
              exact kk
            exact sh_Lk_sub (sh_sub_c rfl (sh_sub_c rfl (sh_sub_n))) (sl_329_176 e tg)
          · refine sh_Lk_lift (T := m12.T) (I := sh_u2 (sh_u2 m12.I 120 (Int32.toNatClampNeg x1) (m12.I 66 92)) 123 (Int32.toNatClampNeg (m12.I 66 92)) (vp_nar .boolean 1)) (J := m12.J) (s := m12.s) (pc2 := 176) (lv2 := [(0, .ref 67), (1, .int x1), (2, .int x2)]) (st2 := [.int 0, .int x1, .ref 118]) (I2 := sh_u2 (sh_u2 m12.I 120 (Int32.toNatClampNeg x1) (m12.I 66 92)) 123 (Int32.toNatClampNeg (m12.I 66 92)) (vp_nar .boolean 1)) (J2 := m12.J) (fun hT v kk => ?_) ?_
            · refine sh_j0 (c := .eq) (off := (7)) (pc2 := 175) true rfl (sh_Zeqt c) rfl ?_
              refine sh_w (i := (.iconst 0)) (len := 1) (pc2 := 176) (lv2 := [(0, .ref 67), (1, .int x1), (2, .int x2)]) (st2 := [.int 0, .int x1, .ref 118]) (h2 := (sh_rep m12.T (sh_u2 (sh_u2 m12.I 120 (Int32.toNatClampNeg x1) (m12.I 66 92)) 123 (Int32.toNatClampNeg (m12.I 66 92)) (vp_nar .boolean 1)) m12.J)) rfl rfl rfl ?_
              exact kk
            exact sh_Lk_sub (sh_sub_c rfl (sh_sub_c rfl (sh_sub_n))) (sl_329_176 e tg)
        · refine sh_Lk_lift (T := m12.T) (I := sh_u2 (sh_u2 m12.I 120 (Int32.toNatClampNeg x1) (m12.I 66 92)) 123 (Int32.toNatClampNeg (m12.I 66 92)) (vp_nar .boolean 1)) (J := m12.J) (s := m12.s) (pc2 := 225) (lv2 := [(0, .ref 67), (1, .int x1), (2, .int x2)]) (st2 := [.ref 1000025, .ref 67, .int x1, .ref 118]) (I2 := sh_u2 (sh_u2 m12.I 120 (Int32.toNatClampNeg x1) (m12.I 66 92)) 123 (Int32.toNatClampNeg (m12.I 66 92)) (vp_nar .boolean 1)) (J2 := m12.J) (fun hT v kk => ?_) ?_
          · refine sh_jc (c := .ne) (off := (63)) (pc2 := 216) true rfl (sh_Bnet c) rfl ?_
            refine sh_w (i := (.aload_n 0)) (len := 1) (pc2 := 217) (lv2 := [(0, .ref 67), (1, .int x1), (2, .int x2)]) (st2 := [.ref 67]) (h2 := (sh_rep m12.T (sh_u2 (sh_u2 m12.I 120 (Int32.toNatClampNeg x1) (m12.I 66 92)) 123 (Int32.toNatClampNeg (m12.I 66 92)) (vp_nar .boolean 1)) m12.J)) rfl rfl rfl ?_
            refine sh_gR1 (len := 3) (x := .ref 118) (pc2 := 220) rfl rfl (sh_s66 hT.st) rfl rfl ?_
            refine sh_w (i := (.iload_n 1)) (len := 1) (pc2 := 221) (lv2 := [(0, .ref 67), (1, .int x1), (2, .int x2)]) (st2 := [.int x1, .ref 118]) (h2 := (sh_rep m12.T (sh_u2 (sh_u2 m12.I 120 (Int32.toNatClampNeg x1) (m12.I 66 92)) 123 (Int32.toNatClampNeg (m12.I 66 92)) (vp_nar .boolean 1)) m12.J)) rfl rfl rfl ?_
            refine sh_w (i := (.aload_n 0)) (len := 1) (pc2 := 222) (lv2 := [(0, .ref 67), (1, .int x1), (2, .int x2)]) (st2 := [.ref 67, .int x1, .ref 118]) (h2 := (sh_rep m12.T (sh_u2 (sh_u2 m12.I 120 (Int32.toNatClampNeg x1) (m12.I 66 92)) 123 (Int32.toNatClampNeg (m12.I 66 92)) (vp_nar .boolean 1)) m12.J)) rfl rfl rfl ?_
            refine sh_w (i := (.ldc_w 629)) (len := 3) (pc2 := 225) (lv2 := [(0, .ref 67), (1, .int x1), (2, .int x2)]) (st2 := [.ref 1000025, .ref 67, .int x1, .ref 118]) (h2 := (sh_rep m12.T (sh_u2 (sh_u2 m12.I 120 (Int32.toNatClampNeg x1) (m12.I 66 92)) 123 (Int32.toNatClampNeg (m12.I 66 92)) (vp_nar .boolean 1)) m12.J)) rfl rfl rfl ?_
            exact kk
          obtain ⟨r4, e4, e⟩ := sh_bc_e e
          refine sh_Lk_cV (r := (some (.int (sh_b2 r4)))) (st2 := [.int (sh_b2 r4), .int x1, .ref 118]) (pc2 := 228) (k2 := 331) (a := 66) (as := [.ref 67, .ref 1000025]) (rest := [.int x1, .ref 118]) rfl rfl rfl (fun hT => (sh_s66 hT.st)) rfl rfl ⟨Nat.le_of_ble_eq_true rfl, Nat.le_of_ble_eq_true rfl⟩ (sl_331 e4 ⟨rfl, rfl⟩) rfl rfl (Nat.le_of_ble_eq_true rfl) (Nat.le_of_ble_eq_true rfl) ?_
          rcases sh_ite e with ⟨c, e⟩ | ⟨c, e⟩
          · refine sh_Lk_lift (T := m12.T) (I := sh_u2 (sh_u2 m12.I 120 (Int32.toNatClampNeg x1) (m12.I 66 92)) 123 (Int32.toNatClampNeg (m12.I 66 92)) (vp_nar .boolean 1)) (J := m12.J) (s := m12.s) (pc2 := 236) (lv2 := [(0, .ref 67), (1, .int x1), (2, .int x2)]) (st2 := [.int 3, .int x1, .ref 118]) (I2 := sh_u2 (sh_u2 m12.I 120 (Int32.toNatClampNeg x1) (m12.I 66 92)) 123 (Int32.toNatClampNeg (m12.I 66 92)) (vp_nar .boolean 1)) (J2 := m12.J) (fun hT v kk => ?_) ?_
            · refine sh_j0 (c := .eq) (off := (7)) (pc2 := 231) false rfl (sh_Zeqf c) rfl ?_
              refine sh_w (i := (.iconst 3)) (len := 1) (pc2 := 232) (lv2 := [(0, .ref 67), (1, .int x1), (2, .int x2)]) (st2 := [.int 3, .int x1, .ref 118]) (h2 := (sh_rep m12.T (sh_u2 (sh_u2 m12.I 120 (Int32.toNatClampNeg x1) (m12.I 66 92)) 123 (Int32.toNatClampNeg (m12.I 66 92)) (vp_nar .boolean 1)) m12.J)) rfl rfl rfl ?_
              refine sh_w (i := (.goto 4)) (len := 3) (pc2 := 236) (lv2 := [(0, .ref 67), (1, .int x1), (2, .int x2)]) (st2 := [.int 3, .int x1, .ref 118]) (h2 := (sh_rep m12.T (sh_u2 (sh_u2 m12.I 120 (Int32.toNatClampNeg x1) (m12.I 66 92)) 123 (Int32.toNatClampNeg (m12.I 66 92)) (vp_nar .boolean 1)) m12.J)) rfl rfl rfl ?_
              exact kk
            exact sh_Lk_sub (sh_sub_c rfl (sh_sub_c rfl (sh_sub_n))) (sl_329_236 e tg)
          · refine sh_Lk_lift (T := m12.T) (I := sh_u2 (sh_u2 m12.I 120 (Int32.toNatClampNeg x1) (m12.I 66 92)) 123 (Int32.toNatClampNeg (m12.I 66 92)) (vp_nar .boolean 1)) (J := m12.J) (s := m12.s) (pc2 := 236) (lv2 := [(0, .ref 67), (1, .int x1), (2, .int x2)]) (st2 := [.int 2, .int x1, .ref 118]) (I2 := sh_u2 (sh_u2 m12.I 120 (Int32.toNatClampNeg x1) (m12.I 66 92)) 123 (Int32.toNatClampNeg (m12.I 66 92)) (vp_nar .boolean 1)) (J2 := m12.J) (fun hT v kk => ?_) ?_
            · refine sh_j0 (c := .eq) (off := (7)) (pc2 := 235) true rfl (sh_Zeqt c) rfl ?_
              refine sh_w (i := (.iconst 2)) (len := 1) (pc2 := 236) (lv2 := [(0, .ref 67), (1, .int x1), (2, .int x2)]) (st2 := [.int 2, .int x1, .ref 118]) (h2 := (sh_rep m12.T (sh_u2 (sh_u2 m12.I 120 (Int32.toNatClampNeg x1) (m12.I 66 92)) 123 (Int32.toNatClampNeg (m12.I 66 92)) (vp_nar .boolean 1)) m12.J)) rfl rfl rfl ?_
              exact kk
            exact sh_Lk_sub (sh_sub_c rfl (sh_sub_c rfl (sh_sub_n))) (sl_329_236 e tg)
      · refine sh_Lk_lift (T := m12.T) (I := m12.I) (J := m12.J) (s := m12.s) (pc2 := 130) (lv2 := [(0, .ref 67), (1, .int x1), (2, .int x2)]) (st2 := [.int 0]) (I2 := m12.I) (J2 := m12.J) (fun hT v kk => ?_) ?_
        · refine sh_j0 (c := .ne) (off := (5)) (pc2 := 129) false rfl (sh_Znef c) rfl ?_
          refine sh_w (i := (.iconst 0)) (len := 1) (pc2 := 130) (lv2 := [(0, .ref 67), (1, .int x1), (2, .int x2)]) (st2 := [.int 0]) (h2 := (sh_rep m12.T m12.I m12.J)) rfl rfl rfl ?_
          exact kk
        obtain rfl := Option.some.inj e
        obtain ⟨rfl, rfl⟩ := tg
        exact sh_Lk_ret (i := .ireturn) rfl rfl rfl (Nat.le_of_ble_eq_true rfl) (Nat.le_of_ble_eq_true rfl)
    · refine sh_Lk_lift (T := m11.T) (I := m11.I) (J := m11.J) (s := m11.s) (pc2 := 116) (lv2 := [(0, .ref 67), (1, .int x1), (2, .int x2)]) (st2 := [.int (m11.I 66 93), .int 2, .ref 67]) (I2 := m11.I) (J2 := m11.J) (fun hT v kk => ?_) ?_
      · refine sh_j0 (c := .eq) (off := (13)) (pc2 := 110) false rfl (sh_Beqf c) rfl ?_
        refine sh_w (i := (.aload_n 0)) (len := 1) (pc2 := 111) (lv2 := [(0, .ref 67), (1, .int x1), (2, .int x2)]) (st2 := [.ref 67]) (h2 := (sh_rep m11.T m11.I m11.J)) rfl rfl rfl ?_
        refine sh_w (i := (.iconst 2)) (len := 1) (pc2 := 112) (lv2 := [(0, .ref 67), (1, .int x1), (2, .int x2)]) (st2 := [.int 2, .ref 67]) (h2 := (sh_rep m11.T m11.I m11.J)) rfl rfl rfl ?_
        refine sh_w (i := (.aload_n 0)) (len := 1) (pc2 := 113) (lv2 := [(0, .ref 67), (1, .int x1), (2, .int x2)]) (st2 := [.ref 67, .int 2, .ref 67]) (h2 := (sh_rep m11.T m11.I m11.J)) rfl rfl rfl ?_
        refine sh_gI1 (len := 3) (x := m11.I 66 93) (pc2 := 116) rfl rfl (sh_s66 hT.st) rfl rfl rfl ?_
        exact kk
      obtain ⟨r5, m15, e5, e⟩ := sh_bn_e e
      refine sh_Lk_cV (r := (some (.int (sh_b2 r5)))) (st2 := [.int (sh_b2 r5)]) (pc2 := 119) (k2 := 252) (a := 66) (as := [.ref 67, .int 2, .int (m11.I 66 93)]) (rest := []) rfl rfl rfl (fun hT => (sh_s66 hT.st)) rfl rfl ⟨Nat.le_of_ble_eq_true rfl, Nat.le_of_ble_eq_true rfl⟩ (sl_252 e5 ⟨rfl, rfl⟩) rfl rfl (Nat.le_of_ble_eq_true rfl) (Nat.le_of_ble_eq_true rfl) ?_
      obtain rfl := Option.some.inj e
      obtain ⟨rfl, rfl⟩ := tg
      exact sh_Lk_ret (i := .ireturn) rfl rfl (sh_rb rfl _) (Nat.le_of_ble_eq_true rfl) (Nat.le_of_ble_eq_true rfl)
  · refine sh_Lk_lift (T := m11.T) (I := m11.I) (J := m11.J) (s := m11.s) (pc2 := 97) (lv2 := [(0, .ref 67), (1, .int x1), (2, .int x2)]) (st2 := [.int 0]) (I2 := m11.I) (J2 := m11.J) (fun hT v kk => ?_) ?_
    · refine sh_j0 (c := .ne) (off := (5)) (pc2 := 96) false rfl (sh_Znef c) rfl ?_
      refine sh_w (i := (.iconst 0)) (len := 1) (pc2 := 97) (lv2 := [(0, .ref 67), (1, .int x1), (2, .int x2)]) (st2 := [.int 0]) (h2 := (sh_rep m11.T m11.I m11.J)) rfl rfl rfl ?_
      exact kk
    obtain rfl := Option.some.inj e
    obtain ⟨rfl, rfl⟩ := tg
    exact sh_Lk_ret (i := .ireturn) rfl rfl rfl (Nat.le_of_ble_eq_true rfl) (Nat.le_of_ble_eq_true rfl)
theorem sl_329 {x1 : Int32} {m m2 : sh_X} {o : Outcome} {z : (Bool × sh_X)} (e : sf_329 x1 m = some z) (tg : (sh_tZ o m2) z) : sh_Lk 329 0 [(0, .ref 67), (1, .int x1)] [] m o m2 31 622 := by
  unfold sf_329 at e
  refine sh_Lk_lift (T := m.T) (I := m.I) (J := m.J) (s := m.s) (pc2 := 5) (lv2 := [(0, .ref 67), (1, .int x1)]) (st2 := [.int 32, .int 2, .int 1, .ref 67]) (I2 := m.I) (J2 := m.J) (fun hT v kk => ?_) ?_
  · refine sh_w (i := (.aload_n 0)) (len := 1) (pc2 := 1) (lv2 := [(0, .ref 67), (1, .int x1)]) (st2 := [.ref 67]) (h2 := (sh_rep m.T m.I m.J)) rfl rfl rfl ?_
    refine sh_w (i := (.iconst 1)) (len := 1) (pc2 := 2) (lv2 := [(0, .ref 67), (1, .int x1)]) (st2 := [.int 1, .ref 67]) (h2 := (sh_rep m.T m.I m.J)) rfl rfl rfl ?_
    refine sh_w (i := (.iconst 2)) (len := 1) (pc2 := 3) (lv2 := [(0, .ref 67), (1, .int x1)]) (st2 := [.int 2, .int 1, .ref 67]) (h2 := (sh_rep m.T m.I m.J)) rfl rfl rfl ?_
    refine sh_w (i := (.bipush 32)) (len := 2) (pc2 := 5) (lv2 := [(0, .ref 67), (1, .int x1)]) (st2 := [.int 32, .int 2, .int 1, .ref 67]) (h2 := (sh_rep m.T m.I m.J)) rfl rfl rfl ?_
    exact kk
  obtain ⟨r1, m11, e1, e⟩ := sh_bn_e e
  refine sh_Lk_cV (r := (some (.int (sh_b2 r1)))) (st2 := [.int (sh_b2 r1)]) (pc2 := 8) (k2 := 325) (a := 66) (as := [.ref 67, .int 1, .int 2, .int 32]) (rest := []) rfl rfl rfl (fun hT => (sh_s66 hT.st)) rfl rfl ⟨Nat.le_of_ble_eq_true rfl, Nat.le_of_ble_eq_true rfl⟩ (sl_325 e1 ⟨rfl, rfl⟩) rfl rfl (Nat.le_of_ble_eq_true rfl) (Nat.le_of_ble_eq_true rfl) ?_
  rcases sh_ite e with ⟨c, e⟩ | ⟨c, e⟩
  · refine sh_Lk_lift (T := m11.T) (I := m11.I) (J := m11.J) (s := m11.s) (pc2 := 23) (lv2 := [(2, .int (m11.I 66 92)), (0, .ref 67), (1, .int x1)]) (st2 := [.int 32, .int 1, .int 1, .ref 67]) (I2 := m11.I) (J2 := m11.J) (fun hT v kk => ?_) ?_
    · refine sh_j0 (c := .ne) (off := (5)) (pc2 := 13) true rfl (sh_Znet c) rfl ?_
      refine sh_w (i := (.aload_n 0)) (len := 1) (pc2 := 14) (lv2 := [(0, .ref 67), (1, .int x1)]) (st2 := [.ref 67]) (h2 := (sh_rep m11.T m11.I m11.J)) rfl rfl rfl ?_
      refine sh_gI1 (len := 3) (x := m11.I 66 92) (pc2 := 17) rfl rfl (sh_s66 hT.st) rfl rfl rfl ?_
      refine sh_w (i := (.istore_n 2)) (len := 1) (pc2 := 18) (lv2 := [(2, .int (m11.I 66 92)), (0, .ref 67), (1, .int x1)]) (st2 := []) (h2 := (sh_rep m11.T m11.I m11.J)) rfl rfl rfl ?_
      refine sh_w (i := (.aload_n 0)) (len := 1) (pc2 := 19) (lv2 := [(2, .int (m11.I 66 92)), (0, .ref 67), (1, .int x1)]) (st2 := [.ref 67]) (h2 := (sh_rep m11.T m11.I m11.J)) rfl rfl rfl ?_
      refine sh_w (i := (.iconst 1)) (len := 1) (pc2 := 20) (lv2 := [(2, .int (m11.I 66 92)), (0, .ref 67), (1, .int x1)]) (st2 := [.int 1, .ref 67]) (h2 := (sh_rep m11.T m11.I m11.J)) rfl rfl rfl ?_
      refine sh_w (i := (.iconst 1)) (len := 1) (pc2 := 21) (lv2 := [(2, .int (m11.I 66 92)), (0, .ref 67), (1, .int x1)]) (st2 := [.int 1, .int 1, .ref 67]) (h2 := (sh_rep m11.T m11.I m11.J)) rfl rfl rfl ?_
      refine sh_w (i := (.bipush 32)) (len := 2) (pc2 := 23) (lv2 := [(2, .int (m11.I 66 92)), (0, .ref 67), (1, .int x1)]) (st2 := [.int 32, .int 1, .int 1, .ref 67]) (h2 := (sh_rep m11.T m11.I m11.J)) rfl rfl rfl ?_
      exact kk
    obtain ⟨r2, m12, e2, e⟩ := sh_bn_e e
    refine sh_Lk_cV (r := (some (.int (sh_b2 r2)))) (st2 := [.int (sh_b2 r2)]) (pc2 := 26) (k2 := 325) (a := 66) (as := [.ref 67, .int 1, .int 1, .int 32]) (rest := []) rfl rfl rfl (fun hT => (sh_s66 hT.st)) rfl rfl ⟨Nat.le_of_ble_eq_true rfl, Nat.le_of_ble_eq_true rfl⟩ (sl_325 e2 ⟨rfl, rfl⟩) rfl rfl (Nat.le_of_ble_eq_true rfl) (Nat.le_of_ble_eq_true rfl) ?_
    rcases sh_ite e with ⟨c, e⟩ | ⟨c, e⟩
    · refine sh_Lk_lift (T := m12.T) (I := m12.I) (J := m12.J) (s := m12.s) (pc2 := 30) (lv2 := [(2, .int (m11.I 66 92)), (0, .ref 67), (1, .int x1)]) (st2 := [.ref 67]) (I2 := m12.I) (J2 := m12.J) (fun hT v kk => ?_) ?_
      · refine sh_j0 (c := .eq) (off := (10)) (pc2 := 29) false rfl (sh_Zeqf c) rfl ?_
        refine sh_w (i := (.aload_n 0)) (len := 1) (pc2 := 30) (lv2 := [(2, .int (m11.I 66 92)), (0, .ref 67), (1, .int x1)]) (st2 := [.ref 67]) (h2 := (sh_rep m12.T m12.I m12.J)) rfl rfl rfl ?_
        exact kk
      obtain ⟨r3, m13, e3, e⟩ := sh_bn_e e
      refine sh_Lk_cV (r := (some (.int (sh_b2 r3)))) (st2 := [.int (sh_b2 r3)]) (pc2 := 33) (k2 := 330) (a := 66) (as := [.ref 67]) (rest := []) rfl rfl rfl (fun hT => (sh_s66 hT.st)) rfl rfl ⟨Nat.le_of_ble_eq_true rfl, Nat.le_of_ble_eq_true rfl⟩ (sl_330 e3 ⟨rfl, rfl⟩) rfl rfl (Nat.le_of_ble_eq_true rfl) (Nat.le_of_ble_eq_true rfl) ?_
      rcases sh_ite e with ⟨c, e⟩ | ⟨c, e⟩
      · refine sh_Lk_lift (T := m13.T) (I := m13.I) (J := m13.J) (s := m13.s) (pc2 := 47) (lv2 := [(2, .int (m11.I 66 92)), (0, .ref 67), (1, .int x1)]) (st2 := [.int (m13.I 66 92), .int x1, .ref 119]) (I2 := m13.I) (J2 := m13.J) (fun hT v kk => ?_) ?_
        · refine sh_j0 (c := .ne) (off := (5)) (pc2 := 38) true rfl (sh_Znet c) rfl ?_
          refine sh_w (i := (.aload_n 0)) (len := 1) (pc2 := 39) (lv2 := [(2, .int (m11.I 66 92)), (0, .ref 67), (1, .int x1)]) (st2 := [.ref 67]) (h2 := (sh_rep m13.T m13.I m13.J)) rfl rfl rfl ?_
          refine sh_gR1 (len := 3) (x := .ref 119) (pc2 := 42) rfl rfl (sh_s66 hT.st) rfl rfl ?_
          refine sh_w (i := (.iload_n 1)) (len := 1) (pc2 := 43) (lv2 := [(2, .int (m11.I 66 92)), (0, .ref 67), (1, .int x1)]) (st2 := [.int x1, .ref 119]) (h2 := (sh_rep m13.T m13.I m13.J)) rfl rfl rfl ?_
          refine sh_w (i := (.aload_n 0)) (len := 1) (pc2 := 44) (lv2 := [(2, .int (m11.I 66 92)), (0, .ref 67), (1, .int x1)]) (st2 := [.ref 67, .int x1, .ref 119]) (h2 := (sh_rep m13.T m13.I m13.J)) rfl rfl rfl ?_
          refine sh_gI1 (len := 3) (x := m13.I 66 92) (pc2 := 47) rfl rfl (sh_s66 hT.st) rfl rfl rfl ?_
          exact kk
        obtain ⟨c, e⟩ := sh_gd e
        refine sh_Lk_lift (T := m13.T) (I := m13.I) (J := m13.J) (s := m13.s) (pc2 := 57) (lv2 := [(2, .int (m11.I 66 92)), (0, .ref 67), (1, .int x1)]) (st2 := [.int (m13.I 66 92), .int x1, .ref 120]) (I2 := sh_u2 m13.I 118 (Int32.toNatClampNeg x1) (m13.I 66 92)) (J2 := m13.J) (fun hT v kk => ?_) ?_
        · refine sh_is1 (x := m13.I 66 92) (i := x1) (pc2 := 48) rfl (sh_s118 hT.st) (sh_okb1 c) (sh_okb2 c) rfl ?_
          refine sh_w (i := (.aload_n 0)) (len := 1) (pc2 := 49) (lv2 := [(2, .int (m11.I 66 92)), (0, .ref 67), (1, .int x1)]) (st2 := [.ref 67]) (h2 := (sh_rep m13.T (sh_u2 m13.I 118 (Int32.toNatClampNeg x1) (m13.I 66 92)) m13.J)) rfl rfl rfl ?_
          refine sh_gR1 (len := 3) (x := .ref 120) (pc2 := 52) rfl rfl (sh_s66 hT.st) rfl rfl ?_
          refine sh_w (i := (.iload_n 1)) (len := 1) (pc2 := 53) (lv2 := [(2, .int (m11.I 66 92)), (0, .ref 67), (1, .int x1)]) (st2 := [.int x1, .ref 120]) (h2 := (sh_rep m13.T (sh_u2 m13.I 118 (Int32.toNatClampNeg x1) (m13.I 66 92)) m13.J)) rfl rfl rfl ?_
          refine sh_w (i := (.aload_n 0)) (len := 1) (pc2 := 54) (lv2 := [(2, .int (m11.I 66 92)), (0, .ref 67), (1, .int x1)]) (st2 := [.ref 67, .int x1, .ref 120]) (h2 := (sh_rep m13.T (sh_u2 m13.I 118 (Int32.toNatClampNeg x1) (m13.I 66 92)) m13.J)) rfl rfl rfl ?_
          refine sh_gI1 (len := 3) (x := m13.I 66 92) (pc2 := 57) rfl rfl (sh_s66 hT.st) rfl rfl rfl ?_
          exact kk
        obtain ⟨c, e⟩ := sh_gd e
        refine sh_Lk_lift (T := m13.T) (I := sh_u2 m13.I 118 (Int32.toNatClampNeg x1) (m13.I 66 92)) (J := m13.J) (s := m13.s) (pc2 := 60) (lv2 := [(2, .int (m11.I 66 92)), (0, .ref 67), (1, .int x1)]) (st2 := [.int 2, .int (m11.I 66 92)]) (I2 := sh_u2 (sh_u2 m13.I 118 (Int32.toNatClampNeg x1) (m13.I 66 92)) 119 (Int32.toNatClampNeg x1) (m13.I 66 92)) (J2 := m13.J) (fun hT v kk => ?_) ?_
        · refine sh_is1 (x := m13.I 66 92) (i := x1) (pc2 := 58) rfl (sh_s119 hT.st) (sh_okb1 c) (sh_okb2 c) rfl ?_
          refine sh_w (i := (.iload_n 2)) (len := 1) (pc2 := 59) (lv2 := [(2, .int (m11.I 66 92)), (0, .ref 67), (1, .int x1)]) (st2 := [.int (m11.I 66 92)]) (h2 := (sh_rep m13.T (sh_u2 (sh_u2 m13.I 118 (Int32.toNatClampNeg x1) (m13.I 66 92)) 119 (Int32.toNatClampNeg x1) (m13.I 66 92)) m13.J)) rfl rfl rfl ?_
          refine sh_w (i := (.iconst 2)) (len := 1) (pc2 := 60) (lv2 := [(2, .int (m11.I 66 92)), (0, .ref 67), (1, .int x1)]) (st2 := [.int 2, .int (m11.I 66 92)]) (h2 := (sh_rep m13.T (sh_u2 (sh_u2 m13.I 118 (Int32.toNatClampNeg x1) (m13.I 66 92)) 119 (Int32.toNatClampNeg x1) (m13.I 66 92)) m13.J)) rfl rfl rfl ?_
          exact kk
        rcases sh_ite e with ⟨c, e⟩ | ⟨c, e⟩
        · refine sh_Lk_lift (T := m13.T) (I := sh_u2 (sh_u2 m13.I 118 (Int32.toNatClampNeg x1) (m13.I 66 92)) 119 (Int32.toNatClampNeg x1) (m13.I 66 92)) (J := m13.J) (s := m13.s) (pc2 := 64) (lv2 := [(2, .int (m11.I 66 92)), (0, .ref 67), (1, .int x1)]) (st2 := [.ref 67]) (I2 := sh_u2 (sh_u2 m13.I 118 (Int32.toNatClampNeg x1) (m13.I 66 92)) 119 (Int32.toNatClampNeg x1) (m13.I 66 92)) (J2 := m13.J) (fun hT v kk => ?_) ?_
          · refine sh_jc (c := .ne) (off := (22)) (pc2 := 63) false rfl (sh_Bnef c) rfl ?_
            refine sh_w (i := (.aload_n 0)) (len := 1) (pc2 := 64) (lv2 := [(2, .int (m11.I 66 92)), (0, .ref 67), (1, .int x1)]) (st2 := [.ref 67]) (h2 := (sh_rep m13.T (sh_u2 (sh_u2 m13.I 118 (Int32.toNatClampNeg x1) (m13.I 66 92)) 119 (Int32.toNatClampNeg x1) (m13.I 66 92)) m13.J)) rfl rfl rfl ?_
            exact kk
          obtain ⟨r4, m14, e4, e⟩ := sh_bn_e e
          refine sh_Lk_cV (r := (some (.int (sh_b2 r4)))) (st2 := [.int (sh_b2 r4)]) (pc2 := 67) (k2 := 330) (a := 66) (as := [.ref 67]) (rest := []) rfl rfl rfl (fun hT => (sh_s66 hT.st)) rfl rfl ⟨Nat.le_of_ble_eq_true rfl, Nat.le_of_ble_eq_true rfl⟩ (sl_330 e4 ⟨rfl, rfl⟩) rfl rfl (Nat.le_of_ble_eq_true rfl) (Nat.le_of_ble_eq_true rfl) ?_
          rcases sh_ite e with ⟨c, e⟩ | ⟨c, e⟩
          · refine sh_Lk_lift (T := m14.T) (I := m14.I) (J := m14.J) (s := m14.s) (pc2 := 81) (lv2 := [(2, .int (m11.I 66 92)), (0, .ref 67), (1, .int x1)]) (st2 := [.int (m14.I 66 92), .int x1, .ref 120]) (I2 := m14.I) (J2 := m14.J) (fun hT v kk => ?_) ?_
            · refine sh_j0 (c := .ne) (off := (5)) (pc2 := 72) true rfl (sh_Znet c) rfl ?_
              refine sh_w (i := (.aload_n 0)) (len := 1) (pc2 := 73) (lv2 := [(2, .int (m11.I 66 92)), (0, .ref 67), (1, .int x1)]) (st2 := [.ref 67]) (h2 := (sh_rep m14.T m14.I m14.J)) rfl rfl rfl ?_
              refine sh_gR1 (len := 3) (x := .ref 120) (pc2 := 76) rfl rfl (sh_s66 hT.st) rfl rfl ?_
              refine sh_w (i := (.iload_n 1)) (len := 1) (pc2 := 77) (lv2 := [(2, .int (m11.I 66 92)), (0, .ref 67), (1, .int x1)]) (st2 := [.int x1, .ref 120]) (h2 := (sh_rep m14.T m14.I m14.J)) rfl rfl rfl ?_
              refine sh_w (i := (.aload_n 0)) (len := 1) (pc2 := 78) (lv2 := [(2, .int (m11.I 66 92)), (0, .ref 67), (1, .int x1)]) (st2 := [.ref 67, .int x1, .ref 120]) (h2 := (sh_rep m14.T m14.I m14.J)) rfl rfl rfl ?_
              refine sh_gI1 (len := 3) (x := m14.I 66 92) (pc2 := 81) rfl rfl (sh_s66 hT.st) rfl rfl rfl ?_
              exact kk
            obtain ⟨c, e⟩ := sh_gd e
            refine sh_Lk_lift (T := m14.T) (I := m14.I) (J := m14.J) (s := m14.s) (pc2 := 82) (lv2 := [(2, .int (m11.I 66 92)), (0, .ref 67), (1, .int x1)]) (st2 := []) (I2 := sh_u2 m14.I 119 (Int32.toNatClampNeg x1) (m14.I 66 92)) (J2 := m14.J) (fun hT v kk => ?_) ?_
            · refine sh_is1 (x := m14.I 66 92) (i := x1) (pc2 := 82) rfl (sh_s119 hT.st) (sh_okb1 c) (sh_okb2 c) rfl ?_
              exact kk
            exact sh_Lk_sub (sh_sub_c rfl (sh_sub_c rfl (sh_sub_c rfl (sh_sub_n)))) (sl_329_82 e tg)
          · refine sh_Lk_lift (T := m14.T) (I := m14.I) (J := m14.J) (s := m14.s) (pc2 := 71) (lv2 := [(2, .int (m11.I 66 92)), (0, .ref 67), (1, .int x1)]) (st2 := [.int 0]) (I2 := m14.I) (J2 := m14.J) (fun hT v kk => ?_) ?_
            · refine sh_j0 (c := .ne) (off := (5)) (pc2 := 70) false rfl (sh_Znef c) rfl ?_
              refine sh_w (i := (.iconst 0)) (len := 1) (pc2 := 71) (lv2 := [(2, .int (m11.I 66 92)), (0, .ref 67), (1, .int x1)]) (st2 := [.int 0]) (h2 := (sh_rep m14.T m14.I m14.J)) rfl rfl rfl ?_
              exact kk
            obtain rfl := Option.some.inj e
            obtain ⟨rfl, rfl⟩ := tg
            exact sh_Lk_ret (i := .ireturn) rfl rfl rfl (Nat.le_of_ble_eq_true rfl) (Nat.le_of_ble_eq_true rfl)
        · refine sh_Lk_lift (T := m13.T) (I := sh_u2 (sh_u2 m13.I 118 (Int32.toNatClampNeg x1) (m13.I 66 92)) 119 (Int32.toNatClampNeg x1) (m13.I 66 92)) (J := m13.J) (s := m13.s) (pc2 := 82) (lv2 := [(2, .int (m11.I 66 92)), (0, .ref 67), (1, .int x1)]) (st2 := []) (I2 := sh_u2 (sh_u2 m13.I 118 (Int32.toNatClampNeg x1) (m13.I 66 92)) 119 (Int32.toNatClampNeg x1) (m13.I 66 92)) (J2 := m13.J) (fun hT v kk => ?_) ?_
          · refine sh_jc (c := .ne) (off := (22)) (pc2 := 82) true rfl (sh_Bnet c) rfl ?_
            exact kk
          exact sh_Lk_sub (sh_sub_c rfl (sh_sub_c rfl (sh_sub_c rfl (sh_sub_n)))) (sl_329_82 e tg)
      · refine sh_Lk_lift (T := m13.T) (I := m13.I) (J := m13.J) (s := m13.s) (pc2 := 37) (lv2 := [(2, .int (m11.I 66 92)), (0, .ref 67), (1, .int x1)]) (st2 := [.int 0]) (I2 := m13.I) (J2 := m13.J) (fun hT v kk => ?_) ?_
        · refine sh_j0 (c := .ne) (off := (5)) (pc2 := 36) false rfl (sh_Znef c) rfl ?_
          refine sh_w (i := (.iconst 0)) (len := 1) (pc2 := 37) (lv2 := [(2, .int (m11.I 66 92)), (0, .ref 67), (1, .int x1)]) (st2 := [.int 0]) (h2 := (sh_rep m13.T m13.I m13.J)) rfl rfl rfl ?_
          exact kk
        obtain rfl := Option.some.inj e
        obtain ⟨rfl, rfl⟩ := tg
        exact sh_Lk_ret (i := .ireturn) rfl rfl rfl (Nat.le_of_ble_eq_true rfl) (Nat.le_of_ble_eq_true rfl)
    · refine sh_Lk_lift (T := m12.T) (I := m12.I) (J := m12.J) (s := m12.s) (pc2 := 37) (lv2 := [(2, .int (m11.I 66 92)), (0, .ref 67), (1, .int x1)]) (st2 := [.int 0]) (I2 := m12.I) (J2 := m12.J) (fun hT v kk => ?_) ?_
      · refine sh_j0 (c := .eq) (off := (10)) (pc2 := 36) true rfl (sh_Zeqt c) rfl ?_
        refine sh_w (i := (.iconst 0)) (len := 1) (pc2 := 37) (lv2 := [(2, .int (m11.I 66 92)), (0, .ref 67), (1, .int x1)]) (st2 := [.int 0]) (h2 := (sh_rep m12.T m12.I m12.J)) rfl rfl rfl ?_
        exact kk
      obtain rfl := Option.some.inj e
      obtain ⟨rfl, rfl⟩ := tg
      exact sh_Lk_ret (i := .ireturn) rfl rfl rfl (Nat.le_of_ble_eq_true rfl) (Nat.le_of_ble_eq_true rfl)
  · refine sh_Lk_lift (T := m11.T) (I := m11.I) (J := m11.J) (s := m11.s) (pc2 := 12) (lv2 := [(0, .ref 67), (1, .int x1)]) (st2 := [.int 0]) (I2 := m11.I) (J2 := m11.J) (fun hT v kk => ?_) ?_
    · refine sh_j0 (c := .ne) (off := (5)) (pc2 := 11) false rfl (sh_Znef c) rfl ?_
      refine sh_w (i := (.iconst 0)) (len := 1) (pc2 := 12) (lv2 := [(0, .ref 67), (1, .int x1)]) (st2 := [.int 0]) (h2 := (sh_rep m11.T m11.I m11.J)) rfl rfl rfl ?_
      exact kk
    obtain rfl := Option.some.inj e
    obtain ⟨rfl, rfl⟩ := tg
    exact sh_Lk_ret (i := .ireturn) rfl rfl rfl (Nat.le_of_ble_eq_true rfl) (Nat.le_of_ble_eq_true rfl)
theorem sl_324_265 {x1 : Int32} {y1 : Int32} {y2 : Bool} {m m2 : sh_X} {o : Outcome} {z : ((Int32 × sh_X) ⊕ (Bool × sh_X))} (e : sf_324_265 x1 y1 y2 m = some z) (tg : (sh_el (fun q => sh_Lk 324 231 [(0, .ref 67), (1, .int q.1)] [] q.2 o m2 32 644) (sh_tZ o m2)) z) : sh_Lk 324 265 [(0, .ref 67), (1, .int x1)] [.int (sh_b2 y2), .int y1, .ref 124] m o m2 32 644 := by
  unfold sf_324_265 at e
  obtain ⟨c, e⟩ := sh_gd e
  refine sh_Lk_lift (T := m.T) (I := m.I) (J := m.J) (s := m.s) (pc2 := 231) (lv2 := [(1, .int (x1 + 1)), (0, .ref 67)]) (st2 := []) (I2 := sh_u2 m.I 123 (Int32.toNatClampNeg y1) (vp_nar .boolean (sh_b2 y2))) (J2 := m.J) (fun hT v kk => ?_) ?_
  · refine sh_zs1 (x := sh_b2 y2) (y := vp_nar .boolean (sh_b2 y2)) (i := y1) (pc2 := 266) rfl (sh_s123 hT.st) (sh_okb1 c) (sh_okb2 c) rfl rfl ?_
    refine sh_w (i := (.iinc 1 1)) (len := 3) (pc2 := 269) (lv2 := [(1, .int (x1 + 1)), (0, .ref 67)]) (st2 := []) (h2 := (sh_rep m.T (sh_u2 m.I 123 (Int32.toNatClampNeg y1) (vp_nar .boolean (sh_b2 y2))) m.J)) rfl rfl rfl ?_
    refine sh_w (i := (.goto (-38))) (len := 3) (pc2 := 231) (lv2 := [(1, .int (x1 + 1)), (0, .ref 67)]) (st2 := []) (h2 := (sh_rep m.T (sh_u2 m.I 123 (Int32.toNatClampNeg y1) (vp_nar .boolean (sh_b2 y2))) m.J)) rfl rfl rfl ?_
    exact kk
  obtain rfl := Option.some.inj e
  exact sh_Lk_sub (sh_sub_c rfl (sh_sub_c rfl (sh_sub_n))) tg
theorem sl_324_431 {x1 : Int32} {x2 : Int32} {y1 : Int32} {y2 : Bool} {y3 : Int32} {m m2 : sh_X} {o : Outcome} {z : ((Int32 × sh_X) ⊕ ((Int32 × sh_X) ⊕ (Bool × sh_X)))} (e : sf_324_431 x1 x2 y1 y2 y3 m = some z) (tg : (sh_el (fun q => sh_Lk 324 392 [(0, .ref 67), (1, .int x1), (2, .int q.1)] [] q.2 o m2 32 644) (sh_el (fun q => sh_Lk 324 371 [(0, .ref 67), (1, .int q.1)] [] q.2 o m2 32 644) (sh_tZ o m2))) z) : sh_Lk 324 431 [(0, .ref 67), (1, .int x1), (2, .int x2)] [.int y3, .int (sh_b2 y2), .int y1, .ref 67] m o m2 32 644 := by
  unfold sf_324_431 at e
  obtain ⟨r1, m11, e1, e⟩ := sh_bn_e e
  refine sh_Lk_cV (r := none) (st2 := []) (pc2 := 434) (k2 := 289) (a := 66) (as := [.ref 67, .int y1, .int (sh_b2 y2), .int y3]) (rest := []) rfl rfl rfl (fun hT => (sh_s66 hT.st)) rfl rfl ⟨Nat.le_of_ble_eq_true rfl, Nat.le_of_ble_eq_true rfl⟩ (sl_289 e1 ⟨rfl, rfl⟩) rfl rfl (Nat.le_of_ble_eq_true rfl) (Nat.le_of_ble_eq_true rfl) ?_
  refine sh_Lk_lift (T := m11.T) (I := m11.I) (J := m11.J) (s := m11.s) (pc2 := 392) (lv2 := [(2, .int (x2 + 64)), (0, .ref 67), (1, .int x1)]) (st2 := []) (I2 := m11.I) (J2 := m11.J) (fun hT v kk => ?_) ?_
  · refine sh_w (i := (.iinc 2 64)) (len := 3) (pc2 := 437) (lv2 := [(2, .int (x2 + 64)), (0, .ref 67), (1, .int x1)]) (st2 := []) (h2 := (sh_rep m11.T m11.I m11.J)) rfl rfl rfl ?_
    refine sh_w (i := (.goto (-45))) (len := 3) (pc2 := 392) (lv2 := [(2, .int (x2 + 64)), (0, .ref 67), (1, .int x1)]) (st2 := []) (h2 := (sh_rep m11.T m11.I m11.J)) rfl rfl rfl ?_
    exact kk
  obtain rfl := Option.some.inj e
  exact sh_Lk_sub (sh_sub_c rfl (sh_sub_c rfl (sh_sub_c rfl (sh_sub_n)))) tg
theorem sl_324_392s {x1 : Int32} {x2 : Int32} {m m2 : sh_X} {o : Outcome} {z : ((Int32 × sh_X) ⊕ ((Int32 × sh_X) ⊕ (Bool × sh_X)))} (e : sf_324_392s x1 x2 m = some z) (tg : (sh_el (fun q => sh_Lk 324 392 [(0, .ref 67), (1, .int x1), (2, .int q.1)] [] q.2 o m2 32 644) (sh_el (fun q => sh_Lk 324 371 [(0, .ref 67), (1, .int q.1)] [] q.2 o m2 32 644) (sh_tZ o m2))) z) : sh_Lk 324 392 [(0, .ref 67), (1, .int x1), (2, .int x2)] [] m o m2 32 644 := by
  unfold sf_324_392s at e
  refine sh_Lk_lift (T := m.T) (I := m.I) (J := m.J) (s := m.s) (pc2 := 398) (lv2 := [(0, .ref 67), (1, .int x1), (2, .int x2)]) (st2 := [.int x1, .ref 122, .int x2]) (I2 := m.I) (J2 := m.J) (fun hT v kk => ?_) ?_
  · refine sh_w (i := (.iload_n 2)) (len := 1) (pc2 := 393) (lv2 := [(0, .ref 67), (1, .int x1), (2, .int x2)]) (st2 := [.int x2]) (h2 := (sh_rep m.T m.I m.J)) rfl rfl rfl ?_
    refine sh_w (i := (.aload_n 0)) (len := 1) (pc2 := 394) (lv2 := [(0, .ref 67), (1, .int x1), (2, .int x2)]) (st2 := [.ref 67, .int x2]) (h2 := (sh_rep m.T m.I m.J)) rfl rfl rfl ?_
    refine sh_gR1 (len := 3) (x := .ref 122) (pc2 := 397) rfl rfl (sh_s66 hT.st) rfl rfl ?_
    refine sh_w (i := (.iload_n 1)) (len := 1) (pc2 := 398) (lv2 := [(0, .ref 67), (1, .int x1), (2, .int x2)]) (st2 := [.int x1, .ref 122, .int x2]) (h2 := (sh_rep m.T m.I m.J)) rfl rfl rfl ?_
    exact kk
  obtain ⟨c, e⟩ := sh_gd e
  refine sh_Lk_lift (T := m.T) (I := m.I) (J := m.J) (s := m.s) (pc2 := 399) (lv2 := [(0, .ref 67), (1, .int x1), (2, .int x2)]) (st2 := [.int (m.I 121 (Int32.toNatClampNeg x1)), .int x2]) (I2 := m.I) (J2 := m.J) (fun hT v kk => ?_) ?_
  · refine sh_ia1 (x := m.I 121 (Int32.toNatClampNeg x1)) (pc2 := 399) rfl (sh_s121 hT.st) (sh_okb1 c) (sh_okb2 c) rfl rfl ?_
    exact kk
  rcases sh_ite e with ⟨c, e⟩ | ⟨c, e⟩
  · refine sh_Lk_lift (T := m.T) (I := m.I) (J := m.J) (s := m.s) (pc2 := 410) (lv2 := [(0, .ref 67), (1, .int x1), (2, .int x2)]) (st2 := [.int x1, .ref 122, .int 1, .int x1, .ref 67]) (I2 := m.I) (J2 := m.J) (fun hT v kk => ?_) ?_
    · refine sh_jc (c := .ge) (off := (41)) (pc2 := 402) false rfl (sh_Bgef c) rfl ?_
      refine sh_w (i := (.aload_n 0)) (len := 1) (pc2 := 403) (lv2 := [(0, .ref 67), (1, .int x1), (2, .int x2)]) (st2 := [.ref 67]) (h2 := (sh_rep m.T m.I m.J)) rfl rfl rfl ?_
      refine sh_w (i := (.iload_n 1)) (len := 1) (pc2 := 404) (lv2 := [(0, .ref 67), (1, .int x1), (2, .int x2)]) (st2 := [.int x1, .ref 67]) (h2 := (sh_rep m.T m.I m.J)) rfl rfl rfl ?_
      refine sh_w (i := (.iconst 1)) (len := 1) (pc2 := 405) (lv2 := [(0, .ref 67), (1, .int x1), (2, .int x2)]) (st2 := [.int 1, .int x1, .ref 67]) (h2 := (sh_rep m.T m.I m.J)) rfl rfl rfl ?_
      refine sh_w (i := (.aload_n 0)) (len := 1) (pc2 := 406) (lv2 := [(0, .ref 67), (1, .int x1), (2, .int x2)]) (st2 := [.ref 67, .int 1, .int x1, .ref 67]) (h2 := (sh_rep m.T m.I m.J)) rfl rfl rfl ?_
      refine sh_gR1 (len := 3) (x := .ref 122) (pc2 := 409) rfl rfl (sh_s66 hT.st) rfl rfl ?_
      refine sh_w (i := (.iload_n 1)) (len := 1) (pc2 := 410) (lv2 := [(0, .ref 67), (1, .int x1), (2, .int x2)]) (st2 := [.int x1, .ref 122, .int 1, .int x1, .ref 67]) (h2 := (sh_rep m.T m.I m.J)) rfl rfl rfl ?_
      exact kk
    obtain ⟨c, e⟩ := sh_gd e
    refine sh_Lk_lift (T := m.T) (I := m.I) (J := m.J) (s := m.s) (pc2 := 415) (lv2 := [(0, .ref 67), (1, .int x1), (2, .int x2)]) (st2 := [.int 64, .int ((m.I 121 (Int32.toNatClampNeg x1)) - x2), .int 1, .int x1, .ref 67]) (I2 := m.I) (J2 := m.J) (fun hT v kk => ?_) ?_
    · refine sh_ia1 (x := m.I 121 (Int32.toNatClampNeg x1)) (pc2 := 411) rfl (sh_s121 hT.st) (sh_okb1 c) (sh_okb2 c) rfl rfl ?_
      refine sh_w (i := (.iload_n 2)) (len := 1) (pc2 := 412) (lv2 := [(0, .ref 67), (1, .int x1), (2, .int x2)]) (st2 := [.int x2, .int (m.I 121 (Int32.toNatClampNeg x1)), .int 1, .int x1, .ref 67]) (h2 := (sh_rep m.T m.I m.J)) rfl rfl rfl ?_
      refine sh_w (i := .isub) (len := 1) (pc2 := 413) (lv2 := [(0, .ref 67), (1, .int x1), (2, .int x2)]) (st2 := [.int ((m.I 121 (Int32.toNatClampNeg x1)) - x2), .int 1, .int x1, .ref 67]) (h2 := (sh_rep m.T m.I m.J)) rfl rfl rfl ?_
      refine sh_w (i := (.bipush 64)) (len := 2) (pc2 := 415) (lv2 := [(0, .ref 67), (1, .int x1), (2, .int x2)]) (st2 := [.int 64, .int ((m.I 121 (Int32.toNatClampNeg x1)) - x2), .int 1, .int x1, .ref 67]) (h2 := (sh_rep m.T m.I m.J)) rfl rfl rfl ?_
      exact kk
    rcases sh_ite e with ⟨c, e⟩ | ⟨c, e⟩
    · refine sh_Lk_lift (T := m.T) (I := m.I) (J := m.J) (s := m.s) (pc2 := 423) (lv2 := [(0, .ref 67), (1, .int x1), (2, .int x2)]) (st2 := [.int x1, .ref 122, .int 1, .int x1, .ref 67]) (I2 := m.I) (J2 := m.J) (fun hT v kk => ?_) ?_
      · refine sh_jc (c := .ge) (off := (14)) (pc2 := 418) false rfl (sh_Bgef c) rfl ?_
        refine sh_w (i := (.aload_n 0)) (len := 1) (pc2 := 419) (lv2 := [(0, .ref 67), (1, .int x1), (2, .int x2)]) (st2 := [.ref 67, .int 1, .int x1, .ref 67]) (h2 := (sh_rep m.T m.I m.J)) rfl rfl rfl ?_
        refine sh_gR1 (len := 3) (x := .ref 122) (pc2 := 422) rfl rfl (sh_s66 hT.st) rfl rfl ?_
        refine sh_w (i := (.iload_n 1)) (len := 1) (pc2 := 423) (lv2 := [(0, .ref 67), (1, .int x1), (2, .int x2)]) (st2 := [.int x1, .ref 122, .int 1, .int x1, .ref 67]) (h2 := (sh_rep m.T m.I m.J)) rfl rfl rfl ?_
        exact kk
      obtain ⟨c, e⟩ := sh_gd e
      refine sh_Lk_lift (T := m.T) (I := m.I) (J := m.J) (s := m.s) (pc2 := 431) (lv2 := [(0, .ref 67), (1, .int x1), (2, .int x2)]) (st2 := [.int ((m.I 121 (Int32.toNatClampNeg x1)) - x2), .int 1, .int x1, .ref 67]) (I2 := m.I) (J2 := m.J) (fun hT v kk => ?_) ?_
      · refine sh_ia1 (x := m.I 121 (Int32.toNatClampNeg x1)) (pc2 := 424) rfl (sh_s121 hT.st) (sh_okb1 c) (sh_okb2 c) rfl rfl ?_
        refine sh_w (i := (.iload_n 2)) (len := 1) (pc2 := 425) (lv2 := [(0, .ref 67), (1, .int x1), (2, .int x2)]) (st2 := [.int x2, .int (m.I 121 (Int32.toNatClampNeg x1)), .int 1, .int x1, .ref 67]) (h2 := (sh_rep m.T m.I m.J)) rfl rfl rfl ?_
        refine sh_w (i := .isub) (len := 1) (pc2 := 426) (lv2 := [(0, .ref 67), (1, .int x1), (2, .int x2)]) (st2 := [.int ((m.I 121 (Int32.toNatClampNeg x1)) - x2), .int 1, .int x1, .ref 67]) (h2 := (sh_rep m.T m.I m.J)) rfl rfl rfl ?_
        refine sh_w (i := (.goto 5)) (len := 3) (pc2 := 431) (lv2 := [(0, .ref 67), (1, .int x1), (2, .int x2)]) (st2 := [.int ((m.I 121 (Int32.toNatClampNeg x1)) - x2), .int 1, .int x1, .ref 67]) (h2 := (sh_rep m.T m.I m.J)) rfl rfl rfl ?_
        exact kk
      exact sh_Lk_sub (sh_sub_c rfl (sh_sub_c rfl (sh_sub_c rfl (sh_sub_n)))) (sl_324_431 e tg)
    · refine sh_Lk_lift (T := m.T) (I := m.I) (J := m.J) (s := m.s) (pc2 := 431) (lv2 := [(0, .ref 67), (1, .int x1), (2, .int x2)]) (st2 := [.int 64, .int 1, .int x1, .ref 67]) (I2 := m.I) (J2 := m.J) (fun hT v kk => ?_) ?_
      · refine sh_jc (c := .ge) (off := (14)) (pc2 := 429) true rfl (sh_Bget c) rfl ?_
        refine sh_w (i := (.bipush 64)) (len := 2) (pc2 := 431) (lv2 := [(0, .ref 67), (1, .int x1), (2, .int x2)]) (st2 := [.int 64, .int 1, .int x1, .ref 67]) (h2 := (sh_rep m.T m.I m.J)) rfl rfl rfl ?_
        exact kk
      exact sh_Lk_sub (sh_sub_c rfl (sh_sub_c rfl (sh_sub_c rfl (sh_sub_n)))) (sl_324_431 e tg)
  · refine sh_Lk_lift (T := m.T) (I := m.I) (J := m.J) (s := m.s) (pc2 := 371) (lv2 := [(1, .int (x1 + 1)), (0, .ref 67), (2, .int x2)]) (st2 := []) (I2 := m.I) (J2 := m.J) (fun hT v kk => ?_) ?_
    · refine sh_jc (c := .ge) (off := (41)) (pc2 := 440) true rfl (sh_Bget c) rfl ?_
      refine sh_w (i := (.iinc 1 1)) (len := 3) (pc2 := 443) (lv2 := [(1, .int (x1 + 1)), (0, .ref 67), (2, .int x2)]) (st2 := []) (h2 := (sh_rep m.T m.I m.J)) rfl rfl rfl ?_
      refine sh_w (i := (.goto (-72))) (len := 3) (pc2 := 371) (lv2 := [(1, .int (x1 + 1)), (0, .ref 67), (2, .int x2)]) (st2 := []) (h2 := (sh_rep m.T m.I m.J)) rfl rfl rfl ?_
      exact kk
    obtain rfl := Option.some.inj e
    exact sh_Lk_sub (sh_sub_c rfl (sh_sub_c rfl (sh_sub_n))) tg
theorem sl_324_392 {x1 : Int32} {x2 : Int32} {m m2 : sh_X} {o : Outcome} {z : ((Int32 × sh_X) ⊕ (Bool × sh_X))} (e : sf_324_392 x1 x2 m = some z) (tg : (sh_el (fun q => sh_Lk 324 371 [(0, .ref 67), (1, .int q.1)] [] q.2 o m2 32 644) (sh_tZ o m2)) z) : sh_Lk 324 392 [(0, .ref 67), (1, .int x1), (2, .int x2)] [] m o m2 32 644 := by
  unfold sf_324_392 at e
  exact sh_while_lk (P := fun q => sh_Lk 324 392 [(0, .ref 67), (1, .int x1), (2, .int q.1)] [] q.2 o m2 32 644) (Q := (sh_el (fun q => sh_Lk 324 371 [(0, .ref 67), (1, .int q.1)] [] q.2 o m2 32 644) (sh_tZ o m2))) (fun q z e tg => sl_324_392s (x1 := x1) (x2 := q.1) (m := q.2) e tg) (s := (x2, m)) e tg
theorem sl_324_371s {x1 : Int32} {m m2 : sh_X} {o : Outcome} {z : ((Int32 × sh_X) ⊕ (Bool × sh_X))} (e : sf_324_371s x1 m = some z) (tg : (sh_el (fun q => sh_Lk 324 371 [(0, .ref 67), (1, .int q.1)] [] q.2 o m2 32 644) (sh_tZ o m2)) z) : sh_Lk 324 371 [(0, .ref 67), (1, .int x1)] [] m o m2 32 644 := by
  unfold sf_324_371s at e
  refine sh_Lk_lift (T := m.T) (I := m.I) (J := m.J) (s := m.s) (pc2 := 373) (lv2 := [(0, .ref 67), (1, .int x1)]) (st2 := [.int 3, .int x1]) (I2 := m.I) (J2 := m.J) (fun hT v kk => ?_) ?_
  · refine sh_w (i := (.iload_n 1)) (len := 1) (pc2 := 372) (lv2 := [(0, .ref 67), (1, .int x1)]) (st2 := [.int x1]) (h2 := (sh_rep m.T m.I m.J)) rfl rfl rfl ?_
    refine sh_w (i := (.iconst 3)) (len := 1) (pc2 := 373) (lv2 := [(0, .ref 67), (1, .int x1)]) (st2 := [.int 3, .int x1]) (h2 := (sh_rep m.T m.I m.J)) rfl rfl rfl ?_
    exact kk
  rcases sh_ite e with ⟨c, e⟩ | ⟨c, e⟩
  · refine sh_Lk_lift (T := m.T) (I := m.I) (J := m.J) (s := m.s) (pc2 := 382) (lv2 := [(0, .ref 67), (1, .int x1)]) (st2 := [.int 0, .int x1, .ref 100]) (I2 := m.I) (J2 := m.J) (fun hT v kk => ?_) ?_
    · refine sh_jc (c := .ge) (off := (73)) (pc2 := 376) false rfl (sh_Bgef c) rfl ?_
      refine sh_w (i := (.aload_n 0)) (len := 1) (pc2 := 377) (lv2 := [(0, .ref 67), (1, .int x1)]) (st2 := [.ref 67]) (h2 := (sh_rep m.T m.I m.J)) rfl rfl rfl ?_
      refine sh_gR1 (len := 3) (x := .ref 100) (pc2 := 380) rfl rfl (sh_s66 hT.st) rfl rfl ?_
      refine sh_w (i := (.iload_n 1)) (len := 1) (pc2 := 381) (lv2 := [(0, .ref 67), (1, .int x1)]) (st2 := [.int x1, .ref 100]) (h2 := (sh_rep m.T m.I m.J)) rfl rfl rfl ?_
      refine sh_w (i := (.iconst 0)) (len := 1) (pc2 := 382) (lv2 := [(0, .ref 67), (1, .int x1)]) (st2 := [.int 0, .int x1, .ref 100]) (h2 := (sh_rep m.T m.I m.J)) rfl rfl rfl ?_
      exact kk
    obtain ⟨c, e⟩ := sh_gd e
    refine sh_Lk_lift (T := m.T) (I := m.I) (J := m.J) (s := m.s) (pc2 := 389) (lv2 := [(0, .ref 67), (1, .int x1)]) (st2 := [.int 0, .int x1, .ref 103]) (I2 := sh_u2 m.I 99 (Int32.toNatClampNeg x1) 0) (J2 := m.J) (fun hT v kk => ?_) ?_
    · refine sh_is1 (x := 0) (i := x1) (pc2 := 383) rfl (sh_s99 hT.st) (sh_okb1 c) (sh_okb2 c) rfl ?_
      refine sh_w (i := (.aload_n 0)) (len := 1) (pc2 := 384) (lv2 := [(0, .ref 67), (1, .int x1)]) (st2 := [.ref 67]) (h2 := (sh_rep m.T (sh_u2 m.I 99 (Int32.toNatClampNeg x1) 0) m.J)) rfl rfl rfl ?_
      refine sh_gR1 (len := 3) (x := .ref 103) (pc2 := 387) rfl rfl (sh_s66 hT.st) rfl rfl ?_
      refine sh_w (i := (.iload_n 1)) (len := 1) (pc2 := 388) (lv2 := [(0, .ref 67), (1, .int x1)]) (st2 := [.int x1, .ref 103]) (h2 := (sh_rep m.T (sh_u2 m.I 99 (Int32.toNatClampNeg x1) 0) m.J)) rfl rfl rfl ?_
      refine sh_w (i := (.iconst 0)) (len := 1) (pc2 := 389) (lv2 := [(0, .ref 67), (1, .int x1)]) (st2 := [.int 0, .int x1, .ref 103]) (h2 := (sh_rep m.T (sh_u2 m.I 99 (Int32.toNatClampNeg x1) 0) m.J)) rfl rfl rfl ?_
      exact kk
    obtain ⟨c, e⟩ := sh_gd e
    refine sh_Lk_lift (T := m.T) (I := sh_u2 m.I 99 (Int32.toNatClampNeg x1) 0) (J := m.J) (s := m.s) (pc2 := 392) (lv2 := [(2, .int 0), (0, .ref 67), (1, .int x1)]) (st2 := []) (I2 := sh_u2 (sh_u2 m.I 99 (Int32.toNatClampNeg x1) 0) 102 (Int32.toNatClampNeg x1) 0) (J2 := m.J) (fun hT v kk => ?_) ?_
    · refine sh_is1 (x := 0) (i := x1) (pc2 := 390) rfl (sh_s102 hT.st) (sh_okb1 c) (sh_okb2 c) rfl ?_
      refine sh_w (i := (.iconst 0)) (len := 1) (pc2 := 391) (lv2 := [(0, .ref 67), (1, .int x1)]) (st2 := [.int 0]) (h2 := (sh_rep m.T (sh_u2 (sh_u2 m.I 99 (Int32.toNatClampNeg x1) 0) 102 (Int32.toNatClampNeg x1) 0) m.J)) rfl rfl rfl ?_
      refine sh_w (i := (.istore_n 2)) (len := 1) (pc2 := 392) (lv2 := [(2, .int 0), (0, .ref 67), (1, .int x1)]) (st2 := []) (h2 := (sh_rep m.T (sh_u2 (sh_u2 m.I 99 (Int32.toNatClampNeg x1) 0) 102 (Int32.toNatClampNeg x1) 0) m.J)) rfl rfl rfl ?_
      exact kk
    exact sh_Lk_sub (sh_sub_c rfl (sh_sub_c rfl (sh_sub_c rfl (sh_sub_n)))) (sl_324_392 e tg)
  · refine sh_Lk_lift (T := m.T) (I := m.I) (J := m.J) (s := m.s) (pc2 := 447) (lv2 := [(0, .ref 67), (1, .int x1)]) (st2 := [.int 1]) (I2 := m.I) (J2 := m.J) (fun hT v kk => ?_) ?_
    · refine sh_jc (c := .ge) (off := (73)) (pc2 := 446) true rfl (sh_Bget c) rfl ?_
      refine sh_w (i := (.iconst 1)) (len := 1) (pc2 := 447) (lv2 := [(0, .ref 67), (1, .int x1)]) (st2 := [.int 1]) (h2 := (sh_rep m.T m.I m.J)) rfl rfl rfl ?_
      exact kk
    obtain rfl := Option.some.inj e
    obtain ⟨rfl, rfl⟩ := tg
    exact sh_Lk_ret (i := .ireturn) rfl rfl rfl (Nat.le_of_ble_eq_true rfl) (Nat.le_of_ble_eq_true rfl)
theorem sl_324_371 {x1 : Int32} {m m2 : sh_X} {o : Outcome} {z : (Bool × sh_X)} (e : sf_324_371 x1 m = some z) (tg : (sh_tZ o m2) z) : sh_Lk 324 371 [(0, .ref 67), (1, .int x1)] [] m o m2 32 644 := by
  unfold sf_324_371 at e
  exact sh_while_lk (P := fun q => sh_Lk 324 371 [(0, .ref 67), (1, .int q.1)] [] q.2 o m2 32 644) (Q := (sh_tZ o m2)) (fun q z e tg => sl_324_371s (x1 := q.1) (m := q.2) e tg) (s := (x1, m)) e tg
theorem sl_324_336s {x1 : Int32} {m m2 : sh_X} {o : Outcome} {z : ((Int32 × sh_X) ⊕ (Bool × sh_X))} (e : sf_324_336s x1 m = some z) (tg : (sh_el (fun q => sh_Lk 324 336 [(0, .ref 67), (1, .int q.1)] [] q.2 o m2 32 644) (sh_tZ o m2)) z) : sh_Lk 324 336 [(0, .ref 67), (1, .int x1)] [] m o m2 32 644 := by
  unfold sf_324_336s at e
  refine sh_Lk_lift (T := m.T) (I := m.I) (J := m.J) (s := m.s) (pc2 := 341) (lv2 := [(0, .ref 67), (1, .int x1)]) (st2 := [.int (m.I 66 86), .int x1]) (I2 := m.I) (J2 := m.J) (fun hT v kk => ?_) ?_
  · refine sh_w (i := (.iload_n 1)) (len := 1) (pc2 := 337) (lv2 := [(0, .ref 67), (1, .int x1)]) (st2 := [.int x1]) (h2 := (sh_rep m.T m.I m.J)) rfl rfl rfl ?_
    refine sh_w (i := (.aload_n 0)) (len := 1) (pc2 := 338) (lv2 := [(0, .ref 67), (1, .int x1)]) (st2 := [.ref 67, .int x1]) (h2 := (sh_rep m.T m.I m.J)) rfl rfl rfl ?_
    refine sh_gI1 (len := 3) (x := m.I 66 86) (pc2 := 341) rfl rfl (sh_s66 hT.st) rfl rfl rfl ?_
    exact kk
  rcases sh_ite e with ⟨c, e⟩ | ⟨c, e⟩
  · refine sh_Lk_lift (T := m.T) (I := m.I) (J := m.J) (s := m.s) (pc2 := 349) (lv2 := [(0, .ref 67), (1, .int x1)]) (st2 := [.int x1, .ref 124]) (I2 := m.I) (J2 := m.J) (fun hT v kk => ?_) ?_
    · refine sh_jc (c := .ge) (off := (28)) (pc2 := 344) false rfl (sh_Bgef c) rfl ?_
      refine sh_w (i := (.aload_n 0)) (len := 1) (pc2 := 345) (lv2 := [(0, .ref 67), (1, .int x1)]) (st2 := [.ref 67]) (h2 := (sh_rep m.T m.I m.J)) rfl rfl rfl ?_
      refine sh_gR1 (len := 3) (x := .ref 124) (pc2 := 348) rfl rfl (sh_s66 hT.st) rfl rfl ?_
      refine sh_w (i := (.iload_n 1)) (len := 1) (pc2 := 349) (lv2 := [(0, .ref 67), (1, .int x1)]) (st2 := [.int x1, .ref 124]) (h2 := (sh_rep m.T m.I m.J)) rfl rfl rfl ?_
      exact kk
    obtain ⟨c, e⟩ := sh_gd e
    refine sh_Lk_lift (T := m.T) (I := m.I) (J := m.J) (s := m.s) (pc2 := 350) (lv2 := [(0, .ref 67), (1, .int x1)]) (st2 := [.int (m.I 123 (Int32.toNatClampNeg x1))]) (I2 := m.I) (J2 := m.J) (fun hT v kk => ?_) ?_
    · refine sh_ba1 (x := m.I 123 (Int32.toNatClampNeg x1)) (pc2 := 350) rfl (sh_s123 hT.st) (Or.inr rfl) (sh_okb1 c) (sh_okb2 c) rfl rfl ?_
      exact kk
    rcases sh_ite e with ⟨c, e⟩ | ⟨c, e⟩
    · refine sh_Lk_lift (T := m.T) (I := m.I) (J := m.J) (s := m.s) (pc2 := 359) (lv2 := [(0, .ref 67), (1, .int x1)]) (st2 := [.int (m.I 66 3), .int 2, .ref 67]) (I2 := m.I) (J2 := m.J) (fun hT v kk => ?_) ?_
      · refine sh_j0 (c := .ne) (off := (13)) (pc2 := 353) false rfl (sh_Bnef c) rfl ?_
        refine sh_w (i := (.aload_n 0)) (len := 1) (pc2 := 354) (lv2 := [(0, .ref 67), (1, .int x1)]) (st2 := [.ref 67]) (h2 := (sh_rep m.T m.I m.J)) rfl rfl rfl ?_
        refine sh_w (i := (.iconst 2)) (len := 1) (pc2 := 355) (lv2 := [(0, .ref 67), (1, .int x1)]) (st2 := [.int 2, .ref 67]) (h2 := (sh_rep m.T m.I m.J)) rfl rfl rfl ?_
        refine sh_w (i := (.aload_n 0)) (len := 1) (pc2 := 356) (lv2 := [(0, .ref 67), (1, .int x1)]) (st2 := [.ref 67, .int 2, .ref 67]) (h2 := (sh_rep m.T m.I m.J)) rfl rfl rfl ?_
        refine sh_gI1 (len := 3) (x := m.I 66 3) (pc2 := 359) rfl rfl (sh_s66 hT.st) rfl rfl rfl ?_
        exact kk
      obtain ⟨r1, m11, e1, e⟩ := sh_bn_e e
      refine sh_Lk_cV (r := (some (.int (sh_b2 r1)))) (st2 := [.int (sh_b2 r1)]) (pc2 := 362) (k2 := 252) (a := 66) (as := [.ref 67, .int 2, .int (m.I 66 3)]) (rest := []) rfl rfl rfl (fun hT => (sh_s66 hT.st)) rfl rfl ⟨Nat.le_of_ble_eq_true rfl, Nat.le_of_ble_eq_true rfl⟩ (sl_252 e1 ⟨rfl, rfl⟩) rfl rfl (Nat.le_of_ble_eq_true rfl) (Nat.le_of_ble_eq_true rfl) ?_
      obtain rfl := Option.some.inj e
      obtain ⟨rfl, rfl⟩ := tg
      exact sh_Lk_ret (i := .ireturn) rfl rfl (sh_rb rfl _) (Nat.le_of_ble_eq_true rfl) (Nat.le_of_ble_eq_true rfl)
    · refine sh_Lk_lift (T := m.T) (I := m.I) (J := m.J) (s := m.s) (pc2 := 336) (lv2 := [(1, .int (x1 + 1)), (0, .ref 67)]) (st2 := []) (I2 := m.I) (J2 := m.J) (fun hT v kk => ?_) ?_
      · refine sh_j0 (c := .ne) (off := (13)) (pc2 := 363) true rfl (sh_Bnet c) rfl ?_
        refine sh_w (i := (.iinc 1 1)) (len := 3) (pc2 := 366) (lv2 := [(1, .int (x1 + 1)), (0, .ref 67)]) (st2 := []) (h2 := (sh_rep m.T m.I m.J)) rfl rfl rfl ?_
        refine sh_w (i := (.goto (-30))) (len := 3) (pc2 := 336) (lv2 := [(1, .int (x1 + 1)), (0, .ref 67)]) (st2 := []) (h2 := (sh_rep m.T m.I m.J)) rfl rfl rfl ?_
        exact kk
      obtain rfl := Option.some.inj e
      exact sh_Lk_sub (sh_sub_c rfl (sh_sub_c rfl (sh_sub_n))) tg
  · refine sh_Lk_lift (T := m.T) (I := m.I) (J := m.J) (s := m.s) (pc2 := 371) (lv2 := [(1, .int 0), (0, .ref 67)]) (st2 := []) (I2 := m.I) (J2 := m.J) (fun hT v kk => ?_) ?_
    · refine sh_jc (c := .ge) (off := (28)) (pc2 := 369) true rfl (sh_Bget c) rfl ?_
      refine sh_w (i := (.iconst 0)) (len := 1) (pc2 := 370) (lv2 := [(0, .ref 67), (1, .int x1)]) (st2 := [.int 0]) (h2 := (sh_rep m.T m.I m.J)) rfl rfl rfl ?_
      refine sh_w (i := (.istore_n 1)) (len := 1) (pc2 := 371) (lv2 := [(1, .int 0), (0, .ref 67)]) (st2 := []) (h2 := (sh_rep m.T m.I m.J)) rfl rfl rfl ?_
      exact kk
    obtain ⟨_, eu, rfl⟩ := sh_up_e e
    exact sh_Lk_sub (sh_sub_c rfl (sh_sub_c rfl (sh_sub_n))) (sl_324_371 eu tg)
theorem sl_324_336 {x1 : Int32} {m m2 : sh_X} {o : Outcome} {z : (Bool × sh_X)} (e : sf_324_336 x1 m = some z) (tg : (sh_tZ o m2) z) : sh_Lk 324 336 [(0, .ref 67), (1, .int x1)] [] m o m2 32 644 := by
  unfold sf_324_336 at e
  exact sh_while_lk (P := fun q => sh_Lk 324 336 [(0, .ref 67), (1, .int q.1)] [] q.2 o m2 32 644) (Q := (sh_tZ o m2)) (fun q z e tg => sl_324_336s (x1 := q.1) (m := q.2) e tg) (s := (x1, m)) e tg
theorem sl_324_279s {x1 : Int32} {m m2 : sh_X} {o : Outcome} {z : ((Int32 × sh_X) ⊕ (Bool × sh_X))} (e : sf_324_279s x1 m = some z) (tg : (sh_el (fun q => sh_Lk 324 279 [(0, .ref 67), (1, .int q.1)] [] q.2 o m2 32 644) (sh_tZ o m2)) z) : sh_Lk 324 279 [(0, .ref 67), (1, .int x1)] [] m o m2 32 644 := by
  unfold sf_324_279s at e
  refine sh_Lk_lift (T := m.T) (I := m.I) (J := m.J) (s := m.s) (pc2 := 284) (lv2 := [(0, .ref 67), (1, .int x1)]) (st2 := [.int (m.I 66 85), .int x1]) (I2 := m.I) (J2 := m.J) (fun hT v kk => ?_) ?_
  · refine sh_w (i := (.iload_n 1)) (len := 1) (pc2 := 280) (lv2 := [(0, .ref 67), (1, .int x1)]) (st2 := [.int x1]) (h2 := (sh_rep m.T m.I m.J)) rfl rfl rfl ?_
    refine sh_w (i := (.aload_n 0)) (len := 1) (pc2 := 281) (lv2 := [(0, .ref 67), (1, .int x1)]) (st2 := [.ref 67, .int x1]) (h2 := (sh_rep m.T m.I m.J)) rfl rfl rfl ?_
    refine sh_gI1 (len := 3) (x := m.I 66 85) (pc2 := 284) rfl rfl (sh_s66 hT.st) rfl rfl rfl ?_
    exact kk
  rcases sh_ite e with ⟨c, e⟩ | ⟨c, e⟩
  · refine sh_Lk_lift (T := m.T) (I := m.I) (J := m.J) (s := m.s) (pc2 := 289) (lv2 := [(0, .ref 67), (1, .int x1)]) (st2 := [.int x1, .ref 67]) (I2 := m.I) (J2 := m.J) (fun hT v kk => ?_) ?_
    · refine sh_jc (c := .ge) (off := (19)) (pc2 := 287) false rfl (sh_Bgef c) rfl ?_
      refine sh_w (i := (.aload_n 0)) (len := 1) (pc2 := 288) (lv2 := [(0, .ref 67), (1, .int x1)]) (st2 := [.ref 67]) (h2 := (sh_rep m.T m.I m.J)) rfl rfl rfl ?_
      refine sh_w (i := (.iload_n 1)) (len := 1) (pc2 := 289) (lv2 := [(0, .ref 67), (1, .int x1)]) (st2 := [.int x1, .ref 67]) (h2 := (sh_rep m.T m.I m.J)) rfl rfl rfl ?_
      exact kk
    obtain ⟨r1, m11, e1, e⟩ := sh_bn_e e
    refine sh_Lk_cV (r := (some (.int (sh_b2 r1)))) (st2 := [.int (sh_b2 r1)]) (pc2 := 292) (k2 := 329) (a := 66) (as := [.ref 67, .int x1]) (rest := []) rfl rfl rfl (fun hT => (sh_s66 hT.st)) rfl rfl ⟨Nat.le_of_ble_eq_true rfl, Nat.le_of_ble_eq_true rfl⟩ (sl_329 e1 ⟨rfl, rfl⟩) rfl rfl (Nat.le_of_ble_eq_true rfl) (Nat.le_of_ble_eq_true rfl) ?_
    rcases sh_ite e with ⟨c, e⟩ | ⟨c, e⟩
    · refine sh_Lk_lift (T := m11.T) (I := m11.I) (J := m11.J) (s := m11.s) (pc2 := 279) (lv2 := [(1, .int (x1 + 1)), (0, .ref 67)]) (st2 := []) (I2 := m11.I) (J2 := m11.J) (fun hT v kk => ?_) ?_
      · refine sh_j0 (c := .ne) (off := (5)) (pc2 := 297) true rfl (sh_Znet c) rfl ?_
        refine sh_w (i := (.iinc 1 1)) (len := 3) (pc2 := 300) (lv2 := [(1, .int (x1 + 1)), (0, .ref 67)]) (st2 := []) (h2 := (sh_rep m11.T m11.I m11.J)) rfl rfl rfl ?_
        refine sh_w (i := (.goto (-21))) (len := 3) (pc2 := 279) (lv2 := [(1, .int (x1 + 1)), (0, .ref 67)]) (st2 := []) (h2 := (sh_rep m11.T m11.I m11.J)) rfl rfl rfl ?_
        exact kk
      obtain rfl := Option.some.inj e
      exact sh_Lk_sub (sh_sub_c rfl (sh_sub_c rfl (sh_sub_n))) tg
    · refine sh_Lk_lift (T := m11.T) (I := m11.I) (J := m11.J) (s := m11.s) (pc2 := 296) (lv2 := [(0, .ref 67), (1, .int x1)]) (st2 := [.int 0]) (I2 := m11.I) (J2 := m11.J) (fun hT v kk => ?_) ?_
      · refine sh_j0 (c := .ne) (off := (5)) (pc2 := 295) false rfl (sh_Znef c) rfl ?_
        refine sh_w (i := (.iconst 0)) (len := 1) (pc2 := 296) (lv2 := [(0, .ref 67), (1, .int x1)]) (st2 := [.int 0]) (h2 := (sh_rep m11.T m11.I m11.J)) rfl rfl rfl ?_
        exact kk
      obtain rfl := Option.some.inj e
      obtain ⟨rfl, rfl⟩ := tg
      exact sh_Lk_ret (i := .ireturn) rfl rfl rfl (Nat.le_of_ble_eq_true rfl) (Nat.le_of_ble_eq_true rfl)
  · refine sh_Lk_lift (T := m.T) (I := m.I) (J := m.J) (s := m.s) (pc2 := 311) (lv2 := [(0, .ref 67), (1, .int x1)]) (st2 := [.int (m.I 66 3), .int (m.I 66 91)]) (I2 := m.I) (J2 := m.J) (fun hT v kk => ?_) ?_
    · refine sh_jc (c := .ge) (off := (19)) (pc2 := 303) true rfl (sh_Bget c) rfl ?_
      refine sh_w (i := (.aload_n 0)) (len := 1) (pc2 := 304) (lv2 := [(0, .ref 67), (1, .int x1)]) (st2 := [.ref 67]) (h2 := (sh_rep m.T m.I m.J)) rfl rfl rfl ?_
      refine sh_gI1 (len := 3) (x := m.I 66 91) (pc2 := 307) rfl rfl (sh_s66 hT.st) rfl rfl rfl ?_
      refine sh_w (i := (.aload_n 0)) (len := 1) (pc2 := 308) (lv2 := [(0, .ref 67), (1, .int x1)]) (st2 := [.ref 67, .int (m.I 66 91)]) (h2 := (sh_rep m.T m.I m.J)) rfl rfl rfl ?_
      refine sh_gI1 (len := 3) (x := m.I 66 3) (pc2 := 311) rfl rfl (sh_s66 hT.st) rfl rfl rfl ?_
      exact kk
    rcases sh_ite e with ⟨c, e⟩ | ⟨c, e⟩
    · refine sh_Lk_lift (T := m.T) (I := m.I) (J := m.J) (s := m.s) (pc2 := 320) (lv2 := [(0, .ref 67), (1, .int x1)]) (st2 := [.int (m.I 66 91), .int 2, .ref 67]) (I2 := m.I) (J2 := m.J) (fun hT v kk => ?_) ?_
      · refine sh_jc (c := .ge) (off := (13)) (pc2 := 314) false rfl (sh_Bgef c) rfl ?_
        refine sh_w (i := (.aload_n 0)) (len := 1) (pc2 := 315) (lv2 := [(0, .ref 67), (1, .int x1)]) (st2 := [.ref 67]) (h2 := (sh_rep m.T m.I m.J)) rfl rfl rfl ?_
        refine sh_w (i := (.iconst 2)) (len := 1) (pc2 := 316) (lv2 := [(0, .ref 67), (1, .int x1)]) (st2 := [.int 2, .ref 67]) (h2 := (sh_rep m.T m.I m.J)) rfl rfl rfl ?_
        refine sh_w (i := (.aload_n 0)) (len := 1) (pc2 := 317) (lv2 := [(0, .ref 67), (1, .int x1)]) (st2 := [.ref 67, .int 2, .ref 67]) (h2 := (sh_rep m.T m.I m.J)) rfl rfl rfl ?_
        refine sh_gI1 (len := 3) (x := m.I 66 91) (pc2 := 320) rfl rfl (sh_s66 hT.st) rfl rfl rfl ?_
        exact kk
      obtain ⟨r2, m12, e2, e⟩ := sh_bn_e e
      refine sh_Lk_cV (r := (some (.int (sh_b2 r2)))) (st2 := [.int (sh_b2 r2)]) (pc2 := 323) (k2 := 252) (a := 66) (as := [.ref 67, .int 2, .int (m.I 66 91)]) (rest := []) rfl rfl rfl (fun hT => (sh_s66 hT.st)) rfl rfl ⟨Nat.le_of_ble_eq_true rfl, Nat.le_of_ble_eq_true rfl⟩ (sl_252 e2 ⟨rfl, rfl⟩) rfl rfl (Nat.le_of_ble_eq_true rfl) (Nat.le_of_ble_eq_true rfl) ?_
      obtain rfl := Option.some.inj e
      obtain ⟨rfl, rfl⟩ := tg
      exact sh_Lk_ret (i := .ireturn) rfl rfl (sh_rb rfl _) (Nat.le_of_ble_eq_true rfl) (Nat.le_of_ble_eq_true rfl)
    · refine sh_Lk_lift (T := m.T) (I := m.I) (J := m.J) (s := m.s) (pc2 := 336) (lv2 := [(1, .int ((m.I 66 86) - (m.I 121 2))), (0, .ref 67)]) (st2 := []) (I2 := m.I) (J2 := m.J) (fun hT v kk => ?_) ?_
      · refine sh_jc (c := .ge) (off := (13)) (pc2 := 324) true rfl (sh_Bget c) rfl ?_
        refine sh_w (i := (.aload_n 0)) (len := 1) (pc2 := 325) (lv2 := [(0, .ref 67), (1, .int x1)]) (st2 := [.ref 67]) (h2 := (sh_rep m.T m.I m.J)) rfl rfl rfl ?_
        refine sh_gI1 (len := 3) (x := m.I 66 86) (pc2 := 328) rfl rfl (sh_s66 hT.st) rfl rfl rfl ?_
        refine sh_w (i := (.aload_n 0)) (len := 1) (pc2 := 329) (lv2 := [(0, .ref 67), (1, .int x1)]) (st2 := [.ref 67, .int (m.I 66 86)]) (h2 := (sh_rep m.T m.I m.J)) rfl rfl rfl ?_
        refine sh_gR1 (len := 3) (x := .ref 122) (pc2 := 332) rfl rfl (sh_s66 hT.st) rfl rfl ?_
        refine sh_w (i := (.iconst 2)) (len := 1) (pc2 := 333) (lv2 := [(0, .ref 67), (1, .int x1)]) (st2 := [.int 2, .ref 122, .int (m.I 66 86)]) (h2 := (sh_rep m.T m.I m.J)) rfl rfl rfl ?_
        refine sh_ia1 (x := m.I 121 2) (pc2 := 334) rfl (sh_s121 hT.st) (by decide) (by decide) rfl rfl ?_
        refine sh_w (i := .isub) (len := 1) (pc2 := 335) (lv2 := [(0, .ref 67), (1, .int x1)]) (st2 := [.int ((m.I 66 86) - (m.I 121 2))]) (h2 := (sh_rep m.T m.I m.J)) rfl rfl rfl ?_
        refine sh_w (i := (.istore_n 1)) (len := 1) (pc2 := 336) (lv2 := [(1, .int ((m.I 66 86) - (m.I 121 2))), (0, .ref 67)]) (st2 := []) (h2 := (sh_rep m.T m.I m.J)) rfl rfl rfl ?_
        exact kk
      obtain ⟨_, eu, rfl⟩ := sh_up_e e
      exact sh_Lk_sub (sh_sub_c rfl (sh_sub_c rfl (sh_sub_n))) (sl_324_336 eu tg)
theorem sl_324_279 {x1 : Int32} {m m2 : sh_X} {o : Outcome} {z : (Bool × sh_X)} (e : sf_324_279 x1 m = some z) (tg : (sh_tZ o m2) z) : sh_Lk 324 279 [(0, .ref 67), (1, .int x1)] [] m o m2 32 644 := by
  unfold sf_324_279 at e
  exact sh_while_lk (P := fun q => sh_Lk 324 279 [(0, .ref 67), (1, .int q.1)] [] q.2 o m2 32 644) (Q := (sh_tZ o m2)) (fun q z e tg => sl_324_279s (x1 := q.1) (m := q.2) e tg) (s := (x1, m)) e tg
theorem sl_324_231s {x1 : Int32} {m m2 : sh_X} {o : Outcome} {z : ((Int32 × sh_X) ⊕ (Bool × sh_X))} (e : sf_324_231s x1 m = some z) (tg : (sh_el (fun q => sh_Lk 324 231 [(0, .ref 67), (1, .int q.1)] [] q.2 o m2 32 644) (sh_tZ o m2)) z) : sh_Lk 324 231 [(0, .ref 67), (1, .int x1)] [] m o m2 32 644 := by
  unfold sf_324_231s at e
  refine sh_Lk_lift (T := m.T) (I := m.I) (J := m.J) (s := m.s) (pc2 := 235) (lv2 := [(0, .ref 67), (1, .int x1)]) (st2 := [.int 4000, .int x1]) (I2 := m.I) (J2 := m.J) (fun hT v kk => ?_) ?_
  · refine sh_w (i := (.iload_n 1)) (len := 1) (pc2 := 232) (lv2 := [(0, .ref 67), (1, .int x1)]) (st2 := [.int x1]) (h2 := (sh_rep m.T m.I m.J)) rfl rfl rfl ?_
    refine sh_w (i := (.sipush 4000)) (len := 3) (pc2 := 235) (lv2 := [(0, .ref 67), (1, .int x1)]) (st2 := [.int 4000, .int x1]) (h2 := (sh_rep m.T m.I m.J)) rfl rfl rfl ?_
    exact kk
  rcases sh_ite e with ⟨c, e⟩ | ⟨c, e⟩
  · refine sh_Lk_lift (T := m.T) (I := m.I) (J := m.J) (s := m.s) (pc2 := 257) (lv2 := [(0, .ref 67), (1, .int x1)]) (st2 := [.int ((m.I 121 0) + (m.I 121 1)), .int x1, .int x1, .ref 124]) (I2 := m.I) (J2 := m.J) (fun hT v kk => ?_) ?_
    · refine sh_jc (c := .ge) (off := (37)) (pc2 := 238) false rfl (sh_Bgef c) rfl ?_
      refine sh_w (i := (.aload_n 0)) (len := 1) (pc2 := 239) (lv2 := [(0, .ref 67), (1, .int x1)]) (st2 := [.ref 67]) (h2 := (sh_rep m.T m.I m.J)) rfl rfl rfl ?_
      refine sh_gR1 (len := 3) (x := .ref 124) (pc2 := 242) rfl rfl (sh_s66 hT.st) rfl rfl ?_
      refine sh_w (i := (.iload_n 1)) (len := 1) (pc2 := 243) (lv2 := [(0, .ref 67), (1, .int x1)]) (st2 := [.int x1, .ref 124]) (h2 := (sh_rep m.T m.I m.J)) rfl rfl rfl ?_
      refine sh_w (i := (.iload_n 1)) (len := 1) (pc2 := 244) (lv2 := [(0, .ref 67), (1, .int x1)]) (st2 := [.int x1, .int x1, .ref 124]) (h2 := (sh_rep m.T m.I m.J)) rfl rfl rfl ?_
      refine sh_w (i := (.aload_n 0)) (len := 1) (pc2 := 245) (lv2 := [(0, .ref 67), (1, .int x1)]) (st2 := [.ref 67, .int x1, .int x1, .ref 124]) (h2 := (sh_rep m.T m.I m.J)) rfl rfl rfl ?_
      refine sh_gR1 (len := 3) (x := .ref 122) (pc2 := 248) rfl rfl (sh_s66 hT.st) rfl rfl ?_
      refine sh_w (i := (.iconst 0)) (len := 1) (pc2 := 249) (lv2 := [(0, .ref 67), (1, .int x1)]) (st2 := [.int 0, .ref 122, .int x1, .int x1, .ref 124]) (h2 := (sh_rep m.T m.I m.J)) rfl rfl rfl ?_
      refine sh_ia1 (x := m.I 121 0) (pc2 := 250) rfl (sh_s121 hT.st) (by decide) (by decide) rfl rfl ?_
      refine sh_w (i := (.aload_n 0)) (len := 1) (pc2 := 251) (lv2 := [(0, .ref 67), (1, .int x1)]) (st2 := [.ref 67, .int (m.I 121 0), .int x1, .int x1, .ref 124]) (h2 := (sh_rep m.T m.I m.J)) rfl rfl rfl ?_
      refine sh_gR1 (len := 3) (x := .ref 122) (pc2 := 254) rfl rfl (sh_s66 hT.st) rfl rfl ?_
      refine sh_w (i := (.iconst 1)) (len := 1) (pc2 := 255) (lv2 := [(0, .ref 67), (1, .int x1)]) (st2 := [.int 1, .ref 122, .int (m.I 121 0), .int x1, .int x1, .ref 124]) (h2 := (sh_rep m.T m.I m.J)) rfl rfl rfl ?_
      refine sh_ia1 (x := m.I 121 1) (pc2 := 256) rfl (sh_s121 hT.st) (by decide) (by decide) rfl rfl ?_
      refine sh_w (i := .iadd) (len := 1) (pc2 := 257) (lv2 := [(0, .ref 67), (1, .int x1)]) (st2 := [.int ((m.I 121 0) + (m.I 121 1)), .int x1, .int x1, .ref 124]) (h2 := (sh_rep m.T m.I m.J)) rfl rfl rfl ?_
      exact kk
    rcases sh_ite e with ⟨c, e⟩ | ⟨c, e⟩
    · refine sh_Lk_lift (T := m.T) (I := m.I) (J := m.J) (s := m.s) (pc2 := 265) (lv2 := [(0, .ref 67), (1, .int x1)]) (st2 := [.int 1, .int x1, .ref 124]) (I2 := m.I) (J2 := m.J) (fun hT v kk => ?_) ?_
      · refine sh_jc (c := .ge) (off := (7)) (pc2 := 260) false rfl (sh_Bgef c) rfl ?_
        refine sh_w (i := (.iconst 1)) (len := 1) (pc2 := 261) (lv2 := [(0, .ref 67), (1, .int x1)]) (st2 := [.int 1, .int x1, .ref 124]) (h2 := (sh_rep m.T m.I m.J)) rfl rfl rfl ?_
        refine sh_w (i := (.goto 4)) (len := 3) (pc2 := 265) (lv2 := [(0, .ref 67), (1, .int x1)]) (st2 := [.int 1, .int x1, .ref 124]) (h2 := (sh_rep m.T m.I m.J)) rfl rfl rfl ?_
        exact kk
      exact sh_Lk_sub (sh_sub_c rfl (sh_sub_c rfl (sh_sub_n))) (sl_324_265 e tg)
    · refine sh_Lk_lift (T := m.T) (I := m.I) (J := m.J) (s := m.s) (pc2 := 265) (lv2 := [(0, .ref 67), (1, .int x1)]) (st2 := [.int 0, .int x1, .ref 124]) (I2 := m.I) (J2 := m.J) (fun hT v kk => ?_) ?_
      · refine sh_jc (c := .ge) (off := (7)) (pc2 := 264) true rfl (sh_Bget c) rfl ?_
        refine sh_w (i := (.iconst 0)) (len := 1) (pc2 := 265) (lv2 := [(0, .ref 67), (1, .int x1)]) (st2 := [.int 0, .int x1, .ref 124]) (h2 := (sh_rep m.T m.I m.J)) rfl rfl rfl ?_
        exact kk
      exact sh_Lk_sub (sh_sub_c rfl (sh_sub_c rfl (sh_sub_n))) (sl_324_265 e tg)
  · refine sh_Lk_lift (T := m.T) (I := m.I) (J := m.J) (s := m.s) (pc2 := 279) (lv2 := [(1, .int 0), (0, .ref 67)]) (st2 := []) (I2 := sh_u2 m.I 66 87 0) (J2 := m.J) (fun hT v kk => ?_) ?_
    · refine sh_jc (c := .ge) (off := (37)) (pc2 := 272) true rfl (sh_Bget c) rfl ?_
      refine sh_w (i := (.aload_n 0)) (len := 1) (pc2 := 273) (lv2 := [(0, .ref 67), (1, .int x1)]) (st2 := [.ref 67]) (h2 := (sh_rep m.T m.I m.J)) rfl rfl rfl ?_
      refine sh_w (i := (.iconst 0)) (len := 1) (pc2 := 274) (lv2 := [(0, .ref 67), (1, .int x1)]) (st2 := [.int 0, .ref 67]) (h2 := (sh_rep m.T m.I m.J)) rfl rfl rfl ?_
      refine sh_pI1 (x := 0) (pc2 := 277) rfl rfl (sh_s66 hT.st) rfl rfl rfl rfl ?_
      refine sh_w (i := (.iconst 0)) (len := 1) (pc2 := 278) (lv2 := [(0, .ref 67), (1, .int x1)]) (st2 := [.int 0]) (h2 := (sh_rep m.T (sh_u2 m.I 66 87 0) m.J)) rfl rfl rfl ?_
      refine sh_w (i := (.istore_n 1)) (len := 1) (pc2 := 279) (lv2 := [(1, .int 0), (0, .ref 67)]) (st2 := []) (h2 := (sh_rep m.T (sh_u2 m.I 66 87 0) m.J)) rfl rfl rfl ?_
      exact kk
    obtain ⟨_, eu, rfl⟩ := sh_up_e e
    exact sh_Lk_sub (sh_sub_c rfl (sh_sub_c rfl (sh_sub_n))) (sl_324_279 eu tg)
theorem sl_324_231 {x1 : Int32} {m m2 : sh_X} {o : Outcome} {z : (Bool × sh_X)} (e : sf_324_231 x1 m = some z) (tg : (sh_tZ o m2) z) : sh_Lk 324 231 [(0, .ref 67), (1, .int x1)] [] m o m2 32 644 := by
  unfold sf_324_231 at e
  exact sh_while_lk (P := fun q => sh_Lk 324 231 [(0, .ref 67), (1, .int q.1)] [] q.2 o m2 32 644) (Q := (sh_tZ o m2)) (fun q z e tg => sl_324_231s (x1 := q.1) (m := q.2) e tg) (s := (x1, m)) e tg
theorem sl_324 {m m2 : sh_X} {o : Outcome} {z : (Bool × sh_X)} (e : sf_324 m = some z) (tg : (sh_tZ o m2) z) : sh_Lk 324 0 [(0, .ref 67)] [] m o m2 32 644 := by
  unfold sf_324 at e
  refine sh_Lk_lift (T := m.T) (I := m.I) (J := m.J) (s := m.s) (pc2 := 12) (lv2 := [(0, .ref 67)]) (st2 := [.int 32, .int 2000, .int 1, .ref 67]) (I2 := sh_u2 m.I 66 91 0) (J2 := m.J) (fun hT v kk => ?_) ?_
  · refine sh_w (i := (.aload_n 0)) (len := 1) (pc2 := 1) (lv2 := [(0, .ref 67)]) (st2 := [.ref 67]) (h2 := (sh_rep m.T m.I m.J)) rfl rfl rfl ?_
    refine sh_w (i := (.iconst 0)) (len := 1) (pc2 := 2) (lv2 := [(0, .ref 67)]) (st2 := [.int 0, .ref 67]) (h2 := (sh_rep m.T m.I m.J)) rfl rfl rfl ?_
    refine sh_pI1 (x := 0) (pc2 := 5) rfl rfl (sh_s66 hT.st) rfl rfl rfl rfl ?_
    refine sh_w (i := (.aload_n 0)) (len := 1) (pc2 := 6) (lv2 := [(0, .ref 67)]) (st2 := [.ref 67]) (h2 := (sh_rep m.T (sh_u2 m.I 66 91 0) m.J)) rfl rfl rfl ?_
    refine sh_w (i := (.iconst 1)) (len := 1) (pc2 := 7) (lv2 := [(0, .ref 67)]) (st2 := [.int 1, .ref 67]) (h2 := (sh_rep m.T (sh_u2 m.I 66 91 0) m.J)) rfl rfl rfl ?_
    refine sh_w (i := (.sipush 2000)) (len := 3) (pc2 := 10) (lv2 := [(0, .ref 67)]) (st2 := [.int 2000, .int 1, .ref 67]) (h2 := (sh_rep m.T (sh_u2 m.I 66 91 0) m.J)) rfl rfl rfl ?_
    refine sh_w (i := (.bipush 32)) (len := 2) (pc2 := 12) (lv2 := [(0, .ref 67)]) (st2 := [.int 32, .int 2000, .int 1, .ref 67]) (h2 := (sh_rep m.T (sh_u2 m.I 66 91 0) m.J)) rfl rfl rfl ?_
    exact kk
  obtain ⟨r1, m11, e1, e⟩ := sh_bn_e e
  refine sh_Lk_cV (r := (some (.int (sh_b2 r1)))) (st2 := [.int (sh_b2 r1)]) (pc2 := 15) (k2 := 325) (a := 66) (as := [.ref 67, .int 1, .int 2000, .int 32]) (rest := []) rfl rfl rfl (fun hT => (sh_s66 hT.st)) rfl rfl ⟨Nat.le_of_ble_eq_true rfl, Nat.le_of_ble_eq_true rfl⟩ (sl_325 e1 ⟨rfl, rfl⟩) rfl rfl (Nat.le_of_ble_eq_true rfl) (Nat.le_of_ble_eq_true rfl) ?_
  rcases sh_ite e with ⟨c, e⟩ | ⟨c, e⟩
  · refine sh_Lk_lift (T := m11.T) (I := m11.I) (J := m11.J) (s := m11.s) (pc2 := 35) (lv2 := [(0, .ref 67)]) (st2 := [.int 10, .int 4000, .int 1, .ref 67]) (I2 := sh_u2 m11.I 66 85 (m11.I 66 92)) (J2 := m11.J) (fun hT v kk => ?_) ?_
    · refine sh_j0 (c := .ne) (off := (5)) (pc2 := 20) true rfl (sh_Znet c) rfl ?_
      refine sh_w (i := (.aload_n 0)) (len := 1) (pc2 := 21) (lv2 := [(0, .ref 67)]) (st2 := [.ref 67]) (h2 := (sh_rep m11.T m11.I m11.J)) rfl rfl rfl ?_
      refine sh_w (i := (.aload_n 0)) (len := 1) (pc2 := 22) (lv2 := [(0, .ref 67)]) (st2 := [.ref 67, .ref 67]) (h2 := (sh_rep m11.T m11.I m11.J)) rfl rfl rfl ?_
      refine sh_gI1 (len := 3) (x := m11.I 66 92) (pc2 := 25) rfl rfl (sh_s66 hT.st) rfl rfl rfl ?_
      refine sh_pI1 (x := m11.I 66 92) (pc2 := 28) rfl rfl (sh_s66 hT.st) rfl rfl rfl rfl ?_
      refine sh_w (i := (.aload_n 0)) (len := 1) (pc2 := 29) (lv2 := [(0, .ref 67)]) (st2 := [.ref 67]) (h2 := (sh_rep m11.T (sh_u2 m11.I 66 85 (m11.I 66 92)) m11.J)) rfl rfl rfl ?_
      refine sh_w (i := (.iconst 1)) (len := 1) (pc2 := 30) (lv2 := [(0, .ref 67)]) (st2 := [.int 1, .ref 67]) (h2 := (sh_rep m11.T (sh_u2 m11.I 66 85 (m11.I 66 92)) m11.J)) rfl rfl rfl ?_
      refine sh_w (i := (.sipush 4000)) (len := 3) (pc2 := 33) (lv2 := [(0, .ref 67)]) (st2 := [.int 4000, .int 1, .ref 67]) (h2 := (sh_rep m11.T (sh_u2 m11.I 66 85 (m11.I 66 92)) m11.J)) rfl rfl rfl ?_
      refine sh_w (i := (.bipush 10)) (len := 2) (pc2 := 35) (lv2 := [(0, .ref 67)]) (st2 := [.int 10, .int 4000, .int 1, .ref 67]) (h2 := (sh_rep m11.T (sh_u2 m11.I 66 85 (m11.I 66 92)) m11.J)) rfl rfl rfl ?_
      exact kk
    obtain ⟨r2, m12, e2, e⟩ := sh_bn_e e
    refine sh_Lk_cV (r := (some (.int (sh_b2 r2)))) (st2 := [.int (sh_b2 r2)]) (pc2 := 38) (k2 := 325) (a := 66) (as := [.ref 67, .int 1, .int 4000, .int 10]) (rest := []) rfl rfl rfl (fun hT => (sh_s66 hT.st)) rfl rfl ⟨Nat.le_of_ble_eq_true rfl, Nat.le_of_ble_eq_true rfl⟩ (sl_325 e2 ⟨rfl, rfl⟩) rfl rfl (Nat.le_of_ble_eq_true rfl) (Nat.le_of_ble_eq_true rfl) ?_
    rcases sh_ite e with ⟨c, e⟩ | ⟨c, e⟩
    · refine sh_Lk_lift (T := m12.T) (I := m12.I) (J := m12.J) (s := m12.s) (pc2 := 56) (lv2 := [(0, .ref 67)]) (st2 := [.int 32, .int 2, .int 2, .ref 67]) (I2 := sh_u2 m12.I 66 86 (m12.I 66 92)) (J2 := m12.J) (fun hT v kk => ?_) ?_
      · refine sh_j0 (c := .ne) (off := (5)) (pc2 := 43) true rfl (sh_Znet c) rfl ?_
        refine sh_w (i := (.aload_n 0)) (len := 1) (pc2 := 44) (lv2 := [(0, .ref 67)]) (st2 := [.ref 67]) (h2 := (sh_rep m12.T m12.I m12.J)) rfl rfl rfl ?_
        refine sh_w (i := (.aload_n 0)) (len := 1) (pc2 := 45) (lv2 := [(0, .ref 67)]) (st2 := [.ref 67, .ref 67]) (h2 := (sh_rep m12.T m12.I m12.J)) rfl rfl rfl ?_
        refine sh_gI1 (len := 3) (x := m12.I 66 92) (pc2 := 48) rfl rfl (sh_s66 hT.st) rfl rfl rfl ?_
        refine sh_pI1 (x := m12.I 66 92) (pc2 := 51) rfl rfl (sh_s66 hT.st) rfl rfl rfl rfl ?_
        refine sh_w (i := (.aload_n 0)) (len := 1) (pc2 := 52) (lv2 := [(0, .ref 67)]) (st2 := [.ref 67]) (h2 := (sh_rep m12.T (sh_u2 m12.I 66 86 (m12.I 66 92)) m12.J)) rfl rfl rfl ?_
        refine sh_w (i := (.iconst 2)) (len := 1) (pc2 := 53) (lv2 := [(0, .ref 67)]) (st2 := [.int 2, .ref 67]) (h2 := (sh_rep m12.T (sh_u2 m12.I 66 86 (m12.I 66 92)) m12.J)) rfl rfl rfl ?_
        refine sh_w (i := (.iconst 2)) (len := 1) (pc2 := 54) (lv2 := [(0, .ref 67)]) (st2 := [.int 2, .int 2, .ref 67]) (h2 := (sh_rep m12.T (sh_u2 m12.I 66 86 (m12.I 66 92)) m12.J)) rfl rfl rfl ?_
        refine sh_w (i := (.bipush 32)) (len := 2) (pc2 := 56) (lv2 := [(0, .ref 67)]) (st2 := [.int 32, .int 2, .int 2, .ref 67]) (h2 := (sh_rep m12.T (sh_u2 m12.I 66 86 (m12.I 66 92)) m12.J)) rfl rfl rfl ?_
        exact kk
      obtain ⟨r3, m13, e3, e⟩ := sh_bn_e e
      refine sh_Lk_cV (r := (some (.int (sh_b2 r3)))) (st2 := [.int (sh_b2 r3)]) (pc2 := 59) (k2 := 325) (a := 66) (as := [.ref 67, .int 2, .int 2, .int 32]) (rest := []) rfl rfl rfl (fun hT => (sh_s66 hT.st)) rfl rfl ⟨Nat.le_of_ble_eq_true rfl, Nat.le_of_ble_eq_true rfl⟩ (sl_325 e3 ⟨rfl, rfl⟩) rfl rfl (Nat.le_of_ble_eq_true rfl) (Nat.le_of_ble_eq_true rfl) ?_
      rcases sh_ite e with ⟨c, e⟩ | ⟨c, e⟩
      · refine sh_Lk_lift (T := m13.T) (I := m13.I) (J := m13.J) (s := m13.s) (pc2 := 69) (lv2 := [(0, .ref 67)]) (st2 := [.int 32, .int 500, .int 1, .ref 67]) (I2 := m13.I) (J2 := m13.J) (fun hT v kk => ?_) ?_
        · refine sh_j0 (c := .eq) (off := (16)) (pc2 := 62) false rfl (sh_Zeqf c) rfl ?_
          refine sh_w (i := (.aload_n 0)) (len := 1) (pc2 := 63) (lv2 := [(0, .ref 67)]) (st2 := [.ref 67]) (h2 := (sh_rep m13.T m13.I m13.J)) rfl rfl rfl ?_
          refine sh_w (i := (.iconst 1)) (len := 1) (pc2 := 64) (lv2 := [(0, .ref 67)]) (st2 := [.int 1, .ref 67]) (h2 := (sh_rep m13.T m13.I m13.J)) rfl rfl rfl ?_
          refine sh_w (i := (.sipush 500)) (len := 3) (pc2 := 67) (lv2 := [(0, .ref 67)]) (st2 := [.int 500, .int 1, .ref 67]) (h2 := (sh_rep m13.T m13.I m13.J)) rfl rfl rfl ?_
          refine sh_w (i := (.bipush 32)) (len := 2) (pc2 := 69) (lv2 := [(0, .ref 67)]) (st2 := [.int 32, .int 500, .int 1, .ref 67]) (h2 := (sh_rep m13.T m13.I m13.J)) rfl rfl rfl ?_
          exact kk
        obtain ⟨r4, m14, e4, e⟩ := sh_bn_e e
        refine sh_Lk_cV (r := (some (.int (sh_b2 r4)))) (st2 := [.int (sh_b2 r4)]) (pc2 := 72) (k2 := 325) (a := 66) (as := [.ref 67, .int 1, .int 500, .int 32]) (rest := []) rfl rfl rfl (fun hT => (sh_s66 hT.st)) rfl rfl ⟨Nat.le_of_ble_eq_true rfl, Nat.le_of_ble_eq_true rfl⟩ (sl_325 e4 ⟨rfl, rfl⟩) rfl rfl (Nat.le_of_ble_eq_true rfl) (Nat.le_of_ble_eq_true rfl) ?_
        rcases sh_ite e with ⟨c, e⟩ | ⟨c, e⟩
        · refine sh_Lk_lift (T := m14.T) (I := m14.I) (J := m14.J) (s := m14.s) (pc2 := 92) (lv2 := [(0, .ref 67)]) (st2 := [.int 500, .int 1, .ref 67]) (I2 := sh_u2 m14.I 121 0 (m14.I 66 92)) (J2 := m14.J) (fun hT v kk => ?_) ?_
          · refine sh_j0 (c := .ne) (off := (5)) (pc2 := 77) true rfl (sh_Znet c) rfl ?_
            refine sh_w (i := (.aload_n 0)) (len := 1) (pc2 := 78) (lv2 := [(0, .ref 67)]) (st2 := [.ref 67]) (h2 := (sh_rep m14.T m14.I m14.J)) rfl rfl rfl ?_
            refine sh_gR1 (len := 3) (x := .ref 122) (pc2 := 81) rfl rfl (sh_s66 hT.st) rfl rfl ?_
            refine sh_w (i := (.iconst 0)) (len := 1) (pc2 := 82) (lv2 := [(0, .ref 67)]) (st2 := [.int 0, .ref 122]) (h2 := (sh_rep m14.T m14.I m14.J)) rfl rfl rfl ?_
            refine sh_w (i := (.aload_n 0)) (len := 1) (pc2 := 83) (lv2 := [(0, .ref 67)]) (st2 := [.ref 67, .int 0, .ref 122]) (h2 := (sh_rep m14.T m14.I m14.J)) rfl rfl rfl ?_
            refine sh_gI1 (len := 3) (x := m14.I 66 92) (pc2 := 86) rfl rfl (sh_s66 hT.st) rfl rfl rfl ?_
            refine sh_is1 (x := m14.I 66 92) (i := 0) (pc2 := 87) rfl (sh_s121 hT.st) (by decide) (by decide) rfl ?_
            refine sh_w (i := (.aload_n 0)) (len := 1) (pc2 := 88) (lv2 := [(0, .ref 67)]) (st2 := [.ref 67]) (h2 := (sh_rep m14.T (sh_u2 m14.I 121 0 (m14.I 66 92)) m14.J)) rfl rfl rfl ?_
            refine sh_w (i := (.iconst 1)) (len := 1) (pc2 := 89) (lv2 := [(0, .ref 67)]) (st2 := [.int 1, .ref 67]) (h2 := (sh_rep m14.T (sh_u2 m14.I 121 0 (m14.I 66 92)) m14.J)) rfl rfl rfl ?_
            refine sh_w (i := (.sipush 500)) (len := 3) (pc2 := 92) (lv2 := [(0, .ref 67)]) (st2 := [.int 500, .int 1, .ref 67]) (h2 := (sh_rep m14.T (sh_u2 m14.I 121 0 (m14.I 66 92)) m14.J)) rfl rfl rfl ?_
            exact kk
          obtain ⟨r5, m15, e5, e⟩ := sh_bn_e e
          refine sh_Lk_cV (r := (some (.int (sh_b2 r5)))) (st2 := [.int (sh_b2 r5)]) (pc2 := 95) (k2 := 326) (a := 66) (as := [.ref 67, .int 1, .int 500]) (rest := []) rfl rfl rfl (fun hT => (sh_s66 hT.st)) rfl rfl ⟨Nat.le_of_ble_eq_true rfl, Nat.le_of_ble_eq_true rfl⟩ (sl_326 e5 ⟨rfl, rfl⟩) rfl rfl (Nat.le_of_ble_eq_true rfl) (Nat.le_of_ble_eq_true rfl) ?_
          rcases sh_ite e with ⟨c, e⟩ | ⟨c, e⟩
          · refine sh_Lk_lift (T := m15.T) (I := m15.I) (J := m15.J) (s := m15.s) (pc2 := 127) (lv2 := [(0, .ref 67)]) (st2 := [.int (m15.I 66 86), .int ((m15.I 121 0) + (m15.I 66 92))]) (I2 := sh_u2 m15.I 121 1 (m15.I 66 92)) (J2 := m15.J) (fun hT v kk => ?_) ?_
            · refine sh_j0 (c := .ne) (off := (5)) (pc2 := 100) true rfl (sh_Znet c) rfl ?_
              refine sh_w (i := (.aload_n 0)) (len := 1) (pc2 := 101) (lv2 := [(0, .ref 67)]) (st2 := [.ref 67]) (h2 := (sh_rep m15.T m15.I m15.J)) rfl rfl rfl ?_
              refine sh_gR1 (len := 3) (x := .ref 122) (pc2 := 104) rfl rfl (sh_s66 hT.st) rfl rfl ?_
              refine sh_w (i := (.iconst 1)) (len := 1) (pc2 := 105) (lv2 := [(0, .ref 67)]) (st2 := [.int 1, .ref 122]) (h2 := (sh_rep m15.T m15.I m15.J)) rfl rfl rfl ?_
              refine sh_w (i := (.aload_n 0)) (len := 1) (pc2 := 106) (lv2 := [(0, .ref 67)]) (st2 := [.ref 67, .int 1, .ref 122]) (h2 := (sh_rep m15.T m15.I m15.J)) rfl rfl rfl ?_
              refine sh_gI1 (len := 3) (x := m15.I 66 92) (pc2 := 109) rfl rfl (sh_s66 hT.st) rfl rfl rfl ?_
              refine sh_is1 (x := m15.I 66 92) (i := 1) (pc2 := 110) rfl (sh_s121 hT.st) (by decide) (by decide) rfl ?_
              refine sh_w (i := (.aload_n 0)) (len := 1) (pc2 := 111) (lv2 := [(0, .ref 67)]) (st2 := [.ref 67]) (h2 := (sh_rep m15.T (sh_u2 m15.I 121 1 (m15.I 66 92)) m15.J)) rfl rfl rfl ?_
              refine sh_gR1 (len := 3) (x := .ref 122) (pc2 := 114) rfl rfl (sh_s66 hT.st) rfl rfl ?_
              refine sh_w (i := (.iconst 0)) (len := 1) (pc2 := 115) (lv2 := [(0, .ref 67)]) (st2 := [.int 0, .ref 122]) (h2 := (sh_rep m15.T (sh_u2 m15.I 121 1 (m15.I 66 92)) m15.J)) rfl rfl rfl ?_
              refine sh_ia1 (x := m15.I 121 0) (pc2 := 116) rfl (sh_s121 hT.st) (by decide) (by decide) rfl rfl ?_
              refine sh_w (i := (.aload_n 0)) (len := 1) (pc2 := 117) (lv2 := [(0, .ref 67)]) (st2 := [.ref 67, .int (m15.I 121 0)]) (h2 := (sh_rep m15.T (sh_u2 m15.I 121 1 (m15.I 66 92)) m15.J)) rfl rfl rfl ?_
              refine sh_gR1 (len := 3) (x := .ref 122) (pc2 := 120) rfl rfl (sh_s66 hT.st) rfl rfl ?_
              refine sh_w (i := (.iconst 1)) (len := 1) (pc2 := 121) (lv2 := [(0, .ref 67)]) (st2 := [.int 1, .ref 122, .int (m15.I 121 0)]) (h2 := (sh_rep m15.T (sh_u2 m15.I 121 1 (m15.I 66 92)) m15.J)) rfl rfl rfl ?_
              refine sh_ia1 (x := m15.I 66 92) (pc2 := 122) rfl (sh_s121 hT.st) (by decide) (by decide) rfl rfl ?_
              refine sh_w (i := .iadd) (len := 1) (pc2 := 123) (lv2 := [(0, .ref 67)]) (st2 := [.int ((m15.I 121 0) + (m15.I 66 92))]) (h2 := (sh_rep m15.T (sh_u2 m15.I 121 1 (m15.I 66 92)) m15.J)) rfl rfl rfl ?_
              refine sh_w (i := (.aload_n 0)) (len := 1) (pc2 := 124) (lv2 := [(0, .ref 67)]) (st2 := [.ref 67, .int ((m15.I 121 0) + (m15.I 66 92))]) (h2 := (sh_rep m15.T (sh_u2 m15.I 121 1 (m15.I 66 92)) m15.J)) rfl rfl rfl ?_
              refine sh_gI1 (len := 3) (x := m15.I 66 86) (pc2 := 127) rfl rfl (sh_s66 hT.st) rfl rfl rfl ?_
              exact kk
            rcases sh_ite e with ⟨c, e⟩ | ⟨c, e⟩
            · refine sh_Lk_lift (T := m15.T) (I := sh_u2 m15.I 121 1 (m15.I 66 92)) (J := m15.J) (s := m15.s) (pc2 := 136) (lv2 := [(0, .ref 67)]) (st2 := [.int (m15.I 66 93), .int 2, .ref 67]) (I2 := sh_u2 m15.I 121 1 (m15.I 66 92)) (J2 := m15.J) (fun hT v kk => ?_) ?_
              · refine sh_jc (c := .le) (off := (13)) (pc2 := 130) false rfl (sh_Blef c) rfl ?_
                refine sh_w (i := (.aload_n 0)) (len := 1) (pc2 := 131) (lv2 := [(0, .ref 67)]) (st2 := [.ref 67]) (h2 := (sh_rep m15.T (sh_u2 m15.I 121 1 (m15.I 66 92)) m15.J)) rfl rfl rfl ?_
                refine sh_w (i := (.iconst 2)) (len := 1) (pc2 := 132) (lv2 := [(0, .ref 67)]) (st2 := [.int 2, .ref 67]) (h2 := (sh_rep m15.T (sh_u2 m15.I 121 1 (m15.I 66 92)) m15.J)) rfl rfl rfl ?_
                refine sh_w (i := (.aload_n 0)) (len := 1) (pc2 := 133) (lv2 := [(0, .ref 67)]) (st2 := [.ref 67, .int 2, .ref 67]) (h2 := (sh_rep m15.T (sh_u2 m15.I 121 1 (m15.I 66 92)) m15.J)) rfl rfl rfl ?_
                refine sh_gI1 (len := 3) (x := m15.I 66 93) (pc2 := 136) rfl rfl (sh_s66 hT.st) rfl rfl rfl ?_
                exact kk
              obtain ⟨r6, m16, e6, e⟩ := sh_bn_e e
              refine sh_Lk_cV (r := (some (.int (sh_b2 r6)))) (st2 := [.int (sh_b2 r6)]) (pc2 := 139) (k2 := 252) (a := 66) (as := [.ref 67, .int 2, .int (m15.I 66 93)]) (rest := []) rfl rfl rfl (fun hT => (sh_s66 hT.st)) rfl rfl ⟨Nat.le_of_ble_eq_true rfl, Nat.le_of_ble_eq_true rfl⟩ (sl_252 e6 ⟨rfl, rfl⟩) rfl rfl (Nat.le_of_ble_eq_true rfl) (Nat.le_of_ble_eq_true rfl) ?_
              obtain rfl := Option.some.inj e
              obtain ⟨rfl, rfl⟩ := tg
              exact sh_Lk_ret (i := .ireturn) rfl rfl (sh_rb rfl _) (Nat.le_of_ble_eq_true rfl) (Nat.le_of_ble_eq_true rfl)
            · refine sh_Lk_lift (T := m15.T) (I := sh_u2 m15.I 121 1 (m15.I 66 92)) (J := m15.J) (s := m15.s) (pc2 := 143) (lv2 := [(0, .ref 67)]) (st2 := [.int 10, .ref 67]) (I2 := sh_u2 m15.I 121 1 (m15.I 66 92)) (J2 := m15.J) (fun hT v kk => ?_) ?_
              · refine sh_jc (c := .le) (off := (13)) (pc2 := 140) true rfl (sh_Blet c) rfl ?_
                refine sh_w (i := (.aload_n 0)) (len := 1) (pc2 := 141) (lv2 := [(0, .ref 67)]) (st2 := [.ref 67]) (h2 := (sh_rep m15.T (sh_u2 m15.I 121 1 (m15.I 66 92)) m15.J)) rfl rfl rfl ?_
                refine sh_w (i := (.bipush 10)) (len := 2) (pc2 := 143) (lv2 := [(0, .ref 67)]) (st2 := [.int 10, .ref 67]) (h2 := (sh_rep m15.T (sh_u2 m15.I 121 1 (m15.I 66 92)) m15.J)) rfl rfl rfl ?_
                exact kk
              obtain ⟨r7, m17, e7, e⟩ := sh_bn_e e
              refine sh_Lk_cV (r := (some (.int (sh_b2 r7)))) (st2 := [.int (sh_b2 r7)]) (pc2 := 146) (k2 := 327) (a := 66) (as := [.ref 67, .int 10]) (rest := []) rfl rfl rfl (fun hT => (sh_s66 hT.st)) rfl rfl ⟨Nat.le_of_ble_eq_true rfl, Nat.le_of_ble_eq_true rfl⟩ (sl_327 e7 ⟨rfl, rfl⟩) rfl rfl (Nat.le_of_ble_eq_true rfl) (Nat.le_of_ble_eq_true rfl) ?_
              rcases sh_ite e with ⟨c, e⟩ | ⟨c, e⟩
              · refine sh_Lk_lift (T := m17.T) (I := m17.I) (J := m17.J) (s := m17.s) (pc2 := 154) (lv2 := [(0, .ref 67)]) (st2 := [.int 32, .int 1, .int 1, .ref 67]) (I2 := m17.I) (J2 := m17.J) (fun hT v kk => ?_) ?_
                · refine sh_j0 (c := .eq) (off := (25)) (pc2 := 149) false rfl (sh_Zeqf c) rfl ?_
                  refine sh_w (i := (.aload_n 0)) (len := 1) (pc2 := 150) (lv2 := [(0, .ref 67)]) (st2 := [.ref 67]) (h2 := (sh_rep m17.T m17.I m17.J)) rfl rfl rfl ?_
                  refine sh_w (i := (.iconst 1)) (len := 1) (pc2 := 151) (lv2 := [(0, .ref 67)]) (st2 := [.int 1, .ref 67]) (h2 := (sh_rep m17.T m17.I m17.J)) rfl rfl rfl ?_
                  refine sh_w (i := (.iconst 1)) (len := 1) (pc2 := 152) (lv2 := [(0, .ref 67)]) (st2 := [.int 1, .int 1, .ref 67]) (h2 := (sh_rep m17.T m17.I m17.J)) rfl rfl rfl ?_
                  refine sh_w (i := (.bipush 32)) (len := 2) (pc2 := 154) (lv2 := [(0, .ref 67)]) (st2 := [.int 32, .int 1, .int 1, .ref 67]) (h2 := (sh_rep m17.T m17.I m17.J)) rfl rfl rfl ?_
                  exact kk
                obtain ⟨r8, m18, e8, e⟩ := sh_bn_e e
                refine sh_Lk_cV (r := (some (.int (sh_b2 r8)))) (st2 := [.int (sh_b2 r8)]) (pc2 := 157) (k2 := 325) (a := 66) (as := [.ref 67, .int 1, .int 1, .int 32]) (rest := []) rfl rfl rfl (fun hT => (sh_s66 hT.st)) rfl rfl ⟨Nat.le_of_ble_eq_true rfl, Nat.le_of_ble_eq_true rfl⟩ (sl_325 e8 ⟨rfl, rfl⟩) rfl rfl (Nat.le_of_ble_eq_true rfl) (Nat.le_of_ble_eq_true rfl) ?_
                rcases sh_ite e with ⟨c, e⟩ | ⟨c, e⟩
                · refine sh_Lk_lift (T := m18.T) (I := m18.I) (J := m18.J) (s := m18.s) (pc2 := 165) (lv2 := [(0, .ref 67)]) (st2 := [.int 500, .int 1, .ref 67]) (I2 := m18.I) (J2 := m18.J) (fun hT v kk => ?_) ?_
                  · refine sh_j0 (c := .eq) (off := (14)) (pc2 := 160) false rfl (sh_Zeqf c) rfl ?_
                    refine sh_w (i := (.aload_n 0)) (len := 1) (pc2 := 161) (lv2 := [(0, .ref 67)]) (st2 := [.ref 67]) (h2 := (sh_rep m18.T m18.I m18.J)) rfl rfl rfl ?_
                    refine sh_w (i := (.iconst 1)) (len := 1) (pc2 := 162) (lv2 := [(0, .ref 67)]) (st2 := [.int 1, .ref 67]) (h2 := (sh_rep m18.T m18.I m18.J)) rfl rfl rfl ?_
                    refine sh_w (i := (.sipush 500)) (len := 3) (pc2 := 165) (lv2 := [(0, .ref 67)]) (st2 := [.int 500, .int 1, .ref 67]) (h2 := (sh_rep m18.T m18.I m18.J)) rfl rfl rfl ?_
                    exact kk
                  obtain ⟨r9, m19, e9, e⟩ := sh_bn_e e
                  refine sh_Lk_cV (r := (some (.int (sh_b2 r9)))) (st2 := [.int (sh_b2 r9)]) (pc2 := 168) (k2 := 326) (a := 66) (as := [.ref 67, .int 1, .int 500]) (rest := []) rfl rfl rfl (fun hT => (sh_s66 hT.st)) rfl rfl ⟨Nat.le_of_ble_eq_true rfl, Nat.le_of_ble_eq_true rfl⟩ (sl_326 e9 ⟨rfl, rfl⟩) rfl rfl (Nat.le_of_ble_eq_true rfl) (Nat.le_of_ble_eq_true rfl) ?_
                  rcases sh_ite e with ⟨c, e⟩ | ⟨c, e⟩
                  · refine sh_Lk_lift (T := m19.T) (I := m19.I) (J := m19.J) (s := m19.s) (pc2 := 193) (lv2 := [(0, .ref 67)]) (st2 := [.int (m19.I 66 86), .int (m19.I 66 92)]) (I2 := sh_u2 m19.I 121 2 (m19.I 66 92)) (J2 := m19.J) (fun hT v kk => ?_) ?_
                    · refine sh_j0 (c := .ne) (off := (5)) (pc2 := 173) true rfl (sh_Znet c) rfl ?_
                      refine sh_w (i := (.aload_n 0)) (len := 1) (pc2 := 174) (lv2 := [(0, .ref 67)]) (st2 := [.ref 67]) (h2 := (sh_rep m19.T m19.I m19.J)) rfl rfl rfl ?_
                      refine sh_gR1 (len := 3) (x := .ref 122) (pc2 := 177) rfl rfl (sh_s66 hT.st) rfl rfl ?_
                      refine sh_w (i := (.iconst 2)) (len := 1) (pc2 := 178) (lv2 := [(0, .ref 67)]) (st2 := [.int 2, .ref 122]) (h2 := (sh_rep m19.T m19.I m19.J)) rfl rfl rfl ?_
                      refine sh_w (i := (.aload_n 0)) (len := 1) (pc2 := 179) (lv2 := [(0, .ref 67)]) (st2 := [.ref 67, .int 2, .ref 122]) (h2 := (sh_rep m19.T m19.I m19.J)) rfl rfl rfl ?_
                      refine sh_gI1 (len := 3) (x := m19.I 66 92) (pc2 := 182) rfl rfl (sh_s66 hT.st) rfl rfl rfl ?_
                      refine sh_is1 (x := m19.I 66 92) (i := 2) (pc2 := 183) rfl (sh_s121 hT.st) (by decide) (by decide) rfl ?_
                      refine sh_w (i := (.aload_n 0)) (len := 1) (pc2 := 184) (lv2 := [(0, .ref 67)]) (st2 := [.ref 67]) (h2 := (sh_rep m19.T (sh_u2 m19.I 121 2 (m19.I 66 92)) m19.J)) rfl rfl rfl ?_
                      refine sh_gR1 (len := 3) (x := .ref 122) (pc2 := 187) rfl rfl (sh_s66 hT.st) rfl rfl ?_
                      refine sh_w (i := (.iconst 2)) (len := 1) (pc2 := 188) (lv2 := [(0, .ref 67)]) (st2 := [.int 2, .ref 122]) (h2 := (sh_rep m19.T (sh_u2 m19.I 121 2 (m19.I 66 92)) m19.J)) rfl rfl rfl ?_
                      refine sh_ia1 (x := m19.I 66 92) (pc2 := 189) rfl (sh_s121 hT.st) (by decide) (by decide) rfl rfl ?_
                      refine sh_w (i := (.aload_n 0)) (len := 1) (pc2 := 190) (lv2 := [(0, .ref 67)]) (st2 := [.ref 67, .int (m19.I 66 92)]) (h2 := (sh_rep m19.T (sh_u2 m19.I 121 2 (m19.I 66 92)) m19.J)) rfl rfl rfl ?_
                      refine sh_gI1 (len := 3) (x := m19.I 66 86) (pc2 := 193) rfl rfl (sh_s66 hT.st) rfl rfl rfl ?_
                      exact kk
                    rcases sh_ite e with ⟨c, e⟩ | ⟨c, e⟩
                    · refine sh_Lk_lift (T := m19.T) (I := sh_u2 m19.I 121 2 (m19.I 66 92)) (J := m19.J) (s := m19.s) (pc2 := 202) (lv2 := [(0, .ref 67)]) (st2 := [.int (m19.I 66 93), .int 2, .ref 67]) (I2 := sh_u2 m19.I 121 2 (m19.I 66 92)) (J2 := m19.J) (fun hT v kk => ?_) ?_
                      · refine sh_jc (c := .le) (off := (13)) (pc2 := 196) false rfl (sh_Blef c) rfl ?_
                        refine sh_w (i := (.aload_n 0)) (len := 1) (pc2 := 197) (lv2 := [(0, .ref 67)]) (st2 := [.ref 67]) (h2 := (sh_rep m19.T (sh_u2 m19.I 121 2 (m19.I 66 92)) m19.J)) rfl rfl rfl ?_
                        refine sh_w (i := (.iconst 2)) (len := 1) (pc2 := 198) (lv2 := [(0, .ref 67)]) (st2 := [.int 2, .ref 67]) (h2 := (sh_rep m19.T (sh_u2 m19.I 121 2 (m19.I 66 92)) m19.J)) rfl rfl rfl ?_
                        refine sh_w (i := (.aload_n 0)) (len := 1) (pc2 := 199) (lv2 := [(0, .ref 67)]) (st2 := [.ref 67, .int 2, .ref 67]) (h2 := (sh_rep m19.T (sh_u2 m19.I 121 2 (m19.I 66 92)) m19.J)) rfl rfl rfl ?_
                        refine sh_gI1 (len := 3) (x := m19.I 66 93) (pc2 := 202) rfl rfl (sh_s66 hT.st) rfl rfl rfl ?_
                        exact kk
                      obtain ⟨r10, m20, e10, e⟩ := sh_bn_e e
                      refine sh_Lk_cV (r := (some (.int (sh_b2 r10)))) (st2 := [.int (sh_b2 r10)]) (pc2 := 205) (k2 := 252) (a := 66) (as := [.ref 67, .int 2, .int (m19.I 66 93)]) (rest := []) rfl rfl rfl (fun hT => (sh_s66 hT.st)) rfl rfl ⟨Nat.le_of_ble_eq_true rfl, Nat.le_of_ble_eq_true rfl⟩ (sl_252 e10 ⟨rfl, rfl⟩) rfl rfl (Nat.le_of_ble_eq_true rfl) (Nat.le_of_ble_eq_true rfl) ?_
                      obtain rfl := Option.some.inj e
                      obtain ⟨rfl, rfl⟩ := tg
                      exact sh_Lk_ret (i := .ireturn) rfl rfl (sh_rb rfl _) (Nat.le_of_ble_eq_true rfl) (Nat.le_of_ble_eq_true rfl)
                    · refine sh_Lk_lift (T := m19.T) (I := sh_u2 m19.I 121 2 (m19.I 66 92)) (J := m19.J) (s := m19.s) (pc2 := 209) (lv2 := [(0, .ref 67)]) (st2 := [.int 10, .ref 67]) (I2 := sh_u2 m19.I 121 2 (m19.I 66 92)) (J2 := m19.J) (fun hT v kk => ?_) ?_
                      · refine sh_jc (c := .le) (off := (13)) (pc2 := 206) true rfl (sh_Blet c) rfl ?_
                        refine sh_w (i := (.aload_n 0)) (len := 1) (pc2 := 207) (lv2 := [(0, .ref 67)]) (st2 := [.ref 67]) (h2 := (sh_rep m19.T (sh_u2 m19.I 121 2 (m19.I 66 92)) m19.J)) rfl rfl rfl ?_
                        refine sh_w (i := (.bipush 10)) (len := 2) (pc2 := 209) (lv2 := [(0, .ref 67)]) (st2 := [.int 10, .ref 67]) (h2 := (sh_rep m19.T (sh_u2 m19.I 121 2 (m19.I 66 92)) m19.J)) rfl rfl rfl ?_
                        exact kk
                      obtain ⟨r11, m21, e11, e⟩ := sh_bn_e e
                      refine sh_Lk_cV (r := (some (.int (sh_b2 r11)))) (st2 := [.int (sh_b2 r11)]) (pc2 := 212) (k2 := 327) (a := 66) (as := [.ref 67, .int 10]) (rest := []) rfl rfl rfl (fun hT => (sh_s66 hT.st)) rfl rfl ⟨Nat.le_of_ble_eq_true rfl, Nat.le_of_ble_eq_true rfl⟩ (sl_327 e11 ⟨rfl, rfl⟩) rfl rfl (Nat.le_of_ble_eq_true rfl) (Nat.le_of_ble_eq_true rfl) ?_
                      rcases sh_ite e with ⟨c, e⟩ | ⟨c, e⟩
                      · refine sh_Lk_lift (T := m21.T) (I := m21.I) (J := m21.J) (s := m21.s) (pc2 := 221) (lv2 := [(0, .ref 67)]) (st2 := [.ref 1000021, .ref 67]) (I2 := m21.I) (J2 := m21.J) (fun hT v kk => ?_) ?_
                        · refine sh_j0 (c := .ne) (off := (5)) (pc2 := 217) true rfl (sh_Znet c) rfl ?_
                          refine sh_w (i := (.aload_n 0)) (len := 1) (pc2 := 218) (lv2 := [(0, .ref 67)]) (st2 := [.ref 67]) (h2 := (sh_rep m21.T m21.I m21.J)) rfl rfl rfl ?_
                          refine sh_w (i := (.ldc_w 606)) (len := 3) (pc2 := 221) (lv2 := [(0, .ref 67)]) (st2 := [.ref 1000021, .ref 67]) (h2 := (sh_rep m21.T m21.I m21.J)) rfl rfl rfl ?_
                          exact kk
                        obtain ⟨r12, m22, e12, e⟩ := sh_bn_e e
                        refine sh_Lk_cV (r := (some (.int (sh_b2 r12)))) (st2 := [.int (sh_b2 r12)]) (pc2 := 224) (k2 := 328) (a := 66) (as := [.ref 67, .ref 1000021]) (rest := []) rfl rfl rfl (fun hT => (sh_s66 hT.st)) rfl rfl ⟨Nat.le_of_ble_eq_true rfl, Nat.le_of_ble_eq_true rfl⟩ (sl_328 e12 ⟨rfl, rfl⟩) rfl rfl (Nat.le_of_ble_eq_true rfl) (Nat.le_of_ble_eq_true rfl) ?_
                        rcases sh_ite e with ⟨c, e⟩ | ⟨c, e⟩
                        · refine sh_Lk_lift (T := m22.T) (I := m22.I) (J := m22.J) (s := m22.s) (pc2 := 231) (lv2 := [(1, .int 0), (0, .ref 67)]) (st2 := []) (I2 := m22.I) (J2 := m22.J) (fun hT v kk => ?_) ?_
                          · refine sh_j0 (c := .ne) (off := (5)) (pc2 := 229) true rfl (sh_Znet c) rfl ?_
                            refine sh_w (i := (.iconst 0)) (len := 1) (pc2 := 230) (lv2 := [(0, .ref 67)]) (st2 := [.int 0]) (h2 := (sh_rep m22.T m22.I m22.J)) rfl rfl rfl ?_
                            refine sh_w (i := (.istore_n 1)) (len := 1) (pc2 := 231) (lv2 := [(1, .int 0), (0, .ref 67)]) (st2 := []) (h2 := (sh_rep m22.T m22.I m22.J)) rfl rfl rfl ?_
                            exact kk
                          exact sh_Lk_sub (sh_sub_c rfl (sh_sub_c rfl (sh_sub_n))) (sl_324_231 e tg)
                        · refine sh_Lk_lift (T := m22.T) (I := m22.I) (J := m22.J) (s := m22.s) (pc2 := 228) (lv2 := [(0, .ref 67)]) (st2 := [.int 0]) (I2 := m22.I) (J2 := m22.J) (fun hT v kk => ?_) ?_
                          · refine sh_j0 (c := .ne) (off := (5)) (pc2 := 227) false rfl (sh_Znef c) rfl ?_
                            refine sh_w (i := (.iconst 0)) (len := 1) (pc2 := 228) (lv2 := [(0, .ref 67)]) (st2 := [.int 0]) (h2 := (sh_rep m22.T m22.I m22.J)) rfl rfl rfl ?_
                            exact kk
                          obtain rfl := Option.some.inj e
                          obtain ⟨rfl, rfl⟩ := tg
                          exact sh_Lk_ret (i := .ireturn) rfl rfl rfl (Nat.le_of_ble_eq_true rfl) (Nat.le_of_ble_eq_true rfl)
                      · refine sh_Lk_lift (T := m21.T) (I := m21.I) (J := m21.J) (s := m21.s) (pc2 := 216) (lv2 := [(0, .ref 67)]) (st2 := [.int 0]) (I2 := m21.I) (J2 := m21.J) (fun hT v kk => ?_) ?_
                        · refine sh_j0 (c := .ne) (off := (5)) (pc2 := 215) false rfl (sh_Znef c) rfl ?_
                          refine sh_w (i := (.iconst 0)) (len := 1) (pc2 := 216) (lv2 := [(0, .ref 67)]) (st2 := [.int 0]) (h2 := (sh_rep m21.T m21.I m21.J)) rfl rfl rfl ?_
                          exact kk
                        obtain rfl := Option.some.inj e
                        obtain ⟨rfl, rfl⟩ := tg
                        exact sh_Lk_ret (i := .ireturn) rfl rfl rfl (Nat.le_of_ble_eq_true rfl) (Nat.le_of_ble_eq_true rfl)
                  · refine sh_Lk_lift (T := m19.T) (I := m19.I) (J := m19.J) (s := m19.s) (pc2 := 172) (lv2 := [(0, .ref 67)]) (st2 := [.int 0]) (I2 := m19.I) (J2 := m19.J) (fun hT v kk => ?_) ?_
                    · refine sh_j0 (c := .ne) (off := (5)) (pc2 := 171) false rfl (sh_Znef c) rfl ?_
                      refine sh_w (i := (.iconst 0)) (len := 1) (pc2 := 172) (lv2 := [(0, .ref 67)]) (st2 := [.int 0]) (h2 := (sh_rep m19.T m19.I m19.J)) rfl rfl rfl ?_
                      exact kk
                    obtain rfl := Option.some.inj e
                    obtain ⟨rfl, rfl⟩ := tg
                    exact sh_Lk_ret (i := .ireturn) rfl rfl rfl (Nat.le_of_ble_eq_true rfl) (Nat.le_of_ble_eq_true rfl)
                · refine sh_Lk_lift (T := m18.T) (I := m18.I) (J := m18.J) (s := m18.s) (pc2 := 172) (lv2 := [(0, .ref 67)]) (st2 := [.int 0]) (I2 := m18.I) (J2 := m18.J) (fun hT v kk => ?_) ?_
                  · refine sh_j0 (c := .eq) (off := (14)) (pc2 := 171) true rfl (sh_Zeqt c) rfl ?_
                    refine sh_w (i := (.iconst 0)) (len := 1) (pc2 := 172) (lv2 := [(0, .ref 67)]) (st2 := [.int 0]) (h2 := (sh_rep m18.T m18.I m18.J)) rfl rfl rfl ?_
                    exact kk
                  obtain rfl := Option.some.inj e
                  obtain ⟨rfl, rfl⟩ := tg
                  exact sh_Lk_ret (i := .ireturn) rfl rfl rfl (Nat.le_of_ble_eq_true rfl) (Nat.le_of_ble_eq_true rfl)
              · refine sh_Lk_lift (T := m17.T) (I := m17.I) (J := m17.J) (s := m17.s) (pc2 := 172) (lv2 := [(0, .ref 67)]) (st2 := [.int 0]) (I2 := m17.I) (J2 := m17.J) (fun hT v kk => ?_) ?_
                · refine sh_j0 (c := .eq) (off := (25)) (pc2 := 171) true rfl (sh_Zeqt c) rfl ?_
                  refine sh_w (i := (.iconst 0)) (len := 1) (pc2 := 172) (lv2 := [(0, .ref 67)]) (st2 := [.int 0]) (h2 := (sh_rep m17.T m17.I m17.J)) rfl rfl rfl ?_
                  exact kk
                obtain rfl := Option.some.inj e
                obtain ⟨rfl, rfl⟩ := tg
                exact sh_Lk_ret (i := .ireturn) rfl rfl rfl (Nat.le_of_ble_eq_true rfl) (Nat.le_of_ble_eq_true rfl)
          · refine sh_Lk_lift (T := m15.T) (I := m15.I) (J := m15.J) (s := m15.s) (pc2 := 99) (lv2 := [(0, .ref 67)]) (st2 := [.int 0]) (I2 := m15.I) (J2 := m15.J) (fun hT v kk => ?_) ?_
            · refine sh_j0 (c := .ne) (off := (5)) (pc2 := 98) false rfl (sh_Znef c) rfl ?_
              refine sh_w (i := (.iconst 0)) (len := 1) (pc2 := 99) (lv2 := [(0, .ref 67)]) (st2 := [.int 0]) (h2 := (sh_rep m15.T m15.I m15.J)) rfl rfl rfl ?_
              exact kk
            obtain rfl := Option.some.inj e
            obtain ⟨rfl, rfl⟩ := tg
            exact sh_Lk_ret (i := .ireturn) rfl rfl rfl (Nat.le_of_ble_eq_true rfl) (Nat.le_of_ble_eq_true rfl)
        · refine sh_Lk_lift (T := m14.T) (I := m14.I) (J := m14.J) (s := m14.s) (pc2 := 76) (lv2 := [(0, .ref 67)]) (st2 := [.int 0]) (I2 := m14.I) (J2 := m14.J) (fun hT v kk => ?_) ?_
          · refine sh_j0 (c := .ne) (off := (5)) (pc2 := 75) false rfl (sh_Znef c) rfl ?_
            refine sh_w (i := (.iconst 0)) (len := 1) (pc2 := 76) (lv2 := [(0, .ref 67)]) (st2 := [.int 0]) (h2 := (sh_rep m14.T m14.I m14.J)) rfl rfl rfl ?_
            exact kk
          obtain rfl := Option.some.inj e
          obtain ⟨rfl, rfl⟩ := tg
          exact sh_Lk_ret (i := .ireturn) rfl rfl rfl (Nat.le_of_ble_eq_true rfl) (Nat.le_of_ble_eq_true rfl)
      · refine sh_Lk_lift (T := m13.T) (I := m13.I) (J := m13.J) (s := m13.s) (pc2 := 76) (lv2 := [(0, .ref 67)]) (st2 := [.int 0]) (I2 := m13.I) (J2 := m13.J) (fun hT v kk => ?_) ?_
        · refine sh_j0 (c := .eq) (off := (16)) (pc2 := 75) true rfl (sh_Zeqt c) rfl ?_
          refine sh_w (i := (.iconst 0)) (len := 1) (pc2 := 76) (lv2 := [(0, .ref 67)]) (st2 := [.int 0]) (h2 := (sh_rep m13.T m13.I m13.J)) rfl rfl rfl ?_
          exact kk
        obtain rfl := Option.some.inj e
        obtain ⟨rfl, rfl⟩ := tg
        exact sh_Lk_ret (i := .ireturn) rfl rfl rfl (Nat.le_of_ble_eq_true rfl) (Nat.le_of_ble_eq_true rfl)
    · refine sh_Lk_lift (T := m12.T) (I := m12.I) (J := m12.J) (s := m12.s) (pc2 := 42) (lv2 := [(0, .ref 67)]) (st2 := [.int 0]) (I2 := m12.I) (J2 := m12.J) (fun hT v kk => ?_) ?_
      · refine sh_j0 (c := .ne) (off := (5)) (pc2 := 41) false rfl (sh_Znef c) rfl ?_
        refine sh_w (i := (.iconst 0)) (len := 1) (pc2 := 42) (lv2 := [(0, .ref 67)]) (st2 := [.int 0]) (h2 := (sh_rep m12.T m12.I m12.J)) rfl rfl rfl ?_
        exact kk
      obtain rfl := Option.some.inj e
      obtain ⟨rfl, rfl⟩ := tg
      exact sh_Lk_ret (i := .ireturn) rfl rfl rfl (Nat.le_of_ble_eq_true rfl) (Nat.le_of_ble_eq_true rfl)
  · refine sh_Lk_lift (T := m11.T) (I := m11.I) (J := m11.J) (s := m11.s) (pc2 := 19) (lv2 := [(0, .ref 67)]) (st2 := [.int 0]) (I2 := m11.I) (J2 := m11.J) (fun hT v kk => ?_) ?_
    · refine sh_j0 (c := .ne) (off := (5)) (pc2 := 18) false rfl (sh_Znef c) rfl ?_
      refine sh_w (i := (.iconst 0)) (len := 1) (pc2 := 19) (lv2 := [(0, .ref 67)]) (st2 := [.int 0]) (h2 := (sh_rep m11.T m11.I m11.J)) rfl rfl rfl ?_
      exact kk
    obtain rfl := Option.some.inj e
    obtain ⟨rfl, rfl⟩ := tg
    exact sh_Lk_ret (i := .ireturn) rfl rfl rfl (Nat.le_of_ble_eq_true rfl) (Nat.le_of_ble_eq_true rfl)
theorem sl_323_47 {x1 : Bool} {m m2 : sh_X} {o : Outcome} {z : (Int32 × sh_X)} (e : sf_323_47 x1 m = some z) (tg : (sh_tI o m2) z) : sh_Lk 323 47 [(1, .int (sh_b2 x1))] [] m o m2 33 666 := by
  unfold sf_323_47 at e
  refine sh_Lk_lift (T := m.T) (I := m.I) (J := m.J) (s := m.s) (pc2 := 48) (lv2 := [(1, .int (sh_b2 x1))]) (st2 := [.int (sh_b2 x1)]) (I2 := m.I) (J2 := m.J) (fun hT v kk => ?_) ?_
  · refine sh_w (i := (.iload_n 1)) (len := 1) (pc2 := 48) (lv2 := [(1, .int (sh_b2 x1))]) (st2 := [.int (sh_b2 x1)]) (h2 := (sh_rep m.T m.I m.J)) rfl rfl rfl ?_
    exact kk
  rcases sh_ite e with ⟨c, e⟩ | ⟨c, e⟩
  · refine sh_Lk_lift (T := m.T) (I := m.I) (J := m.J) (s := m.s) (pc2 := 56) (lv2 := [(1, .int (sh_b2 x1))]) (st2 := [.int 0]) (I2 := m.I) (J2 := m.J) (fun hT v kk => ?_) ?_
    · refine sh_j0 (c := .eq) (off := (7)) (pc2 := 51) false rfl (sh_Zeqf c) rfl ?_
      refine sh_w (i := (.iconst 0)) (len := 1) (pc2 := 52) (lv2 := [(1, .int (sh_b2 x1))]) (st2 := [.int 0]) (h2 := (sh_rep m.T m.I m.J)) rfl rfl rfl ?_
      refine sh_w (i := (.goto 4)) (len := 3) (pc2 := 56) (lv2 := [(1, .int (sh_b2 x1))]) (st2 := [.int 0]) (h2 := (sh_rep m.T m.I m.J)) rfl rfl rfl ?_
      exact kk
    obtain rfl := Option.some.inj e
    obtain ⟨rfl, rfl⟩ := tg
    exact sh_Lk_ret (i := .ireturn) rfl rfl rfl (Nat.le_of_ble_eq_true rfl) (Nat.le_of_ble_eq_true rfl)
  · refine sh_Lk_lift (T := m.T) (I := m.I) (J := m.J) (s := m.s) (pc2 := 56) (lv2 := [(1, .int (sh_b2 x1))]) (st2 := [.int 2]) (I2 := m.I) (J2 := m.J) (fun hT v kk => ?_) ?_
    · refine sh_j0 (c := .eq) (off := (7)) (pc2 := 55) true rfl (sh_Zeqt c) rfl ?_
      refine sh_w (i := (.iconst 2)) (len := 1) (pc2 := 56) (lv2 := [(1, .int (sh_b2 x1))]) (st2 := [.int 2]) (h2 := (sh_rep m.T m.I m.J)) rfl rfl rfl ?_
      exact kk
    obtain rfl := Option.some.inj e
    obtain ⟨rfl, rfl⟩ := tg
    exact sh_Lk_ret (i := .ireturn) rfl rfl rfl (Nat.le_of_ble_eq_true rfl) (Nat.le_of_ble_eq_true rfl)
theorem sl_323_35 {x1 : Bool} {y1 : Int32} {m m2 : sh_X} {o : Outcome} {z : (Int32 × sh_X)} (e : sf_323_35 x1 y1 m = some z) (tg : (sh_tI o m2) z) : sh_Lk 323 35 [(0, .ref 67), (1, .int (sh_b2 x1))] [.int y1, .ref 67] m o m2 33 666 := by
  unfold sf_323_35 at e
  refine sh_Lk_lift (T := m.T) (I := m.I) (J := m.J) (s := m.s) (pc2 := 39) (lv2 := [(0, .ref 67), (1, .int (sh_b2 x1))]) (st2 := [.int (sh_b2 x1)]) (I2 := sh_u2 m.I 66 4 y1) (J2 := m.J) (fun hT v kk => ?_) ?_
  · refine sh_pI1 (x := y1) (pc2 := 38) rfl rfl (sh_s66 hT.st) rfl rfl rfl rfl ?_
    refine sh_w (i := (.iload_n 1)) (len := 1) (pc2 := 39) (lv2 := [(0, .ref 67), (1, .int (sh_b2 x1))]) (st2 := [.int (sh_b2 x1)]) (h2 := (sh_rep m.T (sh_u2 m.I 66 4 y1) m.J)) rfl rfl rfl ?_
    exact kk
  rcases sh_ite e with ⟨c, e⟩ | ⟨c, e⟩
  · refine sh_Lk_lift (T := m.T) (I := sh_u2 m.I 66 4 y1) (J := m.J) (s := m.s) (pc2 := 47) (lv2 := [(0, .ref 67), (1, .int (sh_b2 x1))]) (st2 := []) (I2 := sh_u2 (sh_u2 m.I 66 4 y1) 66 7 (-1)) (J2 := m.J) (fun hT v kk => ?_) ?_
    · refine sh_j0 (c := .eq) (off := (8)) (pc2 := 42) false rfl (sh_Zeqf c) rfl ?_
      refine sh_w (i := (.aload_n 0)) (len := 1) (pc2 := 43) (lv2 := [(0, .ref 67), (1, .int (sh_b2 x1))]) (st2 := [.ref 67]) (h2 := (sh_rep m.T (sh_u2 m.I 66 4 y1) m.J)) rfl rfl rfl ?_
      refine sh_w (i := (.iconst (-1))) (len := 1) (pc2 := 44) (lv2 := [(0, .ref 67), (1, .int (sh_b2 x1))]) (st2 := [.int (-1), .ref 67]) (h2 := (sh_rep m.T (sh_u2 m.I 66 4 y1) m.J)) rfl rfl rfl ?_
      refine sh_pI1 (x := (-1)) (pc2 := 47) rfl rfl (sh_s66 hT.st) rfl rfl rfl rfl ?_
      exact kk
    exact sh_Lk_sub (sh_sub_c rfl (sh_sub_n)) (sl_323_47 e tg)
  · refine sh_Lk_lift (T := m.T) (I := sh_u2 m.I 66 4 y1) (J := m.J) (s := m.s) (pc2 := 47) (lv2 := [(0, .ref 67), (1, .int (sh_b2 x1))]) (st2 := []) (I2 := sh_u2 m.I 66 4 y1) (J2 := m.J) (fun hT v kk => ?_) ?_
    · refine sh_j0 (c := .eq) (off := (8)) (pc2 := 47) true rfl (sh_Zeqt c) rfl ?_
      exact kk
    exact sh_Lk_sub (sh_sub_c rfl (sh_sub_n)) (sl_323_47 e tg)
theorem sl_323 {m m2 : sh_X} {o : Outcome} {z : (Int32 × sh_X)} (e : sf_323 m = some z) (tg : (sh_tI o m2) z) : sh_Lk 323 0 [(0, .ref 67)] [] m o m2 33 666 := by
  unfold sf_323 at e
  refine sh_Lk_lift (T := m.T) (I := m.I) (J := m.J) (s := m.s) (pc2 := 11) (lv2 := [(0, .ref 67)]) (st2 := [.int 24, .int (m.I 66 80)]) (I2 := sh_u2 m.I 66 0 0) (J2 := m.J) (fun hT v kk => ?_) ?_
  · refine sh_w (i := (.aload_n 0)) (len := 1) (pc2 := 1) (lv2 := [(0, .ref 67)]) (st2 := [.ref 67]) (h2 := (sh_rep m.T m.I m.J)) rfl rfl rfl ?_
    refine sh_w (i := (.iconst 0)) (len := 1) (pc2 := 2) (lv2 := [(0, .ref 67)]) (st2 := [.int 0, .ref 67]) (h2 := (sh_rep m.T m.I m.J)) rfl rfl rfl ?_
    refine sh_pI1 (x := 0) (pc2 := 5) rfl rfl (sh_s66 hT.st) rfl rfl rfl rfl ?_
    refine sh_w (i := (.aload_n 0)) (len := 1) (pc2 := 6) (lv2 := [(0, .ref 67)]) (st2 := [.ref 67]) (h2 := (sh_rep m.T (sh_u2 m.I 66 0 0) m.J)) rfl rfl rfl ?_
    refine sh_gI1 (len := 3) (x := m.I 66 80) (pc2 := 9) rfl rfl (sh_s66 hT.st) rfl rfl rfl ?_
    refine sh_w (i := (.bipush 24)) (len := 2) (pc2 := 11) (lv2 := [(0, .ref 67)]) (st2 := [.int 24, .int (m.I 66 80)]) (h2 := (sh_rep m.T (sh_u2 m.I 66 0 0) m.J)) rfl rfl rfl ?_
    exact kk
  rcases sh_ite e with ⟨c, e⟩ | ⟨c, e⟩
  · refine sh_Lk_lift (T := m.T) (I := sh_u2 m.I 66 0 0) (J := m.J) (s := m.s) (pc2 := 15) (lv2 := [(0, .ref 67)]) (st2 := [.int (-1)]) (I2 := sh_u2 m.I 66 0 0) (J2 := m.J) (fun hT v kk => ?_) ?_
    · refine sh_jc (c := .ne) (off := (5)) (pc2 := 14) false rfl (sh_Bnef c) rfl ?_
      refine sh_w (i := (.iconst (-1))) (len := 1) (pc2 := 15) (lv2 := [(0, .ref 67)]) (st2 := [.int (-1)]) (h2 := (sh_rep m.T (sh_u2 m.I 66 0 0) m.J)) rfl rfl rfl ?_
      exact kk
    obtain rfl := Option.some.inj e
    obtain ⟨rfl, rfl⟩ := tg
    exact sh_Lk_ret (i := .ireturn) rfl rfl rfl (Nat.le_of_ble_eq_true rfl) (Nat.le_of_ble_eq_true rfl)
  · refine sh_Lk_lift (T := m.T) (I := sh_u2 m.I 66 0 0) (J := m.J) (s := m.s) (pc2 := 17) (lv2 := [(0, .ref 67)]) (st2 := [.ref 67]) (I2 := sh_u2 m.I 66 0 0) (J2 := m.J) (fun hT v kk => ?_) ?_
    · refine sh_jc (c := .ne) (off := (5)) (pc2 := 16) true rfl (sh_Bnet c) rfl ?_
      refine sh_w (i := (.aload_n 0)) (len := 1) (pc2 := 17) (lv2 := [(0, .ref 67)]) (st2 := [.ref 67]) (h2 := (sh_rep m.T (sh_u2 m.I 66 0 0) m.J)) rfl rfl rfl ?_
      exact kk
    obtain ⟨r1, m11, e1, e⟩ := sh_bn_e e
    refine sh_Lk_cV (r := none) (st2 := []) (pc2 := 20) (k2 := 247) (a := 66) (as := [.ref 67]) (rest := []) rfl rfl rfl (fun hT => (sh_s66 hT.st)) rfl rfl ⟨Nat.le_of_ble_eq_true rfl, Nat.le_of_ble_eq_true rfl⟩ (sl_247 e1 ⟨rfl, rfl⟩) rfl rfl (Nat.le_of_ble_eq_true rfl) (Nat.le_of_ble_eq_true rfl) ?_
    refine sh_Lk_lift (T := m11.T) (I := m11.I) (J := m11.J) (s := m11.s) (pc2 := 21) (lv2 := [(0, .ref 67)]) (st2 := [.ref 67]) (I2 := m11.I) (J2 := m11.J) (fun hT v kk => ?_) ?_
    · refine sh_w (i := (.aload_n 0)) (len := 1) (pc2 := 21) (lv2 := [(0, .ref 67)]) (st2 := [.ref 67]) (h2 := (sh_rep m11.T m11.I m11.J)) rfl rfl rfl ?_
      exact kk
    obtain ⟨r2, m12, e2, e⟩ := sh_bn_e e
    refine sh_Lk_cV (r := (some (.int (sh_b2 r2)))) (st2 := [.int (sh_b2 r2)]) (pc2 := 24) (k2 := 324) (a := 66) (as := [.ref 67]) (rest := []) rfl rfl rfl (fun hT => (sh_s66 hT.st)) rfl rfl ⟨Nat.le_of_ble_eq_true rfl, Nat.le_of_ble_eq_true rfl⟩ (sl_324 e2 ⟨rfl, rfl⟩) rfl rfl (Nat.le_of_ble_eq_true rfl) (Nat.le_of_ble_eq_true rfl) ?_
    refine sh_Lk_lift (T := m12.T) (I := m12.I) (J := m12.J) (s := m12.s) (pc2 := 27) (lv2 := [(1, .int (sh_b2 r2)), (0, .ref 67)]) (st2 := [.int (sh_b2 r2), .ref 67]) (I2 := m12.I) (J2 := m12.J) (fun hT v kk => ?_) ?_
    · refine sh_w (i := (.istore_n 1)) (len := 1) (pc2 := 25) (lv2 := [(1, .int (sh_b2 r2)), (0, .ref 67)]) (st2 := []) (h2 := (sh_rep m12.T m12.I m12.J)) rfl rfl rfl ?_
      refine sh_w (i := (.aload_n 0)) (len := 1) (pc2 := 26) (lv2 := [(1, .int (sh_b2 r2)), (0, .ref 67)]) (st2 := [.ref 67]) (h2 := (sh_rep m12.T m12.I m12.J)) rfl rfl rfl ?_
      refine sh_w (i := (.iload_n 1)) (len := 1) (pc2 := 27) (lv2 := [(1, .int (sh_b2 r2)), (0, .ref 67)]) (st2 := [.int (sh_b2 r2), .ref 67]) (h2 := (sh_rep m12.T m12.I m12.J)) rfl rfl rfl ?_
      exact kk
    rcases sh_ite e with ⟨c, e⟩ | ⟨c, e⟩
    · refine sh_Lk_lift (T := m12.T) (I := m12.I) (J := m12.J) (s := m12.s) (pc2 := 35) (lv2 := [(1, .int (sh_b2 r2)), (0, .ref 67)]) (st2 := [.int 2, .ref 67]) (I2 := m12.I) (J2 := m12.J) (fun hT v kk => ?_) ?_
      · refine sh_j0 (c := .eq) (off := (7)) (pc2 := 30) false rfl (sh_Zeqf c) rfl ?_
        refine sh_w (i := (.iconst 2)) (len := 1) (pc2 := 31) (lv2 := [(1, .int (sh_b2 r2)), (0, .ref 67)]) (st2 := [.int 2, .ref 67]) (h2 := (sh_rep m12.T m12.I m12.J)) rfl rfl rfl ?_
        refine sh_w (i := (.goto 4)) (len := 3) (pc2 := 35) (lv2 := [(1, .int (sh_b2 r2)), (0, .ref 67)]) (st2 := [.int 2, .ref 67]) (h2 := (sh_rep m12.T m12.I m12.J)) rfl rfl rfl ?_
        exact kk
      exact sh_Lk_sub (sh_sub_c rfl (sh_sub_c rfl (sh_sub_n))) (sl_323_35 e tg)
    · refine sh_Lk_lift (T := m12.T) (I := m12.I) (J := m12.J) (s := m12.s) (pc2 := 35) (lv2 := [(1, .int (sh_b2 r2)), (0, .ref 67)]) (st2 := [.int 0, .ref 67]) (I2 := m12.I) (J2 := m12.J) (fun hT v kk => ?_) ?_
      · refine sh_j0 (c := .eq) (off := (7)) (pc2 := 34) true rfl (sh_Zeqt c) rfl ?_
        refine sh_w (i := (.iconst 0)) (len := 1) (pc2 := 35) (lv2 := [(1, .int (sh_b2 r2)), (0, .ref 67)]) (st2 := [.int 0, .ref 67]) (h2 := (sh_rep m12.T m12.I m12.J)) rfl rfl rfl ?_
        exact kk
      exact sh_Lk_sub (sh_sub_c rfl (sh_sub_c rfl (sh_sub_n))) (sl_323_35 e tg)
theorem sl_332 {m m2 : sh_X} {o : Outcome} {z : (Int32 × sh_X)} (e : sf_332 m = some z) (tg : (sh_tI o m2) z) : sh_Lk 332 0 [(0, .ref 67)] [] m o m2 8 200 := by
  unfold sf_332 at e
  refine sh_Lk_lift (T := m.T) (I := m.I) (J := m.J) (s := m.s) (pc2 := 9) (lv2 := [(0, .ref 67)]) (st2 := [.int (m.I 66 7)]) (I2 := sh_u2 m.I 66 0 0) (J2 := m.J) (fun hT v kk => ?_) ?_
  · refine sh_w (i := (.aload_n 0)) (len := 1) (pc2 := 1) (lv2 := [(0, .ref 67)]) (st2 := [.ref 67]) (h2 := (sh_rep m.T m.I m.J)) rfl rfl rfl ?_
    refine sh_w (i := (.iconst 0)) (len := 1) (pc2 := 2) (lv2 := [(0, .ref 67)]) (st2 := [.int 0, .ref 67]) (h2 := (sh_rep m.T m.I m.J)) rfl rfl rfl ?_
    refine sh_pI1 (x := 0) (pc2 := 5) rfl rfl (sh_s66 hT.st) rfl rfl rfl rfl ?_
    refine sh_w (i := (.aload_n 0)) (len := 1) (pc2 := 6) (lv2 := [(0, .ref 67)]) (st2 := [.ref 67]) (h2 := (sh_rep m.T (sh_u2 m.I 66 0 0) m.J)) rfl rfl rfl ?_
    refine sh_gI1 (len := 3) (x := m.I 66 7) (pc2 := 9) rfl rfl (sh_s66 hT.st) rfl rfl rfl ?_
    exact kk
  obtain rfl := Option.some.inj e
  obtain ⟨rfl, rfl⟩ := tg
  exact sh_Lk_ret (i := .ireturn) rfl rfl rfl (Nat.le_of_ble_eq_true rfl) (Nat.le_of_ble_eq_true rfl)
theorem sl_333 {x1 : Int32} {m m2 : sh_X} {o : Outcome} {z : (Int32 × sh_X)} (e : sf_333 x1 m = some z) (tg : (sh_tI o m2) z) : sh_Lk 333 0 [(0, .ref 67), (1, .int x1)] [] m o m2 8 200 := by
  unfold sf_333 at e
  refine sh_Lk_lift (T := m.T) (I := m.I) (J := m.J) (s := m.s) (pc2 := 9) (lv2 := [(0, .ref 67), (1, .int x1)]) (st2 := [.int (m.I 66 4)]) (I2 := sh_u2 m.I 66 0 0) (J2 := m.J) (fun hT v kk => ?_) ?_
  · refine sh_w (i := (.aload_n 0)) (len := 1) (pc2 := 1) (lv2 := [(0, .ref 67), (1, .int x1)]) (st2 := [.ref 67]) (h2 := (sh_rep m.T m.I m.J)) rfl rfl rfl ?_
    refine sh_w (i := (.iconst 0)) (len := 1) (pc2 := 2) (lv2 := [(0, .ref 67), (1, .int x1)]) (st2 := [.int 0, .ref 67]) (h2 := (sh_rep m.T m.I m.J)) rfl rfl rfl ?_
    refine sh_pI1 (x := 0) (pc2 := 5) rfl rfl (sh_s66 hT.st) rfl rfl rfl rfl ?_
    refine sh_w (i := (.aload_n 0)) (len := 1) (pc2 := 6) (lv2 := [(0, .ref 67), (1, .int x1)]) (st2 := [.ref 67]) (h2 := (sh_rep m.T (sh_u2 m.I 66 0 0) m.J)) rfl rfl rfl ?_
    refine sh_gI1 (len := 3) (x := m.I 66 4) (pc2 := 9) rfl rfl (sh_s66 hT.st) rfl rfl rfl ?_
    exact kk
  rcases sh_ite e with ⟨c, e⟩ | ⟨c, e⟩
  · refine sh_Lk_lift (T := m.T) (I := sh_u2 m.I 66 0 0) (J := m.J) (s := m.s) (pc2 := 23) (lv2 := [(0, .ref 67), (1, .int x1)]) (st2 := [.int (-1)]) (I2 := sh_u2 m.I 66 0 0) (J2 := m.J) (fun hT v kk => ?_) ?_
    · refine sh_j0 (c := .eq) (off := (13)) (pc2 := 22) true rfl (sh_Beqt c) rfl ?_
      refine sh_w (i := (.iconst (-1))) (len := 1) (pc2 := 23) (lv2 := [(0, .ref 67), (1, .int x1)]) (st2 := [.int (-1)]) (h2 := (sh_rep m.T (sh_u2 m.I 66 0 0) m.J)) rfl rfl rfl ?_
      exact kk
    obtain rfl := Option.some.inj e
    obtain ⟨rfl, rfl⟩ := tg
    exact sh_Lk_ret (i := .ireturn) rfl rfl rfl (Nat.le_of_ble_eq_true rfl) (Nat.le_of_ble_eq_true rfl)
  · refine sh_Lk_lift (T := m.T) (I := sh_u2 m.I 66 0 0) (J := m.J) (s := m.s) (pc2 := 13) (lv2 := [(0, .ref 67), (1, .int x1)]) (st2 := [.int x1]) (I2 := sh_u2 m.I 66 0 0) (J2 := m.J) (fun hT v kk => ?_) ?_
    · refine sh_j0 (c := .eq) (off := (13)) (pc2 := 12) false rfl (sh_Beqf c) rfl ?_
      refine sh_w (i := (.iload_n 1)) (len := 1) (pc2 := 13) (lv2 := [(0, .ref 67), (1, .int x1)]) (st2 := [.int x1]) (h2 := (sh_rep m.T (sh_u2 m.I 66 0 0) m.J)) rfl rfl rfl ?_
      exact kk
    rcases sh_ite e with ⟨c, e⟩ | ⟨c, e⟩
    · refine sh_Lk_lift (T := m.T) (I := sh_u2 m.I 66 0 0) (J := m.J) (s := m.s) (pc2 := 23) (lv2 := [(0, .ref 67), (1, .int x1)]) (st2 := [.int (-1)]) (I2 := sh_u2 m.I 66 0 0) (J2 := m.J) (fun hT v kk => ?_) ?_
      · refine sh_j0 (c := .lt) (off := (9)) (pc2 := 22) true rfl (sh_Bltt c) rfl ?_
        refine sh_w (i := (.iconst (-1))) (len := 1) (pc2 := 23) (lv2 := [(0, .ref 67), (1, .int x1)]) (st2 := [.int (-1)]) (h2 := (sh_rep m.T (sh_u2 m.I 66 0 0) m.J)) rfl rfl rfl ?_
        exact kk
      obtain rfl := Option.some.inj e
      obtain ⟨rfl, rfl⟩ := tg
      exact sh_Lk_ret (i := .ireturn) rfl rfl rfl (Nat.le_of_ble_eq_true rfl) (Nat.le_of_ble_eq_true rfl)
    · refine sh_Lk_lift (T := m.T) (I := sh_u2 m.I 66 0 0) (J := m.J) (s := m.s) (pc2 := 19) (lv2 := [(0, .ref 67), (1, .int x1)]) (st2 := [.int 6, .int x1]) (I2 := sh_u2 m.I 66 0 0) (J2 := m.J) (fun hT v kk => ?_) ?_
      · refine sh_j0 (c := .lt) (off := (9)) (pc2 := 16) false rfl (sh_Bltf c) rfl ?_
        refine sh_w (i := (.iload_n 1)) (len := 1) (pc2 := 17) (lv2 := [(0, .ref 67), (1, .int x1)]) (st2 := [.int x1]) (h2 := (sh_rep m.T (sh_u2 m.I 66 0 0) m.J)) rfl rfl rfl ?_
        refine sh_w (i := (.bipush 6)) (len := 2) (pc2 := 19) (lv2 := [(0, .ref 67), (1, .int x1)]) (st2 := [.int 6, .int x1]) (h2 := (sh_rep m.T (sh_u2 m.I 66 0 0) m.J)) rfl rfl rfl ?_
        exact kk
      rcases sh_ite e with ⟨c, e⟩ | ⟨c, e⟩
      · refine sh_Lk_lift (T := m.T) (I := sh_u2 m.I 66 0 0) (J := m.J) (s := m.s) (pc2 := 23) (lv2 := [(0, .ref 67), (1, .int x1)]) (st2 := [.int (-1)]) (I2 := sh_u2 m.I 66 0 0) (J2 := m.J) (fun hT v kk => ?_) ?_
        · refine sh_jc (c := .le) (off := (5)) (pc2 := 22) false rfl (sh_Blef c) rfl ?_
          refine sh_w (i := (.iconst (-1))) (len := 1) (pc2 := 23) (lv2 := [(0, .ref 67), (1, .int x1)]) (st2 := [.int (-1)]) (h2 := (sh_rep m.T (sh_u2 m.I 66 0 0) m.J)) rfl rfl rfl ?_
          exact kk
        obtain rfl := Option.some.inj e
        obtain ⟨rfl, rfl⟩ := tg
        exact sh_Lk_ret (i := .ireturn) rfl rfl rfl (Nat.le_of_ble_eq_true rfl) (Nat.le_of_ble_eq_true rfl)
      · refine sh_Lk_lift (T := m.T) (I := sh_u2 m.I 66 0 0) (J := m.J) (s := m.s) (pc2 := 26) (lv2 := [(0, .ref 67), (1, .int x1)]) (st2 := [.int 3, .int x1]) (I2 := sh_u2 m.I 66 0 0) (J2 := m.J) (fun hT v kk => ?_) ?_
        · refine sh_jc (c := .le) (off := (5)) (pc2 := 24) true rfl (sh_Blet c) rfl ?_
          refine sh_w (i := (.iload_n 1)) (len := 1) (pc2 := 25) (lv2 := [(0, .ref 67), (1, .int x1)]) (st2 := [.int x1]) (h2 := (sh_rep m.T (sh_u2 m.I 66 0 0) m.J)) rfl rfl rfl ?_
          refine sh_w (i := (.iconst 3)) (len := 1) (pc2 := 26) (lv2 := [(0, .ref 67), (1, .int x1)]) (st2 := [.int 3, .int x1]) (h2 := (sh_rep m.T (sh_u2 m.I 66 0 0) m.J)) rfl rfl rfl ?_
          exact kk
        rcases sh_ite e with ⟨c, e⟩ | ⟨c, e⟩
        · refine sh_Lk_lift (T := m.T) (I := sh_u2 m.I 66 0 0) (J := m.J) (s := m.s) (pc2 := 34) (lv2 := [(0, .ref 67), (1, .int x1)]) (st2 := [.int x1, .ref 100]) (I2 := sh_u2 m.I 66 0 0) (J2 := m.J) (fun hT v kk => ?_) ?_
          · refine sh_jc (c := .ge) (off := (10)) (pc2 := 29) false rfl (sh_Bgef c) rfl ?_
            refine sh_w (i := (.aload_n 0)) (len := 1) (pc2 := 30) (lv2 := [(0, .ref 67), (1, .int x1)]) (st2 := [.ref 67]) (h2 := (sh_rep m.T (sh_u2 m.I 66 0 0) m.J)) rfl rfl rfl ?_
            refine sh_gR1 (len := 3) (x := .ref 100) (pc2 := 33) rfl rfl (sh_s66 hT.st) rfl rfl ?_
            refine sh_w (i := (.iload_n 1)) (len := 1) (pc2 := 34) (lv2 := [(0, .ref 67), (1, .int x1)]) (st2 := [.int x1, .ref 100]) (h2 := (sh_rep m.T (sh_u2 m.I 66 0 0) m.J)) rfl rfl rfl ?_
            exact kk
          obtain ⟨c, e⟩ := sh_gd e
          refine sh_Lk_lift (T := m.T) (I := sh_u2 m.I 66 0 0) (J := m.J) (s := m.s) (pc2 := 35) (lv2 := [(0, .ref 67), (1, .int x1)]) (st2 := [.int (m.I 99 (Int32.toNatClampNeg x1))]) (I2 := sh_u2 m.I 66 0 0) (J2 := m.J) (fun hT v kk => ?_) ?_
          · refine sh_ia1 (x := m.I 99 (Int32.toNatClampNeg x1)) (pc2 := 35) rfl (sh_s99 hT.st) (sh_okb1 c) (sh_okb2 c) rfl rfl ?_
            exact kk
          obtain rfl := Option.some.inj e
          obtain ⟨rfl, rfl⟩ := tg
          exact sh_Lk_ret (i := .ireturn) rfl rfl rfl (Nat.le_of_ble_eq_true rfl) (Nat.le_of_ble_eq_true rfl)
        · refine sh_Lk_lift (T := m.T) (I := sh_u2 m.I 66 0 0) (J := m.J) (s := m.s) (pc2 := 38) (lv2 := [(0, .ref 67), (1, .int x1)]) (st2 := [.int 3, .int x1]) (I2 := sh_u2 m.I 66 0 0) (J2 := m.J) (fun hT v kk => ?_) ?_
          · refine sh_jc (c := .ge) (off := (10)) (pc2 := 36) true rfl (sh_Bget c) rfl ?_
            refine sh_w (i := (.iload_n 1)) (len := 1) (pc2 := 37) (lv2 := [(0, .ref 67), (1, .int x1)]) (st2 := [.int x1]) (h2 := (sh_rep m.T (sh_u2 m.I 66 0 0) m.J)) rfl rfl rfl ?_
            refine sh_w (i := (.iconst 3)) (len := 1) (pc2 := 38) (lv2 := [(0, .ref 67), (1, .int x1)]) (st2 := [.int 3, .int x1]) (h2 := (sh_rep m.T (sh_u2 m.I 66 0 0) m.J)) rfl rfl rfl ?_
            exact kk
          rcases sh_ite e with ⟨c, e⟩ | ⟨c, e⟩
          · refine sh_Lk_lift (T := m.T) (I := sh_u2 m.I 66 0 0) (J := m.J) (s := m.s) (pc2 := 47) (lv2 := [(0, .ref 67), (1, .int x1)]) (st2 := [.int (m.I 102 2)]) (I2 := sh_u2 m.I 66 0 0) (J2 := m.J) (fun hT v kk => ?_) ?_
            · refine sh_jc (c := .ne) (off := (10)) (pc2 := 41) false rfl (sh_Bnef c) rfl ?_
              refine sh_w (i := (.aload_n 0)) (len := 1) (pc2 := 42) (lv2 := [(0, .ref 67), (1, .int x1)]) (st2 := [.ref 67]) (h2 := (sh_rep m.T (sh_u2 m.I 66 0 0) m.J)) rfl rfl rfl ?_
              refine sh_gR1 (len := 3) (x := .ref 103) (pc2 := 45) rfl rfl (sh_s66 hT.st) rfl rfl ?_
              refine sh_w (i := (.iconst 2)) (len := 1) (pc2 := 46) (lv2 := [(0, .ref 67), (1, .int x1)]) (st2 := [.int 2, .ref 103]) (h2 := (sh_rep m.T (sh_u2 m.I 66 0 0) m.J)) rfl rfl rfl ?_
              refine sh_ia1 (x := m.I 102 2) (pc2 := 47) rfl (sh_s102 hT.st) (by decide) (by decide) rfl rfl ?_
              exact kk
            obtain rfl := Option.some.inj e
            obtain ⟨rfl, rfl⟩ := tg
            exact sh_Lk_ret (i := .ireturn) rfl rfl rfl (Nat.le_of_ble_eq_true rfl) (Nat.le_of_ble_eq_true rfl)
          · refine sh_Lk_lift (T := m.T) (I := sh_u2 m.I 66 0 0) (J := m.J) (s := m.s) (pc2 := 53) (lv2 := [(0, .ref 67), (1, .int x1)]) (st2 := [.int 1, .int (m.I 66 4)]) (I2 := sh_u2 m.I 66 0 0) (J2 := m.J) (fun hT v kk => ?_) ?_
            · refine sh_jc (c := .ne) (off := (10)) (pc2 := 48) true rfl (sh_Bnet c) rfl ?_
              refine sh_w (i := (.aload_n 0)) (len := 1) (pc2 := 49) (lv2 := [(0, .ref 67), (1, .int x1)]) (st2 := [.ref 67]) (h2 := (sh_rep m.T (sh_u2 m.I 66 0 0) m.J)) rfl rfl rfl ?_
              refine sh_gI1 (len := 3) (x := m.I 66 4) (pc2 := 52) rfl rfl (sh_s66 hT.st) rfl rfl rfl ?_
              refine sh_w (i := (.iconst 1)) (len := 1) (pc2 := 53) (lv2 := [(0, .ref 67), (1, .int x1)]) (st2 := [.int 1, .int (m.I 66 4)]) (h2 := (sh_rep m.T (sh_u2 m.I 66 0 0) m.J)) rfl rfl rfl ?_
              exact kk
            rcases sh_ite e with ⟨c, e⟩ | ⟨c, e⟩
            · refine sh_Lk_lift (T := m.T) (I := sh_u2 m.I 66 0 0) (J := m.J) (s := m.s) (pc2 := 57) (lv2 := [(0, .ref 67), (1, .int x1)]) (st2 := [.int (-1)]) (I2 := sh_u2 m.I 66 0 0) (J2 := m.J) (fun hT v kk => ?_) ?_
              · refine sh_jc (c := .ne) (off := (5)) (pc2 := 56) false rfl (sh_Bnef c) rfl ?_
                refine sh_w (i := (.iconst (-1))) (len := 1) (pc2 := 57) (lv2 := [(0, .ref 67), (1, .int x1)]) (st2 := [.int (-1)]) (h2 := (sh_rep m.T (sh_u2 m.I 66 0 0) m.J)) rfl rfl rfl ?_
                exact kk
              obtain rfl := Option.some.inj e
              obtain ⟨rfl, rfl⟩ := tg
              exact sh_Lk_ret (i := .ireturn) rfl rfl rfl (Nat.le_of_ble_eq_true rfl) (Nat.le_of_ble_eq_true rfl)
            · refine sh_Lk_lift (T := m.T) (I := sh_u2 m.I 66 0 0) (J := m.J) (s := m.s) (pc2 := 60) (lv2 := [(0, .ref 67), (1, .int x1)]) (st2 := [.int 4, .int x1]) (I2 := sh_u2 m.I 66 0 0) (J2 := m.J) (fun hT v kk => ?_) ?_
              · refine sh_jc (c := .ne) (off := (5)) (pc2 := 58) true rfl (sh_Bnet c) rfl ?_
                refine sh_w (i := (.iload_n 1)) (len := 1) (pc2 := 59) (lv2 := [(0, .ref 67), (1, .int x1)]) (st2 := [.int x1]) (h2 := (sh_rep m.T (sh_u2 m.I 66 0 0) m.J)) rfl rfl rfl ?_
                refine sh_w (i := (.iconst 4)) (len := 1) (pc2 := 60) (lv2 := [(0, .ref 67), (1, .int x1)]) (st2 := [.int 4, .int x1]) (h2 := (sh_rep m.T (sh_u2 m.I 66 0 0) m.J)) rfl rfl rfl ?_
                exact kk
              rcases sh_ite e with ⟨c, e⟩ | ⟨c, e⟩
              · refine sh_Lk_lift (T := m.T) (I := sh_u2 m.I 66 0 0) (J := m.J) (s := m.s) (pc2 := 86) (lv2 := [(0, .ref 67), (1, .int x1)]) (st2 := [.int (m.I 66 87)]) (I2 := sh_u2 m.I 66 0 0) (J2 := m.J) (fun hT v kk => ?_) ?_
                · refine sh_jc (c := .ne) (off := (10)) (pc2 := 63) false rfl (sh_Bnef c) rfl ?_
                  refine sh_w (i := (.aload_n 0)) (len := 1) (pc2 := 64) (lv2 := [(0, .ref 67), (1, .int x1)]) (st2 := [.ref 67]) (h2 := (sh_rep m.T (sh_u2 m.I 66 0 0) m.J)) rfl rfl rfl ?_
                  refine sh_gI1 (len := 3) (x := m.I 66 87) (pc2 := 67) rfl rfl (sh_s66 hT.st) rfl rfl rfl ?_
                  refine sh_w (i := (.goto 19)) (len := 3) (pc2 := 86) (lv2 := [(0, .ref 67), (1, .int x1)]) (st2 := [.int (m.I 66 87)]) (h2 := (sh_rep m.T (sh_u2 m.I 66 0 0) m.J)) rfl rfl rfl ?_
                  exact kk
                obtain rfl := Option.some.inj e
                obtain ⟨rfl, rfl⟩ := tg
                exact sh_Lk_ret (i := .ireturn) rfl rfl rfl (Nat.le_of_ble_eq_true rfl) (Nat.le_of_ble_eq_true rfl)
              · refine sh_Lk_lift (T := m.T) (I := sh_u2 m.I 66 0 0) (J := m.J) (s := m.s) (pc2 := 72) (lv2 := [(0, .ref 67), (1, .int x1)]) (st2 := [.int 5, .int x1]) (I2 := sh_u2 m.I 66 0 0) (J2 := m.J) (fun hT v kk => ?_) ?_
                · refine sh_jc (c := .ne) (off := (10)) (pc2 := 70) true rfl (sh_Bnet c) rfl ?_
                  refine sh_w (i := (.iload_n 1)) (len := 1) (pc2 := 71) (lv2 := [(0, .ref 67), (1, .int x1)]) (st2 := [.int x1]) (h2 := (sh_rep m.T (sh_u2 m.I 66 0 0) m.J)) rfl rfl rfl ?_
                  refine sh_w (i := (.iconst 5)) (len := 1) (pc2 := 72) (lv2 := [(0, .ref 67), (1, .int x1)]) (st2 := [.int 5, .int x1]) (h2 := (sh_rep m.T (sh_u2 m.I 66 0 0) m.J)) rfl rfl rfl ?_
                  exact kk
                rcases sh_ite e with ⟨c, e⟩ | ⟨c, e⟩
                · refine sh_Lk_lift (T := m.T) (I := sh_u2 m.I 66 0 0) (J := m.J) (s := m.s) (pc2 := 86) (lv2 := [(0, .ref 67), (1, .int x1)]) (st2 := [.int (m.I 66 85)]) (I2 := sh_u2 m.I 66 0 0) (J2 := m.J) (fun hT v kk => ?_) ?_
                  · refine sh_jc (c := .ne) (off := (10)) (pc2 := 75) false rfl (sh_Bnef c) rfl ?_
                    refine sh_w (i := (.aload_n 0)) (len := 1) (pc2 := 76) (lv2 := [(0, .ref 67), (1, .int x1)]) (st2 := [.ref 67]) (h2 := (sh_rep m.T (sh_u2 m.I 66 0 0) m.J)) rfl rfl rfl ?_
                    refine sh_gI1 (len := 3) (x := m.I 66 85) (pc2 := 79) rfl rfl (sh_s66 hT.st) rfl rfl rfl ?_
                    refine sh_w (i := (.goto 7)) (len := 3) (pc2 := 86) (lv2 := [(0, .ref 67), (1, .int x1)]) (st2 := [.int (m.I 66 85)]) (h2 := (sh_rep m.T (sh_u2 m.I 66 0 0) m.J)) rfl rfl rfl ?_
                    exact kk
                  obtain rfl := Option.some.inj e
                  obtain ⟨rfl, rfl⟩ := tg
                  exact sh_Lk_ret (i := .ireturn) rfl rfl rfl (Nat.le_of_ble_eq_true rfl) (Nat.le_of_ble_eq_true rfl)
                · refine sh_Lk_lift (T := m.T) (I := sh_u2 m.I 66 0 0) (J := m.J) (s := m.s) (pc2 := 86) (lv2 := [(0, .ref 67), (1, .int x1)]) (st2 := [.int (m.I 66 86)]) (I2 := sh_u2 m.I 66 0 0) (J2 := m.J) (fun hT v kk => ?_) ?_
                  · refine sh_jc (c := .ne) (off := (10)) (pc2 := 82) true rfl (sh_Bnet c) rfl ?_
                    refine sh_w (i := (.aload_n 0)) (len := 1) (pc2 := 83) (lv2 := [(0, .ref 67), (1, .int x1)]) (st2 := [.ref 67]) (h2 := (sh_rep m.T (sh_u2 m.I 66 0 0) m.J)) rfl rfl rfl ?_
                    refine sh_gI1 (len := 3) (x := m.I 66 86) (pc2 := 86) rfl rfl (sh_s66 hT.st) rfl rfl rfl ?_
                    exact kk
                  obtain rfl := Option.some.inj e
                  obtain ⟨rfl, rfl⟩ := tg
                  exact sh_Lk_ret (i := .ireturn) rfl rfl rfl (Nat.le_of_ble_eq_true rfl) (Nat.le_of_ble_eq_true rfl)
theorem sl_335 {x1 : Int32} {x2 : Int32} {m m2 : sh_X} {o : Outcome} {z : Bool} (e : sf_335 x1 x2 m = some z) (tg : (sh_tZc m o m2) z) : sh_Lk 335 0 [(0, .ref 67), (1, .int x1), (2, .int x2)] [] m o m2 8 200 := by
  unfold sf_335 at e
  refine sh_Lk_lift (T := m.T) (I := m.I) (J := m.J) (s := m.s) (pc2 := 4) (lv2 := [(0, .ref 67), (1, .int x1), (2, .int x2)]) (st2 := [.int (m.I 66 4)]) (I2 := m.I) (J2 := m.J) (fun hT v kk => ?_) ?_
  · refine sh_w (i := (.aload_n 0)) (len := 1) (pc2 := 1) (lv2 := [(0, .ref 67), (1, .int x1), (2, .int x2)]) (st2 := [.ref 67]) (h2 := (sh_rep m.T m.I m.J)) rfl rfl rfl ?_
    refine sh_gI1 (len := 3) (x := m.I 66 4) (pc2 := 4) rfl rfl (sh_s66 hT.st) rfl rfl rfl ?_
    exact kk
  rcases sh_ite e with ⟨c, e⟩ | ⟨c, e⟩
  · refine sh_Lk_lift (T := m.T) (I := m.I) (J := m.J) (s := m.s) (pc2 := 8) (lv2 := [(0, .ref 67), (1, .int x1), (2, .int x2)]) (st2 := [.int x1]) (I2 := m.I) (J2 := m.J) (fun hT v kk => ?_) ?_
    · refine sh_j0 (c := .le) (off := (30)) (pc2 := 7) false rfl (sh_Blef c) rfl ?_
      refine sh_w (i := (.iload_n 1)) (len := 1) (pc2 := 8) (lv2 := [(0, .ref 67), (1, .int x1), (2, .int x2)]) (st2 := [.int x1]) (h2 := (sh_rep m.T m.I m.J)) rfl rfl rfl ?_
      exact kk
    rcases sh_ite e with ⟨c, e⟩ | ⟨c, e⟩
    · refine sh_Lk_lift (T := m.T) (I := m.I) (J := m.J) (s := m.s) (pc2 := 35) (lv2 := [(0, .ref 67), (1, .int x1), (2, .int x2)]) (st2 := [.int 0]) (I2 := m.I) (J2 := m.J) (fun hT v kk => ?_) ?_
      · refine sh_j0 (c := .lt) (off := (26)) (pc2 := 34) true rfl (sh_Bltt c) rfl ?_
        refine sh_w (i := (.iconst 0)) (len := 1) (pc2 := 35) (lv2 := [(0, .ref 67), (1, .int x1), (2, .int x2)]) (st2 := [.int 0]) (h2 := (sh_rep m.T m.I m.J)) rfl rfl rfl ?_
        exact kk
      obtain rfl := Option.some.inj e
      obtain ⟨rfl, rfl⟩ := tg
      exact sh_Lk_ret (i := .ireturn) rfl rfl rfl (Nat.le_of_ble_eq_true rfl) (Nat.le_of_ble_eq_true rfl)
    · refine sh_Lk_lift (T := m.T) (I := m.I) (J := m.J) (s := m.s) (pc2 := 13) (lv2 := [(0, .ref 67), (1, .int x1), (2, .int x2)]) (st2 := [.int 3, .int x1]) (I2 := m.I) (J2 := m.J) (fun hT v kk => ?_) ?_
      · refine sh_j0 (c := .lt) (off := (26)) (pc2 := 11) false rfl (sh_Bltf c) rfl ?_
        refine sh_w (i := (.iload_n 1)) (len := 1) (pc2 := 12) (lv2 := [(0, .ref 67), (1, .int x1), (2, .int x2)]) (st2 := [.int x1]) (h2 := (sh_rep m.T m.I m.J)) rfl rfl rfl ?_
        refine sh_w (i := (.iconst 3)) (len := 1) (pc2 := 13) (lv2 := [(0, .ref 67), (1, .int x1), (2, .int x2)]) (st2 := [.int 3, .int x1]) (h2 := (sh_rep m.T m.I m.J)) rfl rfl rfl ?_
        exact kk
      rcases sh_ite e with ⟨c, e⟩ | ⟨c, e⟩
      · refine sh_Lk_lift (T := m.T) (I := m.I) (J := m.J) (s := m.s) (pc2 := 17) (lv2 := [(0, .ref 67), (1, .int x1), (2, .int x2)]) (st2 := [.int x2]) (I2 := m.I) (J2 := m.J) (fun hT v kk => ?_) ?_
        · refine sh_jc (c := .ge) (off := (21)) (pc2 := 16) false rfl (sh_Bgef c) rfl ?_
          refine sh_w (i := (.iload_n 2)) (len := 1) (pc2 := 17) (lv2 := [(0, .ref 67), (1, .int x1), (2, .int x2)]) (st2 := [.int x2]) (h2 := (sh_rep m.T m.I m.J)) rfl rfl rfl ?_
          exact kk
        rcases sh_ite e with ⟨c, e⟩ | ⟨c, e⟩
        · refine sh_Lk_lift (T := m.T) (I := m.I) (J := m.J) (s := m.s) (pc2 := 35) (lv2 := [(0, .ref 67), (1, .int x1), (2, .int x2)]) (st2 := [.int 0]) (I2 := m.I) (J2 := m.J) (fun hT v kk => ?_) ?_
          · refine sh_j0 (c := .lt) (off := (17)) (pc2 := 34) true rfl (sh_Bltt c) rfl ?_
            refine sh_w (i := (.iconst 0)) (len := 1) (pc2 := 35) (lv2 := [(0, .ref 67), (1, .int x1), (2, .int x2)]) (st2 := [.int 0]) (h2 := (sh_rep m.T m.I m.J)) rfl rfl rfl ?_
            exact kk
          obtain rfl := Option.some.inj e
          obtain ⟨rfl, rfl⟩ := tg
          exact sh_Lk_ret (i := .ireturn) rfl rfl rfl (Nat.le_of_ble_eq_true rfl) (Nat.le_of_ble_eq_true rfl)
        · refine sh_Lk_lift (T := m.T) (I := m.I) (J := m.J) (s := m.s) (pc2 := 26) (lv2 := [(0, .ref 67), (1, .int x1), (2, .int x2)]) (st2 := [.int x1, .ref 100, .int x2]) (I2 := m.I) (J2 := m.J) (fun hT v kk => ?_) ?_
          · refine sh_j0 (c := .lt) (off := (17)) (pc2 := 20) false rfl (sh_Bltf c) rfl ?_
            refine sh_w (i := (.iload_n 2)) (len := 1) (pc2 := 21) (lv2 := [(0, .ref 67), (1, .int x1), (2, .int x2)]) (st2 := [.int x2]) (h2 := (sh_rep m.T m.I m.J)) rfl rfl rfl ?_
            refine sh_w (i := (.aload_n 0)) (len := 1) (pc2 := 22) (lv2 := [(0, .ref 67), (1, .int x1), (2, .int x2)]) (st2 := [.ref 67, .int x2]) (h2 := (sh_rep m.T m.I m.J)) rfl rfl rfl ?_
            refine sh_gR1 (len := 3) (x := .ref 100) (pc2 := 25) rfl rfl (sh_s66 hT.st) rfl rfl ?_
            refine sh_w (i := (.iload_n 1)) (len := 1) (pc2 := 26) (lv2 := [(0, .ref 67), (1, .int x1), (2, .int x2)]) (st2 := [.int x1, .ref 100, .int x2]) (h2 := (sh_rep m.T m.I m.J)) rfl rfl rfl ?_
            exact kk
          obtain ⟨c, e⟩ := sh_gd e
          refine sh_Lk_lift (T := m.T) (I := m.I) (J := m.J) (s := m.s) (pc2 := 27) (lv2 := [(0, .ref 67), (1, .int x1), (2, .int x2)]) (st2 := [.int (m.I 99 (Int32.toNatClampNeg x1)), .int x2]) (I2 := m.I) (J2 := m.J) (fun hT v kk => ?_) ?_
          · refine sh_ia1 (x := m.I 99 (Int32.toNatClampNeg x1)) (pc2 := 27) rfl (sh_s99 hT.st) (sh_okb1 c) (sh_okb2 c) rfl rfl ?_
            exact kk
          rcases sh_ite e with ⟨c, e⟩ | ⟨c, e⟩
          · refine sh_Lk_lift (T := m.T) (I := m.I) (J := m.J) (s := m.s) (pc2 := 35) (lv2 := [(0, .ref 67), (1, .int x1), (2, .int x2)]) (st2 := [.int 1]) (I2 := m.I) (J2 := m.J) (fun hT v kk => ?_) ?_
            · refine sh_jc (c := .ge) (off := (7)) (pc2 := 30) false rfl (sh_Bgef c) rfl ?_
              refine sh_w (i := (.iconst 1)) (len := 1) (pc2 := 31) (lv2 := [(0, .ref 67), (1, .int x1), (2, .int x2)]) (st2 := [.int 1]) (h2 := (sh_rep m.T m.I m.J)) rfl rfl rfl ?_
              refine sh_w (i := (.goto 4)) (len := 3) (pc2 := 35) (lv2 := [(0, .ref 67), (1, .int x1), (2, .int x2)]) (st2 := [.int 1]) (h2 := (sh_rep m.T m.I m.J)) rfl rfl rfl ?_
              exact kk
            obtain rfl := Option.some.inj e
            obtain ⟨rfl, rfl⟩ := tg
            exact sh_Lk_ret (i := .ireturn) rfl rfl rfl (Nat.le_of_ble_eq_true rfl) (Nat.le_of_ble_eq_true rfl)
          · refine sh_Lk_lift (T := m.T) (I := m.I) (J := m.J) (s := m.s) (pc2 := 35) (lv2 := [(0, .ref 67), (1, .int x1), (2, .int x2)]) (st2 := [.int 0]) (I2 := m.I) (J2 := m.J) (fun hT v kk => ?_) ?_
            · refine sh_jc (c := .ge) (off := (7)) (pc2 := 34) true rfl (sh_Bget c) rfl ?_
              refine sh_w (i := (.iconst 0)) (len := 1) (pc2 := 35) (lv2 := [(0, .ref 67), (1, .int x1), (2, .int x2)]) (st2 := [.int 0]) (h2 := (sh_rep m.T m.I m.J)) rfl rfl rfl ?_
              exact kk
            obtain rfl := Option.some.inj e
            obtain ⟨rfl, rfl⟩ := tg
            exact sh_Lk_ret (i := .ireturn) rfl rfl rfl (Nat.le_of_ble_eq_true rfl) (Nat.le_of_ble_eq_true rfl)
      · refine sh_Lk_lift (T := m.T) (I := m.I) (J := m.J) (s := m.s) (pc2 := 35) (lv2 := [(0, .ref 67), (1, .int x1), (2, .int x2)]) (st2 := [.int 0]) (I2 := m.I) (J2 := m.J) (fun hT v kk => ?_) ?_
        · refine sh_jc (c := .ge) (off := (21)) (pc2 := 34) true rfl (sh_Bget c) rfl ?_
          refine sh_w (i := (.iconst 0)) (len := 1) (pc2 := 35) (lv2 := [(0, .ref 67), (1, .int x1), (2, .int x2)]) (st2 := [.int 0]) (h2 := (sh_rep m.T m.I m.J)) rfl rfl rfl ?_
          exact kk
        obtain rfl := Option.some.inj e
        obtain ⟨rfl, rfl⟩ := tg
        exact sh_Lk_ret (i := .ireturn) rfl rfl rfl (Nat.le_of_ble_eq_true rfl) (Nat.le_of_ble_eq_true rfl)
  · refine sh_Lk_lift (T := m.T) (I := m.I) (J := m.J) (s := m.s) (pc2 := 35) (lv2 := [(0, .ref 67), (1, .int x1), (2, .int x2)]) (st2 := [.int 0]) (I2 := m.I) (J2 := m.J) (fun hT v kk => ?_) ?_
    · refine sh_j0 (c := .le) (off := (30)) (pc2 := 34) true rfl (sh_Blet c) rfl ?_
      refine sh_w (i := (.iconst 0)) (len := 1) (pc2 := 35) (lv2 := [(0, .ref 67), (1, .int x1), (2, .int x2)]) (st2 := [.int 0]) (h2 := (sh_rep m.T m.I m.J)) rfl rfl rfl ?_
      exact kk
    obtain rfl := Option.some.inj e
    obtain ⟨rfl, rfl⟩ := tg
    exact sh_Lk_ret (i := .ireturn) rfl rfl rfl (Nat.le_of_ble_eq_true rfl) (Nat.le_of_ble_eq_true rfl)
theorem sl_334_15 {x1 : Int32} {x2 : Int32} {y1 : Bool} {m m2 : sh_X} {o : Outcome} {z : (Int32 × sh_X)} (e : sf_334_15 x1 x2 y1 m = some z) (tg : (sh_tI o m2) z) : sh_Lk 334 15 [(0, .ref 67), (1, .int x1), (2, .int x2)] [.int (sh_b2 y1), .ref 67] m o m2 9 222 := by
  unfold sf_334_15 at e
  refine sh_Lk_lift (T := m.T) (I := m.I) (J := m.J) (s := m.s) (pc2 := 22) (lv2 := [(0, .ref 67), (1, .int x1), (2, .int x2)]) (st2 := [.int (sh_b2 y1)]) (I2 := sh_u2 m.I 66 0 (sh_b2 y1)) (J2 := m.J) (fun hT v kk => ?_) ?_
  · refine sh_pI1 (x := sh_b2 y1) (pc2 := 18) rfl rfl (sh_s66 hT.st) rfl rfl rfl rfl ?_
    refine sh_w (i := (.aload_n 0)) (len := 1) (pc2 := 19) (lv2 := [(0, .ref 67), (1, .int x1), (2, .int x2)]) (st2 := [.ref 67]) (h2 := (sh_rep m.T (sh_u2 m.I 66 0 (sh_b2 y1)) m.J)) rfl rfl rfl ?_
    refine sh_gI1 (len := 3) (x := sh_b2 y1) (pc2 := 22) rfl rfl (sh_s66 hT.st) rfl rfl rfl ?_
    exact kk
  rcases sh_ite e with ⟨c, e⟩ | ⟨c, e⟩
  · refine sh_Lk_lift (T := m.T) (I := sh_u2 m.I 66 0 (sh_b2 y1)) (J := m.J) (s := m.s) (pc2 := 36) (lv2 := [(0, .ref 67), (1, .int x1), (2, .int x2)]) (st2 := [.int ((256 * x1) + x2), .ref 102]) (I2 := sh_u2 m.I 66 0 (sh_b2 y1)) (J2 := m.J) (fun hT v kk => ?_) ?_
    · refine sh_j0 (c := .ne) (off := (18)) (pc2 := 25) false rfl (sh_Bnef c) rfl ?_
      refine sh_w (i := (.aload_n 0)) (len := 1) (pc2 := 26) (lv2 := [(0, .ref 67), (1, .int x1), (2, .int x2)]) (st2 := [.ref 67]) (h2 := (sh_rep m.T (sh_u2 m.I 66 0 (sh_b2 y1)) m.J)) rfl rfl rfl ?_
      refine sh_gR1 (len := 3) (x := .ref 102) (pc2 := 29) rfl rfl (sh_s66 hT.st) rfl rfl ?_
      refine sh_w (i := (.sipush 256)) (len := 3) (pc2 := 32) (lv2 := [(0, .ref 67), (1, .int x1), (2, .int x2)]) (st2 := [.int 256, .ref 102]) (h2 := (sh_rep m.T (sh_u2 m.I 66 0 (sh_b2 y1)) m.J)) rfl rfl rfl ?_
      refine sh_w (i := (.iload_n 1)) (len := 1) (pc2 := 33) (lv2 := [(0, .ref 67), (1, .int x1), (2, .int x2)]) (st2 := [.int x1, .int 256, .ref 102]) (h2 := (sh_rep m.T (sh_u2 m.I 66 0 (sh_b2 y1)) m.J)) rfl rfl rfl ?_
      refine sh_w (i := .imul) (len := 1) (pc2 := 34) (lv2 := [(0, .ref 67), (1, .int x1), (2, .int x2)]) (st2 := [.int (256 * x1), .ref 102]) (h2 := (sh_rep m.T (sh_u2 m.I 66 0 (sh_b2 y1)) m.J)) rfl rfl rfl ?_
      refine sh_w (i := (.iload_n 2)) (len := 1) (pc2 := 35) (lv2 := [(0, .ref 67), (1, .int x1), (2, .int x2)]) (st2 := [.int x2, .int (256 * x1), .ref 102]) (h2 := (sh_rep m.T (sh_u2 m.I 66 0 (sh_b2 y1)) m.J)) rfl rfl rfl ?_
      refine sh_w (i := .iadd) (len := 1) (pc2 := 36) (lv2 := [(0, .ref 67), (1, .int x1), (2, .int x2)]) (st2 := [.int ((256 * x1) + x2), .ref 102]) (h2 := (sh_rep m.T (sh_u2 m.I 66 0 (sh_b2 y1)) m.J)) rfl rfl rfl ?_
      exact kk
    obtain ⟨c, e⟩ := sh_gd e
    refine sh_Lk_lift (T := m.T) (I := sh_u2 m.I 66 0 (sh_b2 y1)) (J := m.J) (s := m.s) (pc2 := 41) (lv2 := [(0, .ref 67), (1, .int x1), (2, .int x2)]) (st2 := [.int (m.I 101 (Int32.toNatClampNeg ((256 * x1) + x2)))]) (I2 := sh_u2 m.I 66 0 (sh_b2 y1)) (J2 := m.J) (fun hT v kk => ?_) ?_
    · refine sh_ia1 (x := m.I 101 (Int32.toNatClampNeg ((256 * x1) + x2))) (pc2 := 37) rfl (sh_s101 hT.st) (sh_okb1 c) (sh_okb2 c) rfl rfl ?_
      refine sh_w (i := (.goto 4)) (len := 3) (pc2 := 41) (lv2 := [(0, .ref 67), (1, .int x1), (2, .int x2)]) (st2 := [.int (m.I 101 (Int32.toNatClampNeg ((256 * x1) + x2)))]) (h2 := (sh_rep m.T (sh_u2 m.I 66 0 (sh_b2 y1)) m.J)) rfl rfl rfl ?_
      exact kk
    obtain rfl := Option.some.inj e
    obtain ⟨rfl, rfl⟩ := tg
    exact sh_Lk_ret (i := .ireturn) rfl rfl rfl (Nat.le_of_ble_eq_true rfl) (Nat.le_of_ble_eq_true rfl)
  · refine sh_Lk_lift (T := m.T) (I := sh_u2 m.I 66 0 (sh_b2 y1)) (J := m.J) (s := m.s) (pc2 := 41) (lv2 := [(0, .ref 67), (1, .int x1), (2, .int x2)]) (st2 := [.int 0]) (I2 := sh_u2 m.I 66 0 (sh_b2 y1)) (J2 := m.J) (fun hT v kk => ?_) ?_
    · refine sh_j0 (c := .ne) (off := (18)) (pc2 := 40) true rfl (sh_Bnet c) rfl ?_
      refine sh_w (i := (.iconst 0)) (len := 1) (pc2 := 41) (lv2 := [(0, .ref 67), (1, .int x1), (2, .int x2)]) (st2 := [.int 0]) (h2 := (sh_rep m.T (sh_u2 m.I 66 0 (sh_b2 y1)) m.J)) rfl rfl rfl ?_
      exact kk
    obtain rfl := Option.some.inj e
    obtain ⟨rfl, rfl⟩ := tg
    exact sh_Lk_ret (i := .ireturn) rfl rfl rfl (Nat.le_of_ble_eq_true rfl) (Nat.le_of_ble_eq_true rfl)
theorem sl_334 {x1 : Int32} {x2 : Int32} {m m2 : sh_X} {o : Outcome} {z : (Int32 × sh_X)} (e : sf_334 x1 x2 m = some z) (tg : (sh_tI o m2) z) : sh_Lk 334 0 [(0, .ref 67), (1, .int x1), (2, .int x2)] [] m o m2 9 222 := by
  unfold sf_334 at e
  refine sh_Lk_lift (T := m.T) (I := m.I) (J := m.J) (s := m.s) (pc2 := 4) (lv2 := [(0, .ref 67), (1, .int x1), (2, .int x2)]) (st2 := [.int x2, .int x1, .ref 67, .ref 67]) (I2 := m.I) (J2 := m.J) (fun hT v kk => ?_) ?_
  · refine sh_w (i := (.aload_n 0)) (len := 1) (pc2 := 1) (lv2 := [(0, .ref 67), (1, .int x1), (2, .int x2)]) (st2 := [.ref 67]) (h2 := (sh_rep m.T m.I m.J)) rfl rfl rfl ?_
    refine sh_w (i := (.aload_n 0)) (len := 1) (pc2 := 2) (lv2 := [(0, .ref 67), (1, .int x1), (2, .int x2)]) (st2 := [.ref 67, .ref 67]) (h2 := (sh_rep m.T m.I m.J)) rfl rfl rfl ?_
    refine sh_w (i := (.iload_n 1)) (len := 1) (pc2 := 3) (lv2 := [(0, .ref 67), (1, .int x1), (2, .int x2)]) (st2 := [.int x1, .ref 67, .ref 67]) (h2 := (sh_rep m.T m.I m.J)) rfl rfl rfl ?_
    refine sh_w (i := (.iload_n 2)) (len := 1) (pc2 := 4) (lv2 := [(0, .ref 67), (1, .int x1), (2, .int x2)]) (st2 := [.int x2, .int x1, .ref 67, .ref 67]) (h2 := (sh_rep m.T m.I m.J)) rfl rfl rfl ?_
    exact kk
  obtain ⟨r1, e1, e⟩ := sh_bc_e e
  refine sh_Lk_cV (r := (some (.int (sh_b2 r1)))) (st2 := [.int (sh_b2 r1), .ref 67]) (pc2 := 7) (k2 := 335) (a := 66) (as := [.ref 67, .int x1, .int x2]) (rest := [.ref 67]) rfl rfl rfl (fun hT => (sh_s66 hT.st)) rfl rfl ⟨Nat.le_of_ble_eq_true rfl, Nat.le_of_ble_eq_true rfl⟩ (sl_335 e1 ⟨rfl, rfl⟩) rfl rfl (Nat.le_of_ble_eq_true rfl) (Nat.le_of_ble_eq_true rfl) ?_
  rcases sh_ite e with ⟨c, e⟩ | ⟨c, e⟩
  · refine sh_Lk_lift (T := m.T) (I := m.I) (J := m.J) (s := m.s) (pc2 := 15) (lv2 := [(0, .ref 67), (1, .int x1), (2, .int x2)]) (st2 := [.int 0, .ref 67]) (I2 := m.I) (J2 := m.J) (fun hT v kk => ?_) ?_
    · refine sh_j0 (c := .eq) (off := (7)) (pc2 := 10) false rfl (sh_Zeqf c) rfl ?_
      refine sh_w (i := (.iconst 0)) (len := 1) (pc2 := 11) (lv2 := [(0, .ref 67), (1, .int x1), (2, .int x2)]) (st2 := [.int 0, .ref 67]) (h2 := (sh_rep m.T m.I m.J)) rfl rfl rfl ?_
      refine sh_w (i := (.goto 4)) (len := 3) (pc2 := 15) (lv2 := [(0, .ref 67), (1, .int x1), (2, .int x2)]) (st2 := [.int 0, .ref 67]) (h2 := (sh_rep m.T m.I m.J)) rfl rfl rfl ?_
      exact kk
    exact sh_Lk_sub (sh_sub_c rfl (sh_sub_c rfl (sh_sub_c rfl (sh_sub_n)))) (sl_334_15 e tg)
  · refine sh_Lk_lift (T := m.T) (I := m.I) (J := m.J) (s := m.s) (pc2 := 15) (lv2 := [(0, .ref 67), (1, .int x1), (2, .int x2)]) (st2 := [.int 1, .ref 67]) (I2 := m.I) (J2 := m.J) (fun hT v kk => ?_) ?_
    · refine sh_j0 (c := .eq) (off := (7)) (pc2 := 14) true rfl (sh_Zeqt c) rfl ?_
      refine sh_w (i := (.iconst 1)) (len := 1) (pc2 := 15) (lv2 := [(0, .ref 67), (1, .int x1), (2, .int x2)]) (st2 := [.int 1, .ref 67]) (h2 := (sh_rep m.T m.I m.J)) rfl rfl rfl ?_
      exact kk
    exact sh_Lk_sub (sh_sub_c rfl (sh_sub_c rfl (sh_sub_c rfl (sh_sub_n)))) (sl_334_15 e tg)
theorem sl_336_93 {y1 : Int32} {y2 : Int64} {m m2 : sh_X} {o : Outcome} {z : (Unit × sh_X)} (e : sf_336_93 y1 y2 m = some z) (tg : (sh_tV o m2) z) : sh_Lk 336 93 [] [.long y2, .int y1, .ref 104] m o m2 9 222 := by
  unfold sf_336_93 at e
  obtain ⟨c, e⟩ := sh_gd e
  refine sh_Lk_lift (T := m.T) (I := m.I) (J := m.J) (s := m.s) (pc2 := 94) (lv2 := []) (st2 := []) (I2 := m.I) (J2 := sh_u2 m.J 103 (Int32.toNatClampNeg y1) y2) (fun hT v kk => ?_) ?_
  · refine sh_ls1 (x := y2) (i := y1) (pc2 := 94) rfl (sh_s103 hT.st) (sh_okb1 c) (sh_okb2 c) rfl ?_
    exact kk
  obtain rfl := Option.some.inj e
  obtain ⟨rfl, rfl⟩ := tg
  exact sh_Lk_ret (i := .return_) rfl rfl rfl (Nat.le_of_ble_eq_true rfl) (Nat.le_of_ble_eq_true rfl)
theorem sl_336_20 {x1 : Int32} {x2 : Int32} {x3 : Int32} {x4 : Int32} {y1 : Bool} {m m2 : sh_X} {o : Outcome} {z : (Unit × sh_X)} (e : sf_336_20 x1 x2 x3 x4 y1 m = some z) (tg : (sh_tV o m2) z) : sh_Lk 336 20 [(0, .ref 67), (1, .int x1), (2, .int x2), (3, .int x3), (4, .int x4)] [.int (sh_b2 y1), .ref 67] m o m2 9 222 := by
  unfold sf_336_20 at e
  refine sh_Lk_lift (T := m.T) (I := m.I) (J := m.J) (s := m.s) (pc2 := 28) (lv2 := [(0, .ref 67), (1, .int x1), (2, .int x2), (3, .int x3), (4, .int x4)]) (st2 := [.int 1, .int (sh_b2 y1)]) (I2 := sh_u2 m.I 66 0 (sh_b2 y1)) (J2 := m.J) (fun hT v kk => ?_) ?_
  · refine sh_pI1 (x := sh_b2 y1) (pc2 := 23) rfl rfl (sh_s66 hT.st) rfl rfl rfl rfl ?_
    refine sh_w (i := (.aload_n 0)) (len := 1) (pc2 := 24) (lv2 := [(0, .ref 67), (1, .int x1), (2, .int x2), (3, .int x3), (4, .int x4)]) (st2 := [.ref 67]) (h2 := (sh_rep m.T (sh_u2 m.I 66 0 (sh_b2 y1)) m.J)) rfl rfl rfl ?_
    refine sh_gI1 (len := 3) (x := sh_b2 y1) (pc2 := 27) rfl rfl (sh_s66 hT.st) rfl rfl rfl ?_
    refine sh_w (i := (.iconst 1)) (len := 1) (pc2 := 28) (lv2 := [(0, .ref 67), (1, .int x1), (2, .int x2), (3, .int x3), (4, .int x4)]) (st2 := [.int 1, .int (sh_b2 y1)]) (h2 := (sh_rep m.T (sh_u2 m.I 66 0 (sh_b2 y1)) m.J)) rfl rfl rfl ?_
    exact kk
  rcases sh_ite e with ⟨c, e⟩ | ⟨c, e⟩
  · refine sh_Lk_lift (T := m.T) (I := sh_u2 m.I 66 0 (sh_b2 y1)) (J := m.J) (s := m.s) (pc2 := 31) (lv2 := [(0, .ref 67), (1, .int x1), (2, .int x2), (3, .int x3), (4, .int x4)]) (st2 := []) (I2 := sh_u2 m.I 66 0 (sh_b2 y1)) (J2 := m.J) (fun hT v kk => ?_) ?_
    · refine sh_jc (c := .ne) (off := (4)) (pc2 := 31) false rfl (sh_Bnef c) rfl ?_
      exact kk
    obtain rfl := Option.some.inj e
    obtain ⟨rfl, rfl⟩ := tg
    exact sh_Lk_ret (i := .return_) rfl rfl rfl (Nat.le_of_ble_eq_true rfl) (Nat.le_of_ble_eq_true rfl)
  · refine sh_Lk_lift (T := m.T) (I := sh_u2 m.I 66 0 (sh_b2 y1)) (J := m.J) (s := m.s) (pc2 := 43) (lv2 := [(0, .ref 67), (1, .int x1), (2, .int x2), (3, .int x3), (4, .int x4)]) (st2 := [.int ((256 * x1) + x2), .ref 102]) (I2 := sh_u2 m.I 66 0 (sh_b2 y1)) (J2 := m.J) (fun hT v kk => ?_) ?_
    · refine sh_jc (c := .ne) (off := (4)) (pc2 := 32) true rfl (sh_Bnet c) rfl ?_
      refine sh_w (i := (.aload_n 0)) (len := 1) (pc2 := 33) (lv2 := [(0, .ref 67), (1, .int x1), (2, .int x2), (3, .int x3), (4, .int x4)]) (st2 := [.ref 67]) (h2 := (sh_rep m.T (sh_u2 m.I 66 0 (sh_b2 y1)) m.J)) rfl rfl rfl ?_
      refine sh_gR1 (len := 3) (x := .ref 102) (pc2 := 36) rfl rfl (sh_s66 hT.st) rfl rfl ?_
      refine sh_w (i := (.sipush 256)) (len := 3) (pc2 := 39) (lv2 := [(0, .ref 67), (1, .int x1), (2, .int x2), (3, .int x3), (4, .int x4)]) (st2 := [.int 256, .ref 102]) (h2 := (sh_rep m.T (sh_u2 m.I 66 0 (sh_b2 y1)) m.J)) rfl rfl rfl ?_
      refine sh_w (i := (.iload_n 1)) (len := 1) (pc2 := 40) (lv2 := [(0, .ref 67), (1, .int x1), (2, .int x2), (3, .int x3), (4, .int x4)]) (st2 := [.int x1, .int 256, .ref 102]) (h2 := (sh_rep m.T (sh_u2 m.I 66 0 (sh_b2 y1)) m.J)) rfl rfl rfl ?_
      refine sh_w (i := .imul) (len := 1) (pc2 := 41) (lv2 := [(0, .ref 67), (1, .int x1), (2, .int x2), (3, .int x3), (4, .int x4)]) (st2 := [.int (256 * x1), .ref 102]) (h2 := (sh_rep m.T (sh_u2 m.I 66 0 (sh_b2 y1)) m.J)) rfl rfl rfl ?_
      refine sh_w (i := (.iload_n 2)) (len := 1) (pc2 := 42) (lv2 := [(0, .ref 67), (1, .int x1), (2, .int x2), (3, .int x3), (4, .int x4)]) (st2 := [.int x2, .int (256 * x1), .ref 102]) (h2 := (sh_rep m.T (sh_u2 m.I 66 0 (sh_b2 y1)) m.J)) rfl rfl rfl ?_
      refine sh_w (i := .iadd) (len := 1) (pc2 := 43) (lv2 := [(0, .ref 67), (1, .int x1), (2, .int x2), (3, .int x3), (4, .int x4)]) (st2 := [.int ((256 * x1) + x2), .ref 102]) (h2 := (sh_rep m.T (sh_u2 m.I 66 0 (sh_b2 y1)) m.J)) rfl rfl rfl ?_
      exact kk
    obtain ⟨c, e⟩ := sh_gd e
    refine sh_Lk_lift (T := m.T) (I := sh_u2 m.I 66 0 (sh_b2 y1)) (J := m.J) (s := m.s) (pc2 := 76) (lv2 := [(6, .long (((Int32.toInt64 x3) <<< (Int32.toInt64 32 &&& 63)) ||| ((Int32.toInt64 x4) &&& (4294967295 : Int64)))), (5, .int (m.I 101 (Int32.toNatClampNeg ((256 * x1) + x2)))), (0, .ref 67), (1, .int x1), (2, .int x2), (3, .int x3), (4, .int x4)]) (st2 := [.int 64, .int (m.I 101 (Int32.toNatClampNeg ((256 * x1) + x2))), .int ((256 * x1) + x2), .ref 104]) (I2 := sh_u2 m.I 66 0 (sh_b2 y1)) (J2 := m.J) (fun hT v kk => ?_) ?_
    · refine sh_ia1 (x := m.I 101 (Int32.toNatClampNeg ((256 * x1) + x2))) (pc2 := 44) rfl (sh_s101 hT.st) (sh_okb1 c) (sh_okb2 c) rfl rfl ?_
      refine sh_w (i := (.istore 5)) (len := 2) (pc2 := 46) (lv2 := [(5, .int (m.I 101 (Int32.toNatClampNeg ((256 * x1) + x2)))), (0, .ref 67), (1, .int x1), (2, .int x2), (3, .int x3), (4, .int x4)]) (st2 := []) (h2 := (sh_rep m.T (sh_u2 m.I 66 0 (sh_b2 y1)) m.J)) rfl rfl rfl ?_
      refine sh_w (i := (.iload_n 3)) (len := 1) (pc2 := 47) (lv2 := [(5, .int (m.I 101 (Int32.toNatClampNeg ((256 * x1) + x2)))), (0, .ref 67), (1, .int x1), (2, .int x2), (3, .int x3), (4, .int x4)]) (st2 := [.int x3]) (h2 := (sh_rep m.T (sh_u2 m.I 66 0 (sh_b2 y1)) m.J)) rfl rfl rfl ?_
      refine sh_w (i := .i2l) (len := 1) (pc2 := 48) (lv2 := [(5, .int (m.I 101 (Int32.toNatClampNeg ((256 * x1) + x2)))), (0, .ref 67), (1, .int x1), (2, .int x2), (3, .int x3), (4, .int x4)]) (st2 := [.long (Int32.toInt64 x3)]) (h2 := (sh_rep m.T (sh_u2 m.I 66 0 (sh_b2 y1)) m.J)) rfl rfl rfl ?_
      refine sh_w (i := (.bipush 32)) (len := 2) (pc2 := 50) (lv2 := [(5, .int (m.I 101 (Int32.toNatClampNeg ((256 * x1) + x2)))), (0, .ref 67), (1, .int x1), (2, .int x2), (3, .int x3), (4, .int x4)]) (st2 := [.int 32, .long (Int32.toInt64 x3)]) (h2 := (sh_rep m.T (sh_u2 m.I 66 0 (sh_b2 y1)) m.J)) rfl rfl rfl ?_
      refine sh_w (i := .lshl) (len := 1) (pc2 := 51) (lv2 := [(5, .int (m.I 101 (Int32.toNatClampNeg ((256 * x1) + x2)))), (0, .ref 67), (1, .int x1), (2, .int x2), (3, .int x3), (4, .int x4)]) (st2 := [.long ((Int32.toInt64 x3) <<< (Int32.toInt64 32 &&& 63))]) (h2 := (sh_rep m.T (sh_u2 m.I 66 0 (sh_b2 y1)) m.J)) rfl rfl rfl ?_
      refine sh_w (i := (.iload 4)) (len := 2) (pc2 := 53) (lv2 := [(5, .int (m.I 101 (Int32.toNatClampNeg ((256 * x1) + x2)))), (0, .ref 67), (1, .int x1), (2, .int x2), (3, .int x3), (4, .int x4)]) (st2 := [.int x4, .long ((Int32.toInt64 x3) <<< (Int32.toInt64 32 &&& 63))]) (h2 := (sh_rep m.T (sh_u2 m.I 66 0 (sh_b2 y1)) m.J)) rfl rfl rfl ?_
      refine sh_w (i := .i2l) (len := 1) (pc2 := 54) (lv2 := [(5, .int (m.I 101 (Int32.toNatClampNeg ((256 * x1) + x2)))), (0, .ref 67), (1, .int x1), (2, .int x2), (3, .int x3), (4, .int x4)]) (st2 := [.long (Int32.toInt64 x4), .long ((Int32.toInt64 x3) <<< (Int32.toInt64 32 &&& 63))]) (h2 := (sh_rep m.T (sh_u2 m.I 66 0 (sh_b2 y1)) m.J)) rfl rfl rfl ?_
      refine sh_w (i := (.ldc2_w 638)) (len := 3) (pc2 := 57) (lv2 := [(5, .int (m.I 101 (Int32.toNatClampNeg ((256 * x1) + x2)))), (0, .ref 67), (1, .int x1), (2, .int x2), (3, .int x3), (4, .int x4)]) (st2 := [.long 4294967295, .long (Int32.toInt64 x4), .long ((Int32.toInt64 x3) <<< (Int32.toInt64 32 &&& 63))]) (h2 := (sh_rep m.T (sh_u2 m.I 66 0 (sh_b2 y1)) m.J)) rfl rfl rfl ?_
      refine sh_w (i := .land) (len := 1) (pc2 := 58) (lv2 := [(5, .int (m.I 101 (Int32.toNatClampNeg ((256 * x1) + x2)))), (0, .ref 67), (1, .int x1), (2, .int x2), (3, .int x3), (4, .int x4)]) (st2 := [.long ((Int32.toInt64 x4) &&& (4294967295 : Int64)), .long ((Int32.toInt64 x3) <<< (Int32.toInt64 32 &&& 63))]) (h2 := (sh_rep m.T (sh_u2 m.I 66 0 (sh_b2 y1)) m.J)) rfl rfl rfl ?_
      refine sh_w (i := .lor) (len := 1) (pc2 := 59) (lv2 := [(5, .int (m.I 101 (Int32.toNatClampNeg ((256 * x1) + x2)))), (0, .ref 67), (1, .int x1), (2, .int x2), (3, .int x3), (4, .int x4)]) (st2 := [.long (((Int32.toInt64 x3) <<< (Int32.toInt64 32 &&& 63)) ||| ((Int32.toInt64 x4) &&& (4294967295 : Int64)))]) (h2 := (sh_rep m.T (sh_u2 m.I 66 0 (sh_b2 y1)) m.J)) rfl rfl rfl ?_
      refine sh_w (i := (.lstore 6)) (len := 2) (pc2 := 61) (lv2 := [(6, .long (((Int32.toInt64 x3) <<< (Int32.toInt64 32 &&& 63)) ||| ((Int32.toInt64 x4) &&& (4294967295 : Int64)))), (5, .int (m.I 101 (Int32.toNatClampNeg ((256 * x1) + x2)))), (0, .ref 67), (1, .int x1), (2, .int x2), (3, .int x3), (4, .int x4)]) (st2 := []) (h2 := (sh_rep m.T (sh_u2 m.I 66 0 (sh_b2 y1)) m.J)) rfl rfl rfl ?_
      refine sh_w (i := (.aload_n 0)) (len := 1) (pc2 := 62) (lv2 := [(6, .long (((Int32.toInt64 x3) <<< (Int32.toInt64 32 &&& 63)) ||| ((Int32.toInt64 x4) &&& (4294967295 : Int64)))), (5, .int (m.I 101 (Int32.toNatClampNeg ((256 * x1) + x2)))), (0, .ref 67), (1, .int x1), (2, .int x2), (3, .int x3), (4, .int x4)]) (st2 := [.ref 67]) (h2 := (sh_rep m.T (sh_u2 m.I 66 0 (sh_b2 y1)) m.J)) rfl rfl rfl ?_
      refine sh_gR1 (len := 3) (x := .ref 104) (pc2 := 65) rfl rfl (sh_s66 hT.st) rfl rfl ?_
      refine sh_w (i := (.sipush 256)) (len := 3) (pc2 := 68) (lv2 := [(6, .long (((Int32.toInt64 x3) <<< (Int32.toInt64 32 &&& 63)) ||| ((Int32.toInt64 x4) &&& (4294967295 : Int64)))), (5, .int (m.I 101 (Int32.toNatClampNeg ((256 * x1) + x2)))), (0, .ref 67), (1, .int x1), (2, .int x2), (3, .int x3), (4, .int x4)]) (st2 := [.int 256, .ref 104]) (h2 := (sh_rep m.T (sh_u2 m.I 66 0 (sh_b2 y1)) m.J)) rfl rfl rfl ?_
      refine sh_w (i := (.iload_n 1)) (len := 1) (pc2 := 69) (lv2 := [(6, .long (((Int32.toInt64 x3) <<< (Int32.toInt64 32 &&& 63)) ||| ((Int32.toInt64 x4) &&& (4294967295 : Int64)))), (5, .int (m.I 101 (Int32.toNatClampNeg ((256 * x1) + x2)))), (0, .ref 67), (1, .int x1), (2, .int x2), (3, .int x3), (4, .int x4)]) (st2 := [.int x1, .int 256, .ref 104]) (h2 := (sh_rep m.T (sh_u2 m.I 66 0 (sh_b2 y1)) m.J)) rfl rfl rfl ?_
      refine sh_w (i := .imul) (len := 1) (pc2 := 70) (lv2 := [(6, .long (((Int32.toInt64 x3) <<< (Int32.toInt64 32 &&& 63)) ||| ((Int32.toInt64 x4) &&& (4294967295 : Int64)))), (5, .int (m.I 101 (Int32.toNatClampNeg ((256 * x1) + x2)))), (0, .ref 67), (1, .int x1), (2, .int x2), (3, .int x3), (4, .int x4)]) (st2 := [.int (256 * x1), .ref 104]) (h2 := (sh_rep m.T (sh_u2 m.I 66 0 (sh_b2 y1)) m.J)) rfl rfl rfl ?_
      refine sh_w (i := (.iload_n 2)) (len := 1) (pc2 := 71) (lv2 := [(6, .long (((Int32.toInt64 x3) <<< (Int32.toInt64 32 &&& 63)) ||| ((Int32.toInt64 x4) &&& (4294967295 : Int64)))), (5, .int (m.I 101 (Int32.toNatClampNeg ((256 * x1) + x2)))), (0, .ref 67), (1, .int x1), (2, .int x2), (3, .int x3), (4, .int x4)]) (st2 := [.int x2, .int (256 * x1), .ref 104]) (h2 := (sh_rep m.T (sh_u2 m.I 66 0 (sh_b2 y1)) m.J)) rfl rfl rfl ?_
      refine sh_w (i := .iadd) (len := 1) (pc2 := 72) (lv2 := [(6, .long (((Int32.toInt64 x3) <<< (Int32.toInt64 32 &&& 63)) ||| ((Int32.toInt64 x4) &&& (4294967295 : Int64)))), (5, .int (m.I 101 (Int32.toNatClampNeg ((256 * x1) + x2)))), (0, .ref 67), (1, .int x1), (2, .int x2), (3, .int x3), (4, .int x4)]) (st2 := [.int ((256 * x1) + x2), .ref 104]) (h2 := (sh_rep m.T (sh_u2 m.I 66 0 (sh_b2 y1)) m.J)) rfl rfl rfl ?_
      refine sh_w (i := (.iload 5)) (len := 2) (pc2 := 74) (lv2 := [(6, .long (((Int32.toInt64 x3) <<< (Int32.toInt64 32 &&& 63)) ||| ((Int32.toInt64 x4) &&& (4294967295 : Int64)))), (5, .int (m.I 101 (Int32.toNatClampNeg ((256 * x1) + x2)))), (0, .ref 67), (1, .int x1), (2, .int x2), (3, .int x3), (4, .int x4)]) (st2 := [.int (m.I 101 (Int32.toNatClampNeg ((256 * x1) + x2))), .int ((256 * x1) + x2), .ref 104]) (h2 := (sh_rep m.T (sh_u2 m.I 66 0 (sh_b2 y1)) m.J)) rfl rfl rfl ?_
      refine sh_w (i := (.bipush 64)) (len := 2) (pc2 := 76) (lv2 := [(6, .long (((Int32.toInt64 x3) <<< (Int32.toInt64 32 &&& 63)) ||| ((Int32.toInt64 x4) &&& (4294967295 : Int64)))), (5, .int (m.I 101 (Int32.toNatClampNeg ((256 * x1) + x2)))), (0, .ref 67), (1, .int x1), (2, .int x2), (3, .int x3), (4, .int x4)]) (st2 := [.int 64, .int (m.I 101 (Int32.toNatClampNeg ((256 * x1) + x2))), .int ((256 * x1) + x2), .ref 104]) (h2 := (sh_rep m.T (sh_u2 m.I 66 0 (sh_b2 y1)) m.J)) rfl rfl rfl ?_
      exact kk
    rcases sh_ite e with ⟨c, e⟩ | ⟨c, e⟩
    · refine sh_Lk_lift (T := m.T) (I := sh_u2 m.I 66 0 (sh_b2 y1)) (J := m.J) (s := m.s) (pc2 := 93) (lv2 := [(6, .long (((Int32.toInt64 x3) <<< (Int32.toInt64 32 &&& 63)) ||| ((Int32.toInt64 x4) &&& (4294967295 : Int64)))), (5, .int (m.I 101 (Int32.toNatClampNeg ((256 * x1) + x2)))), (0, .ref 67), (1, .int x1), (2, .int x2), (3, .int x3), (4, .int x4)]) (st2 := [.long (((Int32.toInt64 x3) <<< (Int32.toInt64 32 &&& 63)) ||| ((Int32.toInt64 x4) &&& (4294967295 : Int64))), .int ((256 * x1) + x2), .ref 104]) (I2 := sh_u2 m.I 66 0 (sh_b2 y1)) (J2 := m.J) (fun hT v kk => ?_) ?_
      · refine sh_jc (c := .ne) (off := (8)) (pc2 := 79) false rfl (sh_Bnef c) rfl ?_
        refine sh_w (i := (.lload 6)) (len := 2) (pc2 := 81) (lv2 := [(6, .long (((Int32.toInt64 x3) <<< (Int32.toInt64 32 &&& 63)) ||| ((Int32.toInt64 x4) &&& (4294967295 : Int64)))), (5, .int (m.I 101 (Int32.toNatClampNeg ((256 * x1) + x2)))), (0, .ref 67), (1, .int x1), (2, .int x2), (3, .int x3), (4, .int x4)]) (st2 := [.long (((Int32.toInt64 x3) <<< (Int32.toInt64 32 &&& 63)) ||| ((Int32.toInt64 x4) &&& (4294967295 : Int64))), .int ((256 * x1) + x2), .ref 104]) (h2 := (sh_rep m.T (sh_u2 m.I 66 0 (sh_b2 y1)) m.J)) rfl rfl rfl ?_
        refine sh_w (i := (.goto 12)) (len := 3) (pc2 := 93) (lv2 := [(6, .long (((Int32.toInt64 x3) <<< (Int32.toInt64 32 &&& 63)) ||| ((Int32.toInt64 x4) &&& (4294967295 : Int64)))), (5, .int (m.I 101 (Int32.toNatClampNeg ((256 * x1) + x2)))), (0, .ref 67), (1, .int x1), (2, .int x2), (3, .int x3), (4, .int x4)]) (st2 := [.long (((Int32.toInt64 x3) <<< (Int32.toInt64 32 &&& 63)) ||| ((Int32.toInt64 x4) &&& (4294967295 : Int64))), .int ((256 * x1) + x2), .ref 104]) (h2 := (sh_rep m.T (sh_u2 m.I 66 0 (sh_b2 y1)) m.J)) rfl rfl rfl ?_
        exact kk
      exact sh_Lk_sub (sh_sub_n) (sl_336_93 e tg)
    · refine sh_Lk_lift (T := m.T) (I := sh_u2 m.I 66 0 (sh_b2 y1)) (J := m.J) (s := m.s) (pc2 := 93) (lv2 := [(6, .long (((Int32.toInt64 x3) <<< (Int32.toInt64 32 &&& 63)) ||| ((Int32.toInt64 x4) &&& (4294967295 : Int64)))), (5, .int (m.I 101 (Int32.toNatClampNeg ((256 * x1) + x2)))), (0, .ref 67), (1, .int x1), (2, .int x2), (3, .int x3), (4, .int x4)]) (st2 := [.long ((((Int32.toInt64 x3) <<< (Int32.toInt64 32 &&& 63)) ||| ((Int32.toInt64 x4) &&& (4294967295 : Int64))) &&& (((1 : Int64) <<< (Int32.toInt64 (m.I 101 (Int32.toNatClampNeg ((256 * x1) + x2))) &&& 63)) - (1 : Int64))), .int ((256 * x1) + x2), .ref 104]) (I2 := sh_u2 m.I 66 0 (sh_b2 y1)) (J2 := m.J) (fun hT v kk => ?_) ?_
      · refine sh_jc (c := .ne) (off := (8)) (pc2 := 84) true rfl (sh_Bnet c) rfl ?_
        refine sh_w (i := (.lload 6)) (len := 2) (pc2 := 86) (lv2 := [(6, .long (((Int32.toInt64 x3) <<< (Int32.toInt64 32 &&& 63)) ||| ((Int32.toInt64 x4) &&& (4294967295 : Int64)))), (5, .int (m.I 101 (Int32.toNatClampNeg ((256 * x1) + x2)))), (0, .ref 67), (1, .int x1), (2, .int x2), (3, .int x3), (4, .int x4)]) (st2 := [.long (((Int32.toInt64 x3) <<< (Int32.toInt64 32 &&& 63)) ||| ((Int32.toInt64 x4) &&& (4294967295 : Int64))), .int ((256 * x1) + x2), .ref 104]) (h2 := (sh_rep m.T (sh_u2 m.I 66 0 (sh_b2 y1)) m.J)) rfl rfl rfl ?_
        refine sh_w (i := (.lconst 1)) (len := 1) (pc2 := 87) (lv2 := [(6, .long (((Int32.toInt64 x3) <<< (Int32.toInt64 32 &&& 63)) ||| ((Int32.toInt64 x4) &&& (4294967295 : Int64)))), (5, .int (m.I 101 (Int32.toNatClampNeg ((256 * x1) + x2)))), (0, .ref 67), (1, .int x1), (2, .int x2), (3, .int x3), (4, .int x4)]) (st2 := [.long 1, .long (((Int32.toInt64 x3) <<< (Int32.toInt64 32 &&& 63)) ||| ((Int32.toInt64 x4) &&& (4294967295 : Int64))), .int ((256 * x1) + x2), .ref 104]) (h2 := (sh_rep m.T (sh_u2 m.I 66 0 (sh_b2 y1)) m.J)) rfl rfl rfl ?_
        refine sh_w (i := (.iload 5)) (len := 2) (pc2 := 89) (lv2 := [(6, .long (((Int32.toInt64 x3) <<< (Int32.toInt64 32 &&& 63)) ||| ((Int32.toInt64 x4) &&& (4294967295 : Int64)))), (5, .int (m.I 101 (Int32.toNatClampNeg ((256 * x1) + x2)))), (0, .ref 67), (1, .int x1), (2, .int x2), (3, .int x3), (4, .int x4)]) (st2 := [.int (m.I 101 (Int32.toNatClampNeg ((256 * x1) + x2))), .long 1, .long (((Int32.toInt64 x3) <<< (Int32.toInt64 32 &&& 63)) ||| ((Int32.toInt64 x4) &&& (4294967295 : Int64))), .int ((256 * x1) + x2), .ref 104]) (h2 := (sh_rep m.T (sh_u2 m.I 66 0 (sh_b2 y1)) m.J)) rfl rfl rfl ?_
        refine sh_w (i := .lshl) (len := 1) (pc2 := 90) (lv2 := [(6, .long (((Int32.toInt64 x3) <<< (Int32.toInt64 32 &&& 63)) ||| ((Int32.toInt64 x4) &&& (4294967295 : Int64)))), (5, .int (m.I 101 (Int32.toNatClampNeg ((256 * x1) + x2)))), (0, .ref 67), (1, .int x1), (2, .int x2), (3, .int x3), (4, .int x4)]) (st2 := [.long ((1 : Int64) <<< (Int32.toInt64 (m.I 101 (Int32.toNatClampNeg ((256 * x1) + x2))) &&& 63)), .long (((Int32.toInt64 x3) <<< (Int32.toInt64 32 &&& 63)) ||| ((Int32.toInt64 x4) &&& (4294967295 : Int64))), .int ((256 * x1) + x2), .ref 104]) (h2 := (sh_rep m.T (sh_u2 m.I 66 0 (sh_b2 y1)) m.J)) rfl rfl rfl ?_
        refine sh_w (i := (.lconst 1)) (len := 1) (pc2 := 91) (lv2 := [(6, .long (((Int32.toInt64 x3) <<< (Int32.toInt64 32 &&& 63)) ||| ((Int32.toInt64 x4) &&& (4294967295 : Int64)))), (5, .int (m.I 101 (Int32.toNatClampNeg ((256 * x1) + x2)))), (0, .ref 67), (1, .int x1), (2, .int x2), (3, .int x3), (4, .int x4)]) (st2 := [.long 1, .long ((1 : Int64) <<< (Int32.toInt64 (m.I 101 (Int32.toNatClampNeg ((256 * x1) + x2))) &&& 63)), .long (((Int32.toInt64 x3) <<< (Int32.toInt64 32 &&& 63)) ||| ((Int32.toInt64 x4) &&& (4294967295 : Int64))), .int ((256 * x1) + x2), .ref 104]) (h2 := (sh_rep m.T (sh_u2 m.I 66 0 (sh_b2 y1)) m.J)) rfl rfl rfl ?_
        refine sh_w (i := .lsub) (len := 1) (pc2 := 92) (lv2 := [(6, .long (((Int32.toInt64 x3) <<< (Int32.toInt64 32 &&& 63)) ||| ((Int32.toInt64 x4) &&& (4294967295 : Int64)))), (5, .int (m.I 101 (Int32.toNatClampNeg ((256 * x1) + x2)))), (0, .ref 67), (1, .int x1), (2, .int x2), (3, .int x3), (4, .int x4)]) (st2 := [.long (((1 : Int64) <<< (Int32.toInt64 (m.I 101 (Int32.toNatClampNeg ((256 * x1) + x2))) &&& 63)) - (1 : Int64)), .long (((Int32.toInt64 x3) <<< (Int32.toInt64 32 &&& 63)) ||| ((Int32.toInt64 x4) &&& (4294967295 : Int64))), .int ((256 * x1) + x2), .ref 104]) (h2 := (sh_rep m.T (sh_u2 m.I 66 0 (sh_b2 y1)) m.J)) rfl rfl rfl ?_
        refine sh_w (i := .land) (len := 1) (pc2 := 93) (lv2 := [(6, .long (((Int32.toInt64 x3) <<< (Int32.toInt64 32 &&& 63)) ||| ((Int32.toInt64 x4) &&& (4294967295 : Int64)))), (5, .int (m.I 101 (Int32.toNatClampNeg ((256 * x1) + x2)))), (0, .ref 67), (1, .int x1), (2, .int x2), (3, .int x3), (4, .int x4)]) (st2 := [.long ((((Int32.toInt64 x3) <<< (Int32.toInt64 32 &&& 63)) ||| ((Int32.toInt64 x4) &&& (4294967295 : Int64))) &&& (((1 : Int64) <<< (Int32.toInt64 (m.I 101 (Int32.toNatClampNeg ((256 * x1) + x2))) &&& 63)) - (1 : Int64))), .int ((256 * x1) + x2), .ref 104]) (h2 := (sh_rep m.T (sh_u2 m.I 66 0 (sh_b2 y1)) m.J)) rfl rfl rfl ?_
        exact kk
      exact sh_Lk_sub (sh_sub_n) (sl_336_93 e tg)
theorem sl_336_19 {x1 : Int32} {x2 : Int32} {x3 : Int32} {x4 : Int32} {m m2 : sh_X} {o : Outcome} {z : (Unit × sh_X)} (e : sf_336_19 x1 x2 x3 x4 m = some z) (tg : (sh_tV o m2) z) : sh_Lk 336 19 [(0, .ref 67), (1, .int x1), (2, .int x2), (3, .int x3), (4, .int x4)] [.ref 67] m o m2 9 222 := by
  unfold sf_336_19 at e
  refine sh_Lk_lift (T := m.T) (I := m.I) (J := m.J) (s := m.s) (pc2 := 20) (lv2 := [(0, .ref 67), (1, .int x1), (2, .int x2), (3, .int x3), (4, .int x4)]) (st2 := [.int 1, .ref 67]) (I2 := m.I) (J2 := m.J) (fun hT v kk => ?_) ?_
  · refine sh_w (i := (.iconst 1)) (len := 1) (pc2 := 20) (lv2 := [(0, .ref 67), (1, .int x1), (2, .int x2), (3, .int x3), (4, .int x4)]) (st2 := [.int 1, .ref 67]) (h2 := (sh_rep m.T m.I m.J)) rfl rfl rfl ?_
    exact kk
  exact sh_Lk_sub (sh_sub_c rfl (sh_sub_c rfl (sh_sub_c rfl (sh_sub_c rfl (sh_sub_c rfl (sh_sub_n)))))) (sl_336_20 e tg)
theorem sl_336 {x1 : Int32} {x2 : Int32} {x3 : Int32} {x4 : Int32} {m m2 : sh_X} {o : Outcome} {z : (Unit × sh_X)} (e : sf_336 x1 x2 x3 x4 m = some z) (tg : (sh_tV o m2) z) : sh_Lk 336 0 [(0, .ref 67), (1, .int x1), (2, .int x2), (3, .int x3), (4, .int x4)] [] m o m2 9 222 := by
  unfold sf_336 at e
  refine sh_Lk_lift (T := m.T) (I := m.I) (J := m.J) (s := m.s) (pc2 := 3) (lv2 := [(0, .ref 67), (1, .int x1), (2, .int x2), (3, .int x3), (4, .int x4)]) (st2 := [.int 2, .int x1, .ref 67]) (I2 := m.I) (J2 := m.J) (fun hT v kk => ?_) ?_
  · refine sh_w (i := (.aload_n 0)) (len := 1) (pc2 := 1) (lv2 := [(0, .ref 67), (1, .int x1), (2, .int x2), (3, .int x3), (4, .int x4)]) (st2 := [.ref 67]) (h2 := (sh_rep m.T m.I m.J)) rfl rfl rfl ?_
    refine sh_w (i := (.iload_n 1)) (len := 1) (pc2 := 2) (lv2 := [(0, .ref 67), (1, .int x1), (2, .int x2), (3, .int x3), (4, .int x4)]) (st2 := [.int x1, .ref 67]) (h2 := (sh_rep m.T m.I m.J)) rfl rfl rfl ?_
    refine sh_w (i := (.iconst 2)) (len := 1) (pc2 := 3) (lv2 := [(0, .ref 67), (1, .int x1), (2, .int x2), (3, .int x3), (4, .int x4)]) (st2 := [.int 2, .int x1, .ref 67]) (h2 := (sh_rep m.T m.I m.J)) rfl rfl rfl ?_
    exact kk
  rcases sh_ite e with ⟨c, e⟩ | ⟨c, e⟩
  · refine sh_Lk_lift (T := m.T) (I := m.I) (J := m.J) (s := m.s) (pc2 := 9) (lv2 := [(0, .ref 67), (1, .int x1), (2, .int x2), (3, .int x3), (4, .int x4)]) (st2 := [.int x2, .int x1, .ref 67, .ref 67]) (I2 := m.I) (J2 := m.J) (fun hT v kk => ?_) ?_
    · refine sh_jc (c := .ge) (off := (16)) (pc2 := 6) false rfl (sh_Bgef c) rfl ?_
      refine sh_w (i := (.aload_n 0)) (len := 1) (pc2 := 7) (lv2 := [(0, .ref 67), (1, .int x1), (2, .int x2), (3, .int x3), (4, .int x4)]) (st2 := [.ref 67, .ref 67]) (h2 := (sh_rep m.T m.I m.J)) rfl rfl rfl ?_
      refine sh_w (i := (.iload_n 1)) (len := 1) (pc2 := 8) (lv2 := [(0, .ref 67), (1, .int x1), (2, .int x2), (3, .int x3), (4, .int x4)]) (st2 := [.int x1, .ref 67, .ref 67]) (h2 := (sh_rep m.T m.I m.J)) rfl rfl rfl ?_
      refine sh_w (i := (.iload_n 2)) (len := 1) (pc2 := 9) (lv2 := [(0, .ref 67), (1, .int x1), (2, .int x2), (3, .int x3), (4, .int x4)]) (st2 := [.int x2, .int x1, .ref 67, .ref 67]) (h2 := (sh_rep m.T m.I m.J)) rfl rfl rfl ?_
      exact kk
    obtain ⟨r1, e1, e⟩ := sh_bc_e e
    refine sh_Lk_cV (r := (some (.int (sh_b2 r1)))) (st2 := [.int (sh_b2 r1), .ref 67]) (pc2 := 12) (k2 := 335) (a := 66) (as := [.ref 67, .int x1, .int x2]) (rest := [.ref 67]) rfl rfl rfl (fun hT => (sh_s66 hT.st)) rfl rfl ⟨Nat.le_of_ble_eq_true rfl, Nat.le_of_ble_eq_true rfl⟩ (sl_335 e1 ⟨rfl, rfl⟩) rfl rfl (Nat.le_of_ble_eq_true rfl) (Nat.le_of_ble_eq_true rfl) ?_
    rcases sh_ite e with ⟨c, e⟩ | ⟨c, e⟩
    · refine sh_Lk_lift (T := m.T) (I := m.I) (J := m.J) (s := m.s) (pc2 := 20) (lv2 := [(0, .ref 67), (1, .int x1), (2, .int x2), (3, .int x3), (4, .int x4)]) (st2 := [.int 0, .ref 67]) (I2 := m.I) (J2 := m.J) (fun hT v kk => ?_) ?_
      · refine sh_j0 (c := .eq) (off := (7)) (pc2 := 15) false rfl (sh_Zeqf c) rfl ?_
        refine sh_w (i := (.iconst 0)) (len := 1) (pc2 := 16) (lv2 := [(0, .ref 67), (1, .int x1), (2, .int x2), (3, .int x3), (4, .int x4)]) (st2 := [.int 0, .ref 67]) (h2 := (sh_rep m.T m.I m.J)) rfl rfl rfl ?_
        refine sh_w (i := (.goto 4)) (len := 3) (pc2 := 20) (lv2 := [(0, .ref 67), (1, .int x1), (2, .int x2), (3, .int x3), (4, .int x4)]) (st2 := [.int 0, .ref 67]) (h2 := (sh_rep m.T m.I m.J)) rfl rfl rfl ?_
        exact kk
      exact sh_Lk_sub (sh_sub_c rfl (sh_sub_c rfl (sh_sub_c rfl (sh_sub_c rfl (sh_sub_c rfl (sh_sub_n)))))) (sl_336_20 e tg)
    · refine sh_Lk_lift (T := m.T) (I := m.I) (J := m.J) (s := m.s) (pc2 := 19) (lv2 := [(0, .ref 67), (1, .int x1), (2, .int x2), (3, .int x3), (4, .int x4)]) (st2 := [.ref 67]) (I2 := m.I) (J2 := m.J) (fun hT v kk => ?_) ?_
      · refine sh_j0 (c := .eq) (off := (7)) (pc2 := 19) true rfl (sh_Zeqt c) rfl ?_
        exact kk
      exact sh_Lk_sub (sh_sub_c rfl (sh_sub_c rfl (sh_sub_c rfl (sh_sub_c rfl (sh_sub_c rfl (sh_sub_n)))))) (sl_336_19 e tg)
  · refine sh_Lk_lift (T := m.T) (I := m.I) (J := m.J) (s := m.s) (pc2 := 19) (lv2 := [(0, .ref 67), (1, .int x1), (2, .int x2), (3, .int x3), (4, .int x4)]) (st2 := [.ref 67]) (I2 := m.I) (J2 := m.J) (fun hT v kk => ?_) ?_
    · refine sh_jc (c := .ge) (off := (16)) (pc2 := 19) true rfl (sh_Bget c) rfl ?_
      exact kk
    exact sh_Lk_sub (sh_sub_c rfl (sh_sub_c rfl (sh_sub_c rfl (sh_sub_c rfl (sh_sub_c rfl (sh_sub_n)))))) (sl_336_19 e tg)
theorem sl_337 {x1 : Int32} {x2 : Int32} {x3 : Int32} {m m2 : sh_X} {o : Outcome} {z : (Unit × sh_X)} (e : sf_337 x1 x2 x3 m = some z) (tg : (sh_tV o m2) z) : sh_Lk 337 0 [(0, .ref 67), (1, .int x1), (2, .int x2), (3, .int x3)] [] m o m2 8 200 := by
  unfold sf_337 at e
  refine sh_Lk_lift (T := m.T) (I := m.I) (J := m.J) (s := m.s) (pc2 := 5) (lv2 := [(0, .ref 67), (1, .int x1), (2, .int x2), (3, .int x3)]) (st2 := []) (I2 := sh_u2 m.I 66 0 0) (J2 := m.J) (fun hT v kk => ?_) ?_
  · refine sh_w (i := (.aload_n 0)) (len := 1) (pc2 := 1) (lv2 := [(0, .ref 67), (1, .int x1), (2, .int x2), (3, .int x3)]) (st2 := [.ref 67]) (h2 := (sh_rep m.T m.I m.J)) rfl rfl rfl ?_
    refine sh_w (i := (.iconst 0)) (len := 1) (pc2 := 2) (lv2 := [(0, .ref 67), (1, .int x1), (2, .int x2), (3, .int x3)]) (st2 := [.int 0, .ref 67]) (h2 := (sh_rep m.T m.I m.J)) rfl rfl rfl ?_
    refine sh_pI1 (x := 0) (pc2 := 5) rfl rfl (sh_s66 hT.st) rfl rfl rfl rfl ?_
    exact kk
  obtain rfl := Option.some.inj e
  obtain ⟨rfl, rfl⟩ := tg
  exact sh_Lk_ret (i := .return_) rfl rfl rfl (Nat.le_of_ble_eq_true rfl) (Nat.le_of_ble_eq_true rfl)
theorem sl_339_89 {x1 : Int32} {y1 : Int32} {y2 : Bool} {m m2 : sh_X} {o : Outcome} {z : ((Int32 × sh_X) ⊕ (Unit × sh_X))} (e : sf_339_89 x1 y1 y2 m = some z) (tg : (sh_el (fun q => sh_Lk 339 2 [(0, .ref 67), (1, .int q.1)] [] q.2 o m2 8 200) (sh_tV o m2)) z) : sh_Lk 339 89 [(0, .ref 67), (1, .int x1)] [.int (sh_b2 y2), .int y1, .ref 123] m o m2 8 200 := by
  unfold sf_339_89 at e
  obtain ⟨c, e⟩ := sh_gd e
  refine sh_Lk_lift (T := m.T) (I := m.I) (J := m.J) (s := m.s) (pc2 := 2) (lv2 := [(1, .int (x1 + 1)), (0, .ref 67)]) (st2 := []) (I2 := sh_u2 m.I 122 (Int32.toNatClampNeg y1) (vp_nar .boolean (sh_b2 y2))) (J2 := m.J) (fun hT v kk => ?_) ?_
  · refine sh_zs1 (x := sh_b2 y2) (y := vp_nar .boolean (sh_b2 y2)) (i := y1) (pc2 := 90) rfl (sh_s122 hT.st) (sh_okb1 c) (sh_okb2 c) rfl rfl ?_
    refine sh_w (i := (.iinc 1 1)) (len := 3) (pc2 := 93) (lv2 := [(1, .int (x1 + 1)), (0, .ref 67)]) (st2 := []) (h2 := (sh_rep m.T (sh_u2 m.I 122 (Int32.toNatClampNeg y1) (vp_nar .boolean (sh_b2 y2))) m.J)) rfl rfl rfl ?_
    refine sh_w (i := (.goto (-91))) (len := 3) (pc2 := 2) (lv2 := [(1, .int (x1 + 1)), (0, .ref 67)]) (st2 := []) (h2 := (sh_rep m.T (sh_u2 m.I 122 (Int32.toNatClampNeg y1) (vp_nar .boolean (sh_b2 y2))) m.J)) rfl rfl rfl ?_
    exact kk
  obtain rfl := Option.some.inj e
  exact sh_Lk_sub (sh_sub_c rfl (sh_sub_c rfl (sh_sub_n))) tg
theorem sl_339_51 {x1 : Int32} {x2 : Bool} {y0 : Int32} {m m2 : sh_X} {o : Outcome} {z : ((Int32 × sh_X) ⊕ (Unit × sh_X))} (e : sf_339_51 x1 x2 y0 m = some z) (tg : (sh_el (fun q => sh_Lk 339 2 [(0, .ref 67), (1, .int q.1)] [] q.2 o m2 8 200) (sh_tV o m2)) z) : sh_Lk 339 51 [(0, .ref 67), (1, .int x1), (2, .int (sh_b2 x2))] [.int y0] m o m2 8 200 := by
  unfold sf_339_51 at e
  refine sh_Lk_lift (T := m.T) (I := m.I) (J := m.J) (s := m.s) (pc2 := 71) (lv2 := [(3, .int y0), (0, .ref 67), (1, .int x1), (2, .int (sh_b2 x2))]) (st2 := [.int ((256 * (sh_b2 x2)) + (y0 / 64)), .ref 104, .int x1, .ref 123]) (I2 := m.I) (J2 := m.J) (fun hT v kk => ?_) ?_
  · refine sh_w (i := (.istore_n 3)) (len := 1) (pc2 := 52) (lv2 := [(3, .int y0), (0, .ref 67), (1, .int x1), (2, .int (sh_b2 x2))]) (st2 := []) (h2 := (sh_rep m.T m.I m.J)) rfl rfl rfl ?_
    refine sh_w (i := (.aload_n 0)) (len := 1) (pc2 := 53) (lv2 := [(3, .int y0), (0, .ref 67), (1, .int x1), (2, .int (sh_b2 x2))]) (st2 := [.ref 67]) (h2 := (sh_rep m.T m.I m.J)) rfl rfl rfl ?_
    refine sh_gR1 (len := 3) (x := .ref 123) (pc2 := 56) rfl rfl (sh_s66 hT.st) rfl rfl ?_
    refine sh_w (i := (.iload_n 1)) (len := 1) (pc2 := 57) (lv2 := [(3, .int y0), (0, .ref 67), (1, .int x1), (2, .int (sh_b2 x2))]) (st2 := [.int x1, .ref 123]) (h2 := (sh_rep m.T m.I m.J)) rfl rfl rfl ?_
    refine sh_w (i := (.aload_n 0)) (len := 1) (pc2 := 58) (lv2 := [(3, .int y0), (0, .ref 67), (1, .int x1), (2, .int (sh_b2 x2))]) (st2 := [.ref 67, .int x1, .ref 123]) (h2 := (sh_rep m.T m.I m.J)) rfl rfl rfl ?_
    refine sh_gR1 (len := 3) (x := .ref 104) (pc2 := 61) rfl rfl (sh_s66 hT.st) rfl rfl ?_
    refine sh_w (i := (.sipush 256)) (len := 3) (pc2 := 64) (lv2 := [(3, .int y0), (0, .ref 67), (1, .int x1), (2, .int (sh_b2 x2))]) (st2 := [.int 256, .ref 104, .int x1, .ref 123]) (h2 := (sh_rep m.T m.I m.J)) rfl rfl rfl ?_
    refine sh_w (i := (.iload_n 2)) (len := 1) (pc2 := 65) (lv2 := [(3, .int y0), (0, .ref 67), (1, .int x1), (2, .int (sh_b2 x2))]) (st2 := [.int (sh_b2 x2), .int 256, .ref 104, .int x1, .ref 123]) (h2 := (sh_rep m.T m.I m.J)) rfl rfl rfl ?_
    refine sh_w (i := .imul) (len := 1) (pc2 := 66) (lv2 := [(3, .int y0), (0, .ref 67), (1, .int x1), (2, .int (sh_b2 x2))]) (st2 := [.int (256 * (sh_b2 x2)), .ref 104, .int x1, .ref 123]) (h2 := (sh_rep m.T m.I m.J)) rfl rfl rfl ?_
    refine sh_w (i := (.iload_n 3)) (len := 1) (pc2 := 67) (lv2 := [(3, .int y0), (0, .ref 67), (1, .int x1), (2, .int (sh_b2 x2))]) (st2 := [.int y0, .int (256 * (sh_b2 x2)), .ref 104, .int x1, .ref 123]) (h2 := (sh_rep m.T m.I m.J)) rfl rfl rfl ?_
    refine sh_w (i := (.bipush 64)) (len := 2) (pc2 := 69) (lv2 := [(3, .int y0), (0, .ref 67), (1, .int x1), (2, .int (sh_b2 x2))]) (st2 := [.int 64, .int y0, .int (256 * (sh_b2 x2)), .ref 104, .int x1, .ref 123]) (h2 := (sh_rep m.T m.I m.J)) rfl rfl rfl ?_
    refine sh_w (i := .idiv) (len := 1) (pc2 := 70) (lv2 := [(3, .int y0), (0, .ref 67), (1, .int x1), (2, .int (sh_b2 x2))]) (st2 := [.int (y0 / 64), .int (256 * (sh_b2 x2)), .ref 104, .int x1, .ref 123]) (h2 := (sh_rep m.T m.I m.J)) rfl rfl rfl ?_
    refine sh_w (i := .iadd) (len := 1) (pc2 := 71) (lv2 := [(3, .int y0), (0, .ref 67), (1, .int x1), (2, .int (sh_b2 x2))]) (st2 := [.int ((256 * (sh_b2 x2)) + (y0 / 64)), .ref 104, .int x1, .ref 123]) (h2 := (sh_rep m.T m.I m.J)) rfl rfl rfl ?_
    exact kk
  obtain ⟨c, e⟩ := sh_gd e
  refine sh_Lk_lift (T := m.T) (I := m.I) (J := m.J) (s := m.s) (pc2 := 81) (lv2 := [(3, .int y0), (0, .ref 67), (1, .int x1), (2, .int (sh_b2 x2))]) (st2 := [.int (lg_cmp ((((m.J 103 (Int32.toNatClampNeg ((256 * (sh_b2 x2)) + (y0 / 64)))).toUInt64 >>> ((Int32.toInt64 (y0 - y0 / 64 * 64)).toUInt64 &&& Int64.toUInt64 63)).toInt64) &&& (1 : Int64)) 1), .int x1, .ref 123]) (I2 := m.I) (J2 := m.J) (fun hT v kk => ?_) ?_
  · refine sh_la1 (x := m.J 103 (Int32.toNatClampNeg ((256 * (sh_b2 x2)) + (y0 / 64)))) (pc2 := 72) rfl (sh_s103 hT.st) (sh_okb1 c) (sh_okb2 c) rfl rfl ?_
    refine sh_w (i := (.iload_n 3)) (len := 1) (pc2 := 73) (lv2 := [(3, .int y0), (0, .ref 67), (1, .int x1), (2, .int (sh_b2 x2))]) (st2 := [.int y0, .long (m.J 103 (Int32.toNatClampNeg ((256 * (sh_b2 x2)) + (y0 / 64)))), .int x1, .ref 123]) (h2 := (sh_rep m.T m.I m.J)) rfl rfl rfl ?_
    refine sh_w (i := (.bipush 64)) (len := 2) (pc2 := 75) (lv2 := [(3, .int y0), (0, .ref 67), (1, .int x1), (2, .int (sh_b2 x2))]) (st2 := [.int 64, .int y0, .long (m.J 103 (Int32.toNatClampNeg ((256 * (sh_b2 x2)) + (y0 / 64)))), .int x1, .ref 123]) (h2 := (sh_rep m.T m.I m.J)) rfl rfl rfl ?_
    refine sh_w (i := .irem) (len := 1) (pc2 := 76) (lv2 := [(3, .int y0), (0, .ref 67), (1, .int x1), (2, .int (sh_b2 x2))]) (st2 := [.int (y0 - y0 / 64 * 64), .long (m.J 103 (Int32.toNatClampNeg ((256 * (sh_b2 x2)) + (y0 / 64)))), .int x1, .ref 123]) (h2 := (sh_rep m.T m.I m.J)) rfl rfl rfl ?_
    refine sh_w (i := .lushr) (len := 1) (pc2 := 77) (lv2 := [(3, .int y0), (0, .ref 67), (1, .int x1), (2, .int (sh_b2 x2))]) (st2 := [.long (((m.J 103 (Int32.toNatClampNeg ((256 * (sh_b2 x2)) + (y0 / 64)))).toUInt64 >>> ((Int32.toInt64 (y0 - y0 / 64 * 64)).toUInt64 &&& Int64.toUInt64 63)).toInt64), .int x1, .ref 123]) (h2 := (sh_rep m.T m.I m.J)) rfl rfl rfl ?_
    refine sh_w (i := (.lconst 1)) (len := 1) (pc2 := 78) (lv2 := [(3, .int y0), (0, .ref 67), (1, .int x1), (2, .int (sh_b2 x2))]) (st2 := [.long 1, .long (((m.J 103 (Int32.toNatClampNeg ((256 * (sh_b2 x2)) + (y0 / 64)))).toUInt64 >>> ((Int32.toInt64 (y0 - y0 / 64 * 64)).toUInt64 &&& Int64.toUInt64 63)).toInt64), .int x1, .ref 123]) (h2 := (sh_rep m.T m.I m.J)) rfl rfl rfl ?_
    refine sh_w (i := .land) (len := 1) (pc2 := 79) (lv2 := [(3, .int y0), (0, .ref 67), (1, .int x1), (2, .int (sh_b2 x2))]) (st2 := [.long ((((m.J 103 (Int32.toNatClampNeg ((256 * (sh_b2 x2)) + (y0 / 64)))).toUInt64 >>> ((Int32.toInt64 (y0 - y0 / 64 * 64)).toUInt64 &&& Int64.toUInt64 63)).toInt64) &&& (1 : Int64)), .int x1, .ref 123]) (h2 := (sh_rep m.T m.I m.J)) rfl rfl rfl ?_
    refine sh_w (i := (.lconst 1)) (len := 1) (pc2 := 80) (lv2 := [(3, .int y0), (0, .ref 67), (1, .int x1), (2, .int (sh_b2 x2))]) (st2 := [.long 1, .long ((((m.J 103 (Int32.toNatClampNeg ((256 * (sh_b2 x2)) + (y0 / 64)))).toUInt64 >>> ((Int32.toInt64 (y0 - y0 / 64 * 64)).toUInt64 &&& Int64.toUInt64 63)).toInt64) &&& (1 : Int64)), .int x1, .ref 123]) (h2 := (sh_rep m.T m.I m.J)) rfl rfl rfl ?_
    refine sh_w (i := .lcmp) (len := 1) (pc2 := 81) (lv2 := [(3, .int y0), (0, .ref 67), (1, .int x1), (2, .int (sh_b2 x2))]) (st2 := [.int (lg_cmp ((((m.J 103 (Int32.toNatClampNeg ((256 * (sh_b2 x2)) + (y0 / 64)))).toUInt64 >>> ((Int32.toInt64 (y0 - y0 / 64 * 64)).toUInt64 &&& Int64.toUInt64 63)).toInt64) &&& (1 : Int64)) 1), .int x1, .ref 123]) (h2 := (sh_rep m.T m.I m.J)) rfl rfl rfl ?_
    exact kk
  rcases sh_ite e with ⟨c, e⟩ | ⟨c, e⟩
  · refine sh_Lk_lift (T := m.T) (I := m.I) (J := m.J) (s := m.s) (pc2 := 89) (lv2 := [(3, .int y0), (0, .ref 67), (1, .int x1), (2, .int (sh_b2 x2))]) (st2 := [.int 1, .int x1, .ref 123]) (I2 := m.I) (J2 := m.J) (fun hT v kk => ?_) ?_
    · refine sh_j0 (c := .ne) (off := (7)) (pc2 := 84) false rfl (sh_Cnef c) rfl ?_
      refine sh_w (i := (.iconst 1)) (len := 1) (pc2 := 85) (lv2 := [(3, .int y0), (0, .ref 67), (1, .int x1), (2, .int (sh_b2 x2))]) (st2 := [.int 1, .int x1, .ref 123]) (h2 := (sh_rep m.T m.I m.J)) rfl rfl rfl ?_
      refine sh_w (i := (.goto 4)) (len := 3) (pc2 := 89) (lv2 := [(3, .int y0), (0, .ref 67), (1, .int x1), (2, .int (sh_b2 x2))]) (st2 := [.int 1, .int x1, .ref 123]) (h2 := (sh_rep m.T m.I m.J)) rfl rfl rfl ?_
      exact kk
    exact sh_Lk_sub (sh_sub_c rfl (sh_sub_c rfl (sh_sub_n))) (sl_339_89 e tg)
  · refine sh_Lk_lift (T := m.T) (I := m.I) (J := m.J) (s := m.s) (pc2 := 89) (lv2 := [(3, .int y0), (0, .ref 67), (1, .int x1), (2, .int (sh_b2 x2))]) (st2 := [.int 0, .int x1, .ref 123]) (I2 := m.I) (J2 := m.J) (fun hT v kk => ?_) ?_
    · refine sh_j0 (c := .ne) (off := (7)) (pc2 := 88) true rfl (sh_Cnet c) rfl ?_
      refine sh_w (i := (.iconst 0)) (len := 1) (pc2 := 89) (lv2 := [(3, .int y0), (0, .ref 67), (1, .int x1), (2, .int (sh_b2 x2))]) (st2 := [.int 0, .int x1, .ref 123]) (h2 := (sh_rep m.T m.I m.J)) rfl rfl rfl ?_
      exact kk
    exact sh_Lk_sub (sh_sub_c rfl (sh_sub_c rfl (sh_sub_n))) (sl_339_89 e tg)
theorem sl_339_34 {x1 : Int32} {y0 : Bool} {m m2 : sh_X} {o : Outcome} {z : ((Int32 × sh_X) ⊕ (Unit × sh_X))} (e : sf_339_34 x1 y0 m = some z) (tg : (sh_el (fun q => sh_Lk 339 2 [(0, .ref 67), (1, .int q.1)] [] q.2 o m2 8 200) (sh_tV o m2)) z) : sh_Lk 339 34 [(0, .ref 67), (1, .int x1)] [.int (sh_b2 y0)] m o m2 8 200 := by
  unfold sf_339_34 at e
  refine sh_Lk_lift (T := m.T) (I := m.I) (J := m.J) (s := m.s) (pc2 := 36) (lv2 := [(2, .int (sh_b2 y0)), (0, .ref 67), (1, .int x1)]) (st2 := [.int (sh_b2 y0)]) (I2 := m.I) (J2 := m.J) (fun hT v kk => ?_) ?_
  · refine sh_w (i := (.istore_n 2)) (len := 1) (pc2 := 35) (lv2 := [(2, .int (sh_b2 y0)), (0, .ref 67), (1, .int x1)]) (st2 := []) (h2 := (sh_rep m.T m.I m.J)) rfl rfl rfl ?_
    refine sh_w (i := (.iload_n 2)) (len := 1) (pc2 := 36) (lv2 := [(2, .int (sh_b2 y0)), (0, .ref 67), (1, .int x1)]) (st2 := [.int (sh_b2 y0)]) (h2 := (sh_rep m.T m.I m.J)) rfl rfl rfl ?_
    exact kk
  rcases sh_ite e with ⟨c, e⟩ | ⟨c, e⟩
  · refine sh_Lk_lift (T := m.T) (I := m.I) (J := m.J) (s := m.s) (pc2 := 51) (lv2 := [(2, .int (sh_b2 y0)), (0, .ref 67), (1, .int x1)]) (st2 := [.int (x1 - (m.I 121 0))]) (I2 := m.I) (J2 := m.J) (fun hT v kk => ?_) ?_
    · refine sh_j0 (c := .ne) (off := (7)) (pc2 := 43) true rfl (sh_Znet c) rfl ?_
      refine sh_w (i := (.iload_n 1)) (len := 1) (pc2 := 44) (lv2 := [(2, .int (sh_b2 y0)), (0, .ref 67), (1, .int x1)]) (st2 := [.int x1]) (h2 := (sh_rep m.T m.I m.J)) rfl rfl rfl ?_
      refine sh_w (i := (.aload_n 0)) (len := 1) (pc2 := 45) (lv2 := [(2, .int (sh_b2 y0)), (0, .ref 67), (1, .int x1)]) (st2 := [.ref 67, .int x1]) (h2 := (sh_rep m.T m.I m.J)) rfl rfl rfl ?_
      refine sh_gR1 (len := 3) (x := .ref 122) (pc2 := 48) rfl rfl (sh_s66 hT.st) rfl rfl ?_
      refine sh_w (i := (.iconst 0)) (len := 1) (pc2 := 49) (lv2 := [(2, .int (sh_b2 y0)), (0, .ref 67), (1, .int x1)]) (st2 := [.int 0, .ref 122, .int x1]) (h2 := (sh_rep m.T m.I m.J)) rfl rfl rfl ?_
      refine sh_ia1 (x := m.I 121 0) (pc2 := 50) rfl (sh_s121 hT.st) (by decide) (by decide) rfl rfl ?_
      refine sh_w (i := .isub) (len := 1) (pc2 := 51) (lv2 := [(2, .int (sh_b2 y0)), (0, .ref 67), (1, .int x1)]) (st2 := [.int (x1 - (m.I 121 0))]) (h2 := (sh_rep m.T m.I m.J)) rfl rfl rfl ?_
      exact kk
    exact sh_Lk_sub (sh_sub_c rfl (sh_sub_c rfl (sh_sub_c rfl (sh_sub_n)))) (sl_339_51 e tg)
  · refine sh_Lk_lift (T := m.T) (I := m.I) (J := m.J) (s := m.s) (pc2 := 51) (lv2 := [(2, .int (sh_b2 y0)), (0, .ref 67), (1, .int x1)]) (st2 := [.int x1]) (I2 := m.I) (J2 := m.J) (fun hT v kk => ?_) ?_
    · refine sh_j0 (c := .ne) (off := (7)) (pc2 := 39) false rfl (sh_Znef c) rfl ?_
      refine sh_w (i := (.iload_n 1)) (len := 1) (pc2 := 40) (lv2 := [(2, .int (sh_b2 y0)), (0, .ref 67), (1, .int x1)]) (st2 := [.int x1]) (h2 := (sh_rep m.T m.I m.J)) rfl rfl rfl ?_
      refine sh_w (i := (.goto 11)) (len := 3) (pc2 := 51) (lv2 := [(2, .int (sh_b2 y0)), (0, .ref 67), (1, .int x1)]) (st2 := [.int x1]) (h2 := (sh_rep m.T m.I m.J)) rfl rfl rfl ?_
      exact kk
    exact sh_Lk_sub (sh_sub_c rfl (sh_sub_c rfl (sh_sub_c rfl (sh_sub_n)))) (sl_339_51 e tg)
theorem sl_339_211 {x1 : Int32} {y1 : Int32} {y2 : Int32} {m m2 : sh_X} {o : Outcome} {z : ((Int32 × sh_X) ⊕ (Unit × sh_X))} (e : sf_339_211 x1 y1 y2 m = some z) (tg : (sh_el (fun q => sh_Lk 339 98 [(0, .ref 67), (1, .int q.1)] [] q.2 o m2 8 200) (sh_tV o m2)) z) : sh_Lk 339 211 [(0, .ref 67), (1, .int x1)] [.int y2, .int y1, .ref 123] m o m2 8 200 := by
  unfold sf_339_211 at e
  obtain ⟨c, e⟩ := sh_gd e
  refine sh_Lk_lift (T := m.T) (I := m.I) (J := m.J) (s := m.s) (pc2 := 98) (lv2 := [(1, .int (x1 + 1)), (0, .ref 67)]) (st2 := []) (I2 := sh_u2 m.I 122 (Int32.toNatClampNeg y1) (vp_nar .boolean y2)) (J2 := m.J) (fun hT v kk => ?_) ?_
  · refine sh_zs1 (x := y2) (y := vp_nar .boolean y2) (i := y1) (pc2 := 212) rfl (sh_s122 hT.st) (sh_okb1 c) (sh_okb2 c) rfl rfl ?_
    refine sh_w (i := (.iinc 1 1)) (len := 3) (pc2 := 215) (lv2 := [(1, .int (x1 + 1)), (0, .ref 67)]) (st2 := []) (h2 := (sh_rep m.T (sh_u2 m.I 122 (Int32.toNatClampNeg y1) (vp_nar .boolean y2)) m.J)) rfl rfl rfl ?_
    refine sh_w (i := (.goto (-117))) (len := 3) (pc2 := 98) (lv2 := [(1, .int (x1 + 1)), (0, .ref 67)]) (st2 := []) (h2 := (sh_rep m.T (sh_u2 m.I 122 (Int32.toNatClampNeg y1) (vp_nar .boolean y2)) m.J)) rfl rfl rfl ?_
    exact kk
  obtain rfl := Option.some.inj e
  exact sh_Lk_sub (sh_sub_c rfl (sh_sub_c rfl (sh_sub_n))) tg
theorem sl_339_184 {x1 : Int32} {y1 : Int32} {m m2 : sh_X} {o : Outcome} {z : ((Int32 × sh_X) ⊕ (Unit × sh_X))} (e : sf_339_184 x1 y1 m = some z) (tg : (sh_el (fun q => sh_Lk 339 98 [(0, .ref 67), (1, .int q.1)] [] q.2 o m2 8 200) (sh_tV o m2)) z) : sh_Lk 339 184 [(0, .ref 67), (1, .int x1)] [.int y1, .ref 123] m o m2 8 200 := by
  unfold sf_339_184 at e
  refine sh_Lk_lift (T := m.T) (I := m.I) (J := m.J) (s := m.s) (pc2 := 211) (lv2 := [(0, .ref 67), (1, .int x1)]) (st2 := [.int 0, .int y1, .ref 123]) (I2 := m.I) (J2 := m.J) (fun hT v kk => ?_) ?_
  · refine sh_w (i := (.iconst 0)) (len := 1) (pc2 := 185) (lv2 := [(0, .ref 67), (1, .int x1)]) (st2 := [.int 0, .int y1, .ref 123]) (h2 := (sh_rep m.T m.I m.J)) rfl rfl rfl ?_
    refine sh_w (i := (.goto 26)) (len := 3) (pc2 := 211) (lv2 := [(0, .ref 67), (1, .int x1)]) (st2 := [.int 0, .int y1, .ref 123]) (h2 := (sh_rep m.T m.I m.J)) rfl rfl rfl ?_
    exact kk
  exact sh_Lk_sub (sh_sub_c rfl (sh_sub_c rfl (sh_sub_n))) (sl_339_211 e tg)
theorem sl_339_294 {x1 : Int32} {m m2 : sh_X} {o : Outcome} {z : ((Int32 × sh_X) ⊕ (Unit × sh_X))} (e : sf_339_294 x1 m = some z) (tg : (sh_el (fun q => sh_Lk 339 245 [(0, .ref 67), (1, .int q.1)] [] q.2 o m2 8 200) (sh_tV o m2)) z) : sh_Lk 339 294 [(0, .ref 67), (1, .int x1)] [] m o m2 8 200 := by
  unfold sf_339_294 at e
  refine sh_Lk_lift (T := m.T) (I := m.I) (J := m.J) (s := m.s) (pc2 := 245) (lv2 := [(1, .int (x1 + 1)), (0, .ref 67)]) (st2 := []) (I2 := m.I) (J2 := m.J) (fun hT v kk => ?_) ?_
  · refine sh_w (i := (.iinc 1 1)) (len := 3) (pc2 := 297) (lv2 := [(1, .int (x1 + 1)), (0, .ref 67)]) (st2 := []) (h2 := (sh_rep m.T m.I m.J)) rfl rfl rfl ?_
    refine sh_w (i := (.goto (-52))) (len := 3) (pc2 := 245) (lv2 := [(1, .int (x1 + 1)), (0, .ref 67)]) (st2 := []) (h2 := (sh_rep m.T m.I m.J)) rfl rfl rfl ?_
    exact kk
  obtain rfl := Option.some.inj e
  exact sh_Lk_sub (sh_sub_c rfl (sh_sub_c rfl (sh_sub_n))) tg
theorem sl_339_245s {x1 : Int32} {m m2 : sh_X} {o : Outcome} {z : ((Int32 × sh_X) ⊕ (Unit × sh_X))} (e : sf_339_245s x1 m = some z) (tg : (sh_el (fun q => sh_Lk 339 245 [(0, .ref 67), (1, .int q.1)] [] q.2 o m2 8 200) (sh_tV o m2)) z) : sh_Lk 339 245 [(0, .ref 67), (1, .int x1)] [] m o m2 8 200 := by
  unfold sf_339_245s at e
  refine sh_Lk_lift (T := m.T) (I := m.I) (J := m.J) (s := m.s) (pc2 := 252) (lv2 := [(0, .ref 67), (1, .int x1)]) (st2 := [.int (m.I 121 2), .int x1]) (I2 := m.I) (J2 := m.J) (fun hT v kk => ?_) ?_
  · refine sh_w (i := (.iload_n 1)) (len := 1) (pc2 := 246) (lv2 := [(0, .ref 67), (1, .int x1)]) (st2 := [.int x1]) (h2 := (sh_rep m.T m.I m.J)) rfl rfl rfl ?_
    refine sh_w (i := (.aload_n 0)) (len := 1) (pc2 := 247) (lv2 := [(0, .ref 67), (1, .int x1)]) (st2 := [.ref 67, .int x1]) (h2 := (sh_rep m.T m.I m.J)) rfl rfl rfl ?_
    refine sh_gR1 (len := 3) (x := .ref 122) (pc2 := 250) rfl rfl (sh_s66 hT.st) rfl rfl ?_
    refine sh_w (i := (.iconst 2)) (len := 1) (pc2 := 251) (lv2 := [(0, .ref 67), (1, .int x1)]) (st2 := [.int 2, .ref 122, .int x1]) (h2 := (sh_rep m.T m.I m.J)) rfl rfl rfl ?_
    refine sh_ia1 (x := m.I 121 2) (pc2 := 252) rfl (sh_s121 hT.st) (by decide) (by decide) rfl rfl ?_
    exact kk
  rcases sh_ite e with ⟨c, e⟩ | ⟨c, e⟩
  · refine sh_Lk_lift (T := m.T) (I := m.I) (J := m.J) (s := m.s) (pc2 := 272) (lv2 := [(0, .ref 67), (1, .int x1)]) (st2 := [.int (((m.I 66 86) - (m.I 121 2)) + x1), .ref 123]) (I2 := m.I) (J2 := m.J) (fun hT v kk => ?_) ?_
    · refine sh_jc (c := .ge) (off := (48)) (pc2 := 255) false rfl (sh_Bgef c) rfl ?_
      refine sh_w (i := (.aload_n 0)) (len := 1) (pc2 := 256) (lv2 := [(0, .ref 67), (1, .int x1)]) (st2 := [.ref 67]) (h2 := (sh_rep m.T m.I m.J)) rfl rfl rfl ?_
      refine sh_gR1 (len := 3) (x := .ref 123) (pc2 := 259) rfl rfl (sh_s66 hT.st) rfl rfl ?_
      refine sh_w (i := (.aload_n 0)) (len := 1) (pc2 := 260) (lv2 := [(0, .ref 67), (1, .int x1)]) (st2 := [.ref 67, .ref 123]) (h2 := (sh_rep m.T m.I m.J)) rfl rfl rfl ?_
      refine sh_gI1 (len := 3) (x := m.I 66 86) (pc2 := 263) rfl rfl (sh_s66 hT.st) rfl rfl rfl ?_
      refine sh_w (i := (.aload_n 0)) (len := 1) (pc2 := 264) (lv2 := [(0, .ref 67), (1, .int x1)]) (st2 := [.ref 67, .int (m.I 66 86), .ref 123]) (h2 := (sh_rep m.T m.I m.J)) rfl rfl rfl ?_
      refine sh_gR1 (len := 3) (x := .ref 122) (pc2 := 267) rfl rfl (sh_s66 hT.st) rfl rfl ?_
      refine sh_w (i := (.iconst 2)) (len := 1) (pc2 := 268) (lv2 := [(0, .ref 67), (1, .int x1)]) (st2 := [.int 2, .ref 122, .int (m.I 66 86), .ref 123]) (h2 := (sh_rep m.T m.I m.J)) rfl rfl rfl ?_
      refine sh_ia1 (x := m.I 121 2) (pc2 := 269) rfl (sh_s121 hT.st) (by decide) (by decide) rfl rfl ?_
      refine sh_w (i := .isub) (len := 1) (pc2 := 270) (lv2 := [(0, .ref 67), (1, .int x1)]) (st2 := [.int ((m.I 66 86) - (m.I 121 2)), .ref 123]) (h2 := (sh_rep m.T m.I m.J)) rfl rfl rfl ?_
      refine sh_w (i := (.iload_n 1)) (len := 1) (pc2 := 271) (lv2 := [(0, .ref 67), (1, .int x1)]) (st2 := [.int x1, .int ((m.I 66 86) - (m.I 121 2)), .ref 123]) (h2 := (sh_rep m.T m.I m.J)) rfl rfl rfl ?_
      refine sh_w (i := .iadd) (len := 1) (pc2 := 272) (lv2 := [(0, .ref 67), (1, .int x1)]) (st2 := [.int (((m.I 66 86) - (m.I 121 2)) + x1), .ref 123]) (h2 := (sh_rep m.T m.I m.J)) rfl rfl rfl ?_
      exact kk
    obtain ⟨c, e⟩ := sh_gd e
    refine sh_Lk_lift (T := m.T) (I := m.I) (J := m.J) (s := m.s) (pc2 := 273) (lv2 := [(0, .ref 67), (1, .int x1)]) (st2 := [.int (m.I 122 (Int32.toNatClampNeg (((m.I 66 86) - (m.I 121 2)) + x1)))]) (I2 := m.I) (J2 := m.J) (fun hT v kk => ?_) ?_
    · refine sh_ba1 (x := m.I 122 (Int32.toNatClampNeg (((m.I 66 86) - (m.I 121 2)) + x1))) (pc2 := 273) rfl (sh_s122 hT.st) (Or.inr rfl) (sh_okb1 c) (sh_okb2 c) rfl rfl ?_
      exact kk
    rcases sh_ite e with ⟨c, e⟩ | ⟨c, e⟩
    · refine sh_Lk_lift (T := m.T) (I := m.I) (J := m.J) (s := m.s) (pc2 := 294) (lv2 := [(0, .ref 67), (1, .int x1)]) (st2 := []) (I2 := m.I) (J2 := m.J) (fun hT v kk => ?_) ?_
      · refine sh_j0 (c := .eq) (off := (21)) (pc2 := 294) true rfl (sh_Beqt c) rfl ?_
        exact kk
      exact sh_Lk_sub (sh_sub_c rfl (sh_sub_c rfl (sh_sub_n))) (sl_339_294 e tg)
    · refine sh_Lk_lift (T := m.T) (I := m.I) (J := m.J) (s := m.s) (pc2 := 285) (lv2 := [(0, .ref 67), (1, .int x1)]) (st2 := [.int (x1 / 64), .ref 105, .int (x1 / 64), .ref 105]) (I2 := m.I) (J2 := m.J) (fun hT v kk => ?_) ?_
      · refine sh_j0 (c := .eq) (off := (21)) (pc2 := 276) false rfl (sh_Beqf c) rfl ?_
        refine sh_w (i := (.aload_n 0)) (len := 1) (pc2 := 277) (lv2 := [(0, .ref 67), (1, .int x1)]) (st2 := [.ref 67]) (h2 := (sh_rep m.T m.I m.J)) rfl rfl rfl ?_
        refine sh_gR1 (len := 3) (x := .ref 105) (pc2 := 280) rfl rfl (sh_s66 hT.st) rfl rfl ?_
        refine sh_w (i := (.iload_n 1)) (len := 1) (pc2 := 281) (lv2 := [(0, .ref 67), (1, .int x1)]) (st2 := [.int x1, .ref 105]) (h2 := (sh_rep m.T m.I m.J)) rfl rfl rfl ?_
        refine sh_w (i := (.bipush 64)) (len := 2) (pc2 := 283) (lv2 := [(0, .ref 67), (1, .int x1)]) (st2 := [.int 64, .int x1, .ref 105]) (h2 := (sh_rep m.T m.I m.J)) rfl rfl rfl ?_
        refine sh_w (i := .idiv) (len := 1) (pc2 := 284) (lv2 := [(0, .ref 67), (1, .int x1)]) (st2 := [.int (x1 / 64), .ref 105]) (h2 := (sh_rep m.T m.I m.J)) rfl rfl rfl ?_
        refine sh_w (i := .dup2) (len := 1) (pc2 := 285) (lv2 := [(0, .ref 67), (1, .int x1)]) (st2 := [.int (x1 / 64), .ref 105, .int (x1 / 64), .ref 105]) (h2 := (sh_rep m.T m.I m.J)) rfl rfl rfl ?_
        exact kk
      obtain ⟨c, e⟩ := sh_gd e
      refine sh_Lk_lift (T := m.T) (I := m.I) (J := m.J) (s := m.s) (pc2 := 293) (lv2 := [(0, .ref 67), (1, .int x1)]) (st2 := [.long ((m.J 104 (Int32.toNatClampNeg (x1 / 64))) ||| ((1 : Int64) <<< (Int32.toInt64 (x1 - x1 / 64 * 64) &&& 63))), .int (x1 / 64), .ref 105]) (I2 := m.I) (J2 := m.J) (fun hT v kk => ?_) ?_
      · refine sh_la1 (x := m.J 104 (Int32.toNatClampNeg (x1 / 64))) (pc2 := 286) rfl (sh_s104 hT.st) (sh_okb1 c) (sh_okb2 c) rfl rfl ?_
        refine sh_w (i := (.lconst 1)) (len := 1) (pc2 := 287) (lv2 := [(0, .ref 67), (1, .int x1)]) (st2 := [.long 1, .long (m.J 104 (Int32.toNatClampNeg (x1 / 64))), .int (x1 / 64), .ref 105]) (h2 := (sh_rep m.T m.I m.J)) rfl rfl rfl ?_
        refine sh_w (i := (.iload_n 1)) (len := 1) (pc2 := 288) (lv2 := [(0, .ref 67), (1, .int x1)]) (st2 := [.int x1, .long 1, .long (m.J 104 (Int32.toNatClampNeg (x1 / 64))), .int (x1 / 64), .ref 105]) (h2 := (sh_rep m.T m.I m.J)) rfl rfl rfl ?_
        refine sh_w (i := (.bipush 64)) (len := 2) (pc2 := 290) (lv2 := [(0, .ref 67), (1, .int x1)]) (st2 := [.int 64, .int x1, .long 1, .long (m.J 104 (Int32.toNatClampNeg (x1 / 64))), .int (x1 / 64), .ref 105]) (h2 := (sh_rep m.T m.I m.J)) rfl rfl rfl ?_
        refine sh_w (i := .irem) (len := 1) (pc2 := 291) (lv2 := [(0, .ref 67), (1, .int x1)]) (st2 := [.int (x1 - x1 / 64 * 64), .long 1, .long (m.J 104 (Int32.toNatClampNeg (x1 / 64))), .int (x1 / 64), .ref 105]) (h2 := (sh_rep m.T m.I m.J)) rfl rfl rfl ?_
        refine sh_w (i := .lshl) (len := 1) (pc2 := 292) (lv2 := [(0, .ref 67), (1, .int x1)]) (st2 := [.long ((1 : Int64) <<< (Int32.toInt64 (x1 - x1 / 64 * 64) &&& 63)), .long (m.J 104 (Int32.toNatClampNeg (x1 / 64))), .int (x1 / 64), .ref 105]) (h2 := (sh_rep m.T m.I m.J)) rfl rfl rfl ?_
        refine sh_w (i := .lor) (len := 1) (pc2 := 293) (lv2 := [(0, .ref 67), (1, .int x1)]) (st2 := [.long ((m.J 104 (Int32.toNatClampNeg (x1 / 64))) ||| ((1 : Int64) <<< (Int32.toInt64 (x1 - x1 / 64 * 64) &&& 63))), .int (x1 / 64), .ref 105]) (h2 := (sh_rep m.T m.I m.J)) rfl rfl rfl ?_
        exact kk
      obtain ⟨c, e⟩ := sh_gd e
      refine sh_Lk_lift (T := m.T) (I := m.I) (J := m.J) (s := m.s) (pc2 := 294) (lv2 := [(0, .ref 67), (1, .int x1)]) (st2 := []) (I2 := m.I) (J2 := sh_u2 m.J 104 (Int32.toNatClampNeg (x1 / 64)) ((m.J 104 (Int32.toNatClampNeg (x1 / 64))) ||| ((1 : Int64) <<< (Int32.toInt64 (x1 - x1 / 64 * 64) &&& 63)))) (fun hT v kk => ?_) ?_
      · refine sh_ls1 (x := (m.J 104 (Int32.toNatClampNeg (x1 / 64))) ||| ((1 : Int64) <<< (Int32.toInt64 (x1 - x1 / 64 * 64) &&& 63))) (i := x1 / 64) (pc2 := 294) rfl (sh_s104 hT.st) (sh_okb1 c) (sh_okb2 c) rfl ?_
        exact kk
      exact sh_Lk_sub (sh_sub_c rfl (sh_sub_c rfl (sh_sub_n))) (sl_339_294 e tg)
  · refine sh_Lk_lift (T := m.T) (I := m.I) (J := m.J) (s := m.s) (pc2 := 300) (lv2 := [(0, .ref 67), (1, .int x1)]) (st2 := []) (I2 := m.I) (J2 := m.J) (fun hT v kk => ?_) ?_
    · refine sh_jc (c := .ge) (off := (48)) (pc2 := 300) true rfl (sh_Bget c) rfl ?_
      exact kk
    obtain rfl := Option.some.inj e
    obtain ⟨rfl, rfl⟩ := tg
    exact sh_Lk_ret (i := .return_) rfl rfl rfl (Nat.le_of_ble_eq_true rfl) (Nat.le_of_ble_eq_true rfl)
theorem sl_339_245 {x1 : Int32} {m m2 : sh_X} {o : Outcome} {z : (Unit × sh_X)} (e : sf_339_245 x1 m = some z) (tg : (sh_tV o m2) z) : sh_Lk 339 245 [(0, .ref 67), (1, .int x1)] [] m o m2 8 200 := by
  unfold sf_339_245 at e
  exact sh_while_lk (P := fun q => sh_Lk 339 245 [(0, .ref 67), (1, .int q.1)] [] q.2 o m2 8 200) (Q := (sh_tV o m2)) (fun q z e tg => sl_339_245s (x1 := q.1) (m := q.2) e tg) (s := (x1, m)) e tg
theorem sl_339_220s {x1 : Int32} {m m2 : sh_X} {o : Outcome} {z : ((Int32 × sh_X) ⊕ (Unit × sh_X))} (e : sf_339_220s x1 m = some z) (tg : (sh_el (fun q => sh_Lk 339 220 [(0, .ref 67), (1, .int q.1)] [] q.2 o m2 8 200) (sh_tV o m2)) z) : sh_Lk 339 220 [(0, .ref 67), (1, .int x1)] [] m o m2 8 200 := by
  unfold sf_339_220s at e
  refine sh_Lk_lift (T := m.T) (I := m.I) (J := m.J) (s := m.s) (pc2 := 227) (lv2 := [(0, .ref 67), (1, .int x1)]) (st2 := [.int (m.I 99 2), .int x1]) (I2 := m.I) (J2 := m.J) (fun hT v kk => ?_) ?_
  · refine sh_w (i := (.iload_n 1)) (len := 1) (pc2 := 221) (lv2 := [(0, .ref 67), (1, .int x1)]) (st2 := [.int x1]) (h2 := (sh_rep m.T m.I m.J)) rfl rfl rfl ?_
    refine sh_w (i := (.aload_n 0)) (len := 1) (pc2 := 222) (lv2 := [(0, .ref 67), (1, .int x1)]) (st2 := [.ref 67, .int x1]) (h2 := (sh_rep m.T m.I m.J)) rfl rfl rfl ?_
    refine sh_gR1 (len := 3) (x := .ref 100) (pc2 := 225) rfl rfl (sh_s66 hT.st) rfl rfl ?_
    refine sh_w (i := (.iconst 2)) (len := 1) (pc2 := 226) (lv2 := [(0, .ref 67), (1, .int x1)]) (st2 := [.int 2, .ref 100, .int x1]) (h2 := (sh_rep m.T m.I m.J)) rfl rfl rfl ?_
    refine sh_ia1 (x := m.I 99 2) (pc2 := 227) rfl (sh_s99 hT.st) (by decide) (by decide) rfl rfl ?_
    exact kk
  rcases sh_ite e with ⟨c, e⟩ | ⟨c, e⟩
  · refine sh_Lk_lift (T := m.T) (I := m.I) (J := m.J) (s := m.s) (pc2 := 236) (lv2 := [(0, .ref 67), (1, .int x1)]) (st2 := [.long 0, .int x1, .ref 105]) (I2 := m.I) (J2 := m.J) (fun hT v kk => ?_) ?_
    · refine sh_jc (c := .ge) (off := (16)) (pc2 := 230) false rfl (sh_Bgef c) rfl ?_
      refine sh_w (i := (.aload_n 0)) (len := 1) (pc2 := 231) (lv2 := [(0, .ref 67), (1, .int x1)]) (st2 := [.ref 67]) (h2 := (sh_rep m.T m.I m.J)) rfl rfl rfl ?_
      refine sh_gR1 (len := 3) (x := .ref 105) (pc2 := 234) rfl rfl (sh_s66 hT.st) rfl rfl ?_
      refine sh_w (i := (.iload_n 1)) (len := 1) (pc2 := 235) (lv2 := [(0, .ref 67), (1, .int x1)]) (st2 := [.int x1, .ref 105]) (h2 := (sh_rep m.T m.I m.J)) rfl rfl rfl ?_
      refine sh_w (i := (.lconst 0)) (len := 1) (pc2 := 236) (lv2 := [(0, .ref 67), (1, .int x1)]) (st2 := [.long 0, .int x1, .ref 105]) (h2 := (sh_rep m.T m.I m.J)) rfl rfl rfl ?_
      exact kk
    obtain ⟨c, e⟩ := sh_gd e
    refine sh_Lk_lift (T := m.T) (I := m.I) (J := m.J) (s := m.s) (pc2 := 220) (lv2 := [(1, .int (x1 + 1)), (0, .ref 67)]) (st2 := []) (I2 := m.I) (J2 := sh_u2 m.J 104 (Int32.toNatClampNeg x1) 0) (fun hT v kk => ?_) ?_
    · refine sh_ls1 (x := 0) (i := x1) (pc2 := 237) rfl (sh_s104 hT.st) (sh_okb1 c) (sh_okb2 c) rfl ?_
      refine sh_w (i := (.iinc 1 1)) (len := 3) (pc2 := 240) (lv2 := [(1, .int (x1 + 1)), (0, .ref 67)]) (st2 := []) (h2 := (sh_rep m.T m.I (sh_u2 m.J 104 (Int32.toNatClampNeg x1) 0))) rfl rfl rfl ?_
      refine sh_w (i := (.goto (-20))) (len := 3) (pc2 := 220) (lv2 := [(1, .int (x1 + 1)), (0, .ref 67)]) (st2 := []) (h2 := (sh_rep m.T m.I (sh_u2 m.J 104 (Int32.toNatClampNeg x1) 0))) rfl rfl rfl ?_
      exact kk
    obtain rfl := Option.some.inj e
    exact sh_Lk_sub (sh_sub_c rfl (sh_sub_c rfl (sh_sub_n))) tg
  · refine sh_Lk_lift (T := m.T) (I := m.I) (J := m.J) (s := m.s) (pc2 := 245) (lv2 := [(1, .int 0), (0, .ref 67)]) (st2 := []) (I2 := m.I) (J2 := m.J) (fun hT v kk => ?_) ?_
    · refine sh_jc (c := .ge) (off := (16)) (pc2 := 243) true rfl (sh_Bget c) rfl ?_
      refine sh_w (i := (.iconst 0)) (len := 1) (pc2 := 244) (lv2 := [(0, .ref 67), (1, .int x1)]) (st2 := [.int 0]) (h2 := (sh_rep m.T m.I m.J)) rfl rfl rfl ?_
      refine sh_w (i := (.istore_n 1)) (len := 1) (pc2 := 245) (lv2 := [(1, .int 0), (0, .ref 67)]) (st2 := []) (h2 := (sh_rep m.T m.I m.J)) rfl rfl rfl ?_
      exact kk
    obtain ⟨_, eu, rfl⟩ := sh_up_e e
    exact sh_Lk_sub (sh_sub_c rfl (sh_sub_c rfl (sh_sub_n))) (sl_339_245 eu tg)
theorem sl_339_220 {x1 : Int32} {m m2 : sh_X} {o : Outcome} {z : (Unit × sh_X)} (e : sf_339_220 x1 m = some z) (tg : (sh_tV o m2) z) : sh_Lk 339 220 [(0, .ref 67), (1, .int x1)] [] m o m2 8 200 := by
  unfold sf_339_220 at e
  exact sh_while_lk (P := fun q => sh_Lk 339 220 [(0, .ref 67), (1, .int q.1)] [] q.2 o m2 8 200) (Q := (sh_tV o m2)) (fun q z e tg => sl_339_220s (x1 := q.1) (m := q.2) e tg) (s := (x1, m)) e tg
theorem sl_339_98s {x1 : Int32} {m m2 : sh_X} {o : Outcome} {z : ((Int32 × sh_X) ⊕ (Unit × sh_X))} (e : sf_339_98s x1 m = some z) (tg : (sh_el (fun q => sh_Lk 339 98 [(0, .ref 67), (1, .int q.1)] [] q.2 o m2 8 200) (sh_tV o m2)) z) : sh_Lk 339 98 [(0, .ref 67), (1, .int x1)] [] m o m2 8 200 := by
  unfold sf_339_98s at e
  refine sh_Lk_lift (T := m.T) (I := m.I) (J := m.J) (s := m.s) (pc2 := 103) (lv2 := [(0, .ref 67), (1, .int x1)]) (st2 := [.int (m.I 66 85), .int x1]) (I2 := m.I) (J2 := m.J) (fun hT v kk => ?_) ?_
  · refine sh_w (i := (.iload_n 1)) (len := 1) (pc2 := 99) (lv2 := [(0, .ref 67), (1, .int x1)]) (st2 := [.int x1]) (h2 := (sh_rep m.T m.I m.J)) rfl rfl rfl ?_
    refine sh_w (i := (.aload_n 0)) (len := 1) (pc2 := 100) (lv2 := [(0, .ref 67), (1, .int x1)]) (st2 := [.ref 67, .int x1]) (h2 := (sh_rep m.T m.I m.J)) rfl rfl rfl ?_
    refine sh_gI1 (len := 3) (x := m.I 66 85) (pc2 := 103) rfl rfl (sh_s66 hT.st) rfl rfl rfl ?_
    exact kk
  rcases sh_ite e with ⟨c, e⟩ | ⟨c, e⟩
  · refine sh_Lk_lift (T := m.T) (I := m.I) (J := m.J) (s := m.s) (pc2 := 115) (lv2 := [(0, .ref 67), (1, .int x1)]) (st2 := [.int x1, .ref 119, .ref 123]) (I2 := m.I) (J2 := m.J) (fun hT v kk => ?_) ?_
    · refine sh_jc (c := .ge) (off := (115)) (pc2 := 106) false rfl (sh_Bgef c) rfl ?_
      refine sh_w (i := (.aload_n 0)) (len := 1) (pc2 := 107) (lv2 := [(0, .ref 67), (1, .int x1)]) (st2 := [.ref 67]) (h2 := (sh_rep m.T m.I m.J)) rfl rfl rfl ?_
      refine sh_gR1 (len := 3) (x := .ref 123) (pc2 := 110) rfl rfl (sh_s66 hT.st) rfl rfl ?_
      refine sh_w (i := (.aload_n 0)) (len := 1) (pc2 := 111) (lv2 := [(0, .ref 67), (1, .int x1)]) (st2 := [.ref 67, .ref 123]) (h2 := (sh_rep m.T m.I m.J)) rfl rfl rfl ?_
      refine sh_gR1 (len := 3) (x := .ref 119) (pc2 := 114) rfl rfl (sh_s66 hT.st) rfl rfl ?_
      refine sh_w (i := (.iload_n 1)) (len := 1) (pc2 := 115) (lv2 := [(0, .ref 67), (1, .int x1)]) (st2 := [.int x1, .ref 119, .ref 123]) (h2 := (sh_rep m.T m.I m.J)) rfl rfl rfl ?_
      exact kk
    obtain ⟨c, e⟩ := sh_gd e
    refine sh_Lk_lift (T := m.T) (I := m.I) (J := m.J) (s := m.s) (pc2 := 116) (lv2 := [(0, .ref 67), (1, .int x1)]) (st2 := [.int (m.I 118 (Int32.toNatClampNeg x1)), .ref 123]) (I2 := m.I) (J2 := m.J) (fun hT v kk => ?_) ?_
    · refine sh_ia1 (x := m.I 118 (Int32.toNatClampNeg x1)) (pc2 := 116) rfl (sh_s118 hT.st) (sh_okb1 c) (sh_okb2 c) rfl rfl ?_
      exact kk
    obtain ⟨c, e⟩ := sh_gd e
    refine sh_Lk_lift (T := m.T) (I := m.I) (J := m.J) (s := m.s) (pc2 := 127) (lv2 := [(2, .int (m.I 122 (Int32.toNatClampNeg (m.I 118 (Int32.toNatClampNeg x1))))), (0, .ref 67), (1, .int x1)]) (st2 := [.int x1, .ref 120, .ref 123]) (I2 := m.I) (J2 := m.J) (fun hT v kk => ?_) ?_
    · refine sh_ba1 (x := m.I 122 (Int32.toNatClampNeg (m.I 118 (Int32.toNatClampNeg x1)))) (pc2 := 117) rfl (sh_s122 hT.st) (Or.inr rfl) (sh_okb1 c) (sh_okb2 c) rfl rfl ?_
      refine sh_w (i := (.istore_n 2)) (len := 1) (pc2 := 118) (lv2 := [(2, .int (m.I 122 (Int32.toNatClampNeg (m.I 118 (Int32.toNatClampNeg x1))))), (0, .ref 67), (1, .int x1)]) (st2 := []) (h2 := (sh_rep m.T m.I m.J)) rfl rfl rfl ?_
      refine sh_w (i := (.aload_n 0)) (len := 1) (pc2 := 119) (lv2 := [(2, .int (m.I 122 (Int32.toNatClampNeg (m.I 118 (Int32.toNatClampNeg x1))))), (0, .ref 67), (1, .int x1)]) (st2 := [.ref 67]) (h2 := (sh_rep m.T m.I m.J)) rfl rfl rfl ?_
      refine sh_gR1 (len := 3) (x := .ref 123) (pc2 := 122) rfl rfl (sh_s66 hT.st) rfl rfl ?_
      refine sh_w (i := (.aload_n 0)) (len := 1) (pc2 := 123) (lv2 := [(2, .int (m.I 122 (Int32.toNatClampNeg (m.I 118 (Int32.toNatClampNeg x1))))), (0, .ref 67), (1, .int x1)]) (st2 := [.ref 67, .ref 123]) (h2 := (sh_rep m.T m.I m.J)) rfl rfl rfl ?_
      refine sh_gR1 (len := 3) (x := .ref 120) (pc2 := 126) rfl rfl (sh_s66 hT.st) rfl rfl ?_
      refine sh_w (i := (.iload_n 1)) (len := 1) (pc2 := 127) (lv2 := [(2, .int (m.I 122 (Int32.toNatClampNeg (m.I 118 (Int32.toNatClampNeg x1))))), (0, .ref 67), (1, .int x1)]) (st2 := [.int x1, .ref 120, .ref 123]) (h2 := (sh_rep m.T m.I m.J)) rfl rfl rfl ?_
      exact kk
    obtain ⟨c, e⟩ := sh_gd e
    refine sh_Lk_lift (T := m.T) (I := m.I) (J := m.J) (s := m.s) (pc2 := 128) (lv2 := [(2, .int (m.I 122 (Int32.toNatClampNeg (m.I 118 (Int32.toNatClampNeg x1))))), (0, .ref 67), (1, .int x1)]) (st2 := [.int (m.I 119 (Int32.toNatClampNeg x1)), .ref 123]) (I2 := m.I) (J2 := m.J) (fun hT v kk => ?_) ?_
    · refine sh_ia1 (x := m.I 119 (Int32.toNatClampNeg x1)) (pc2 := 128) rfl (sh_s119 hT.st) (sh_okb1 c) (sh_okb2 c) rfl rfl ?_
      exact kk
    obtain ⟨c, e⟩ := sh_gd e
    refine sh_Lk_lift (T := m.T) (I := m.I) (J := m.J) (s := m.s) (pc2 := 139) (lv2 := [(3, .int (m.I 122 (Int32.toNatClampNeg (m.I 119 (Int32.toNatClampNeg x1))))), (2, .int (m.I 122 (Int32.toNatClampNeg (m.I 118 (Int32.toNatClampNeg x1))))), (0, .ref 67), (1, .int x1)]) (st2 := [.int x1, .ref 121, .ref 123]) (I2 := m.I) (J2 := m.J) (fun hT v kk => ?_) ?_
    · refine sh_ba1 (x := m.I 122 (Int32.toNatClampNeg (m.I 119 (Int32.toNatClampNeg x1)))) (pc2 := 129) rfl (sh_s122 hT.st) (Or.inr rfl) (sh_okb1 c) (sh_okb2 c) rfl rfl ?_
      refine sh_w (i := (.istore_n 3)) (len := 1) (pc2 := 130) (lv2 := [(3, .int (m.I 122 (Int32.toNatClampNeg (m.I 119 (Int32.toNatClampNeg x1))))), (2, .int (m.I 122 (Int32.toNatClampNeg (m.I 118 (Int32.toNatClampNeg x1))))), (0, .ref 67), (1, .int x1)]) (st2 := []) (h2 := (sh_rep m.T m.I m.J)) rfl rfl rfl ?_
      refine sh_w (i := (.aload_n 0)) (len := 1) (pc2 := 131) (lv2 := [(3, .int (m.I 122 (Int32.toNatClampNeg (m.I 119 (Int32.toNatClampNeg x1))))), (2, .int (m.I 122 (Int32.toNatClampNeg (m.I 118 (Int32.toNatClampNeg x1))))), (0, .ref 67), (1, .int x1)]) (st2 := [.ref 67]) (h2 := (sh_rep m.T m.I m.J)) rfl rfl rfl ?_
      refine sh_gR1 (len := 3) (x := .ref 123) (pc2 := 134) rfl rfl (sh_s66 hT.st) rfl rfl ?_
      refine sh_w (i := (.aload_n 0)) (len := 1) (pc2 := 135) (lv2 := [(3, .int (m.I 122 (Int32.toNatClampNeg (m.I 119 (Int32.toNatClampNeg x1))))), (2, .int (m.I 122 (Int32.toNatClampNeg (m.I 118 (Int32.toNatClampNeg x1))))), (0, .ref 67), (1, .int x1)]) (st2 := [.ref 67, .ref 123]) (h2 := (sh_rep m.T m.I m.J)) rfl rfl rfl ?_
      refine sh_gR1 (len := 3) (x := .ref 121) (pc2 := 138) rfl rfl (sh_s66 hT.st) rfl rfl ?_
      refine sh_w (i := (.iload_n 1)) (len := 1) (pc2 := 139) (lv2 := [(3, .int (m.I 122 (Int32.toNatClampNeg (m.I 119 (Int32.toNatClampNeg x1))))), (2, .int (m.I 122 (Int32.toNatClampNeg (m.I 118 (Int32.toNatClampNeg x1))))), (0, .ref 67), (1, .int x1)]) (st2 := [.int x1, .ref 121, .ref 123]) (h2 := (sh_rep m.T m.I m.J)) rfl rfl rfl ?_
      exact kk
    obtain ⟨c, e⟩ := sh_gd e
    refine sh_Lk_lift (T := m.T) (I := m.I) (J := m.J) (s := m.s) (pc2 := 145) (lv2 := [(3, .int (m.I 122 (Int32.toNatClampNeg (m.I 119 (Int32.toNatClampNeg x1))))), (2, .int (m.I 122 (Int32.toNatClampNeg (m.I 118 (Int32.toNatClampNeg x1))))), (0, .ref 67), (1, .int x1)]) (st2 := [.int x1, .ref 118, .int (m.I 120 (Int32.toNatClampNeg x1)), .ref 123]) (I2 := m.I) (J2 := m.J) (fun hT v kk => ?_) ?_
    · refine sh_ia1 (x := m.I 120 (Int32.toNatClampNeg x1)) (pc2 := 140) rfl (sh_s120 hT.st) (sh_okb1 c) (sh_okb2 c) rfl rfl ?_
      refine sh_w (i := (.aload_n 0)) (len := 1) (pc2 := 141) (lv2 := [(3, .int (m.I 122 (Int32.toNatClampNeg (m.I 119 (Int32.toNatClampNeg x1))))), (2, .int (m.I 122 (Int32.toNatClampNeg (m.I 118 (Int32.toNatClampNeg x1))))), (0, .ref 67), (1, .int x1)]) (st2 := [.ref 67, .int (m.I 120 (Int32.toNatClampNeg x1)), .ref 123]) (h2 := (sh_rep m.T m.I m.J)) rfl rfl rfl ?_
      refine sh_gR1 (len := 3) (x := .ref 118) (pc2 := 144) rfl rfl (sh_s66 hT.st) rfl rfl ?_
      refine sh_w (i := (.iload_n 1)) (len := 1) (pc2 := 145) (lv2 := [(3, .int (m.I 122 (Int32.toNatClampNeg (m.I 119 (Int32.toNatClampNeg x1))))), (2, .int (m.I 122 (Int32.toNatClampNeg (m.I 118 (Int32.toNatClampNeg x1))))), (0, .ref 67), (1, .int x1)]) (st2 := [.int x1, .ref 118, .int (m.I 120 (Int32.toNatClampNeg x1)), .ref 123]) (h2 := (sh_rep m.T m.I m.J)) rfl rfl rfl ?_
      exact kk
    obtain ⟨c, e⟩ := sh_gd e
    refine sh_Lk_lift (T := m.T) (I := m.I) (J := m.J) (s := m.s) (pc2 := 146) (lv2 := [(3, .int (m.I 122 (Int32.toNatClampNeg (m.I 119 (Int32.toNatClampNeg x1))))), (2, .int (m.I 122 (Int32.toNatClampNeg (m.I 118 (Int32.toNatClampNeg x1))))), (0, .ref 67), (1, .int x1)]) (st2 := [.int (m.I 117 (Int32.toNatClampNeg x1)), .int (m.I 120 (Int32.toNatClampNeg x1)), .ref 123]) (I2 := m.I) (J2 := m.J) (fun hT v kk => ?_) ?_
    · refine sh_ia1 (x := m.I 117 (Int32.toNatClampNeg x1)) (pc2 := 146) rfl (sh_s117 hT.st) (sh_okb1 c) (sh_okb2 c) rfl rfl ?_
      exact kk
    rcases sh_ite e with ⟨c, e⟩ | ⟨c, e⟩
    · refine sh_Lk_lift (T := m.T) (I := m.I) (J := m.J) (s := m.s) (pc2 := 151) (lv2 := [(3, .int (m.I 122 (Int32.toNatClampNeg (m.I 119 (Int32.toNatClampNeg x1))))), (2, .int (m.I 122 (Int32.toNatClampNeg (m.I 118 (Int32.toNatClampNeg x1))))), (0, .ref 67), (1, .int x1)]) (st2 := [.int (m.I 122 (Int32.toNatClampNeg (m.I 119 (Int32.toNatClampNeg x1)))), .int (m.I 122 (Int32.toNatClampNeg (m.I 118 (Int32.toNatClampNeg x1)))), .int (m.I 120 (Int32.toNatClampNeg x1)), .ref 123]) (I2 := m.I) (J2 := m.J) (fun hT v kk => ?_) ?_
      · refine sh_j0 (c := .ne) (off := (16)) (pc2 := 149) false rfl (sh_Bnef c) rfl ?_
        refine sh_w (i := (.iload_n 2)) (len := 1) (pc2 := 150) (lv2 := [(3, .int (m.I 122 (Int32.toNatClampNeg (m.I 119 (Int32.toNatClampNeg x1))))), (2, .int (m.I 122 (Int32.toNatClampNeg (m.I 118 (Int32.toNatClampNeg x1))))), (0, .ref 67), (1, .int x1)]) (st2 := [.int (m.I 122 (Int32.toNatClampNeg (m.I 118 (Int32.toNatClampNeg x1)))), .int (m.I 120 (Int32.toNatClampNeg x1)), .ref 123]) (h2 := (sh_rep m.T m.I m.J)) rfl rfl rfl ?_
        refine sh_w (i := (.iload_n 3)) (len := 1) (pc2 := 151) (lv2 := [(3, .int (m.I 122 (Int32.toNatClampNeg (m.I 119 (Int32.toNatClampNeg x1))))), (2, .int (m.I 122 (Int32.toNatClampNeg (m.I 118 (Int32.toNatClampNeg x1))))), (0, .ref 67), (1, .int x1)]) (st2 := [.int (m.I 122 (Int32.toNatClampNeg (m.I 119 (Int32.toNatClampNeg x1)))), .int (m.I 122 (Int32.toNatClampNeg (m.I 118 (Int32.toNatClampNeg x1)))), .int (m.I 120 (Int32.toNatClampNeg x1)), .ref 123]) (h2 := (sh_rep m.T m.I m.J)) rfl rfl rfl ?_
        exact kk
      rcases sh_ite e with ⟨c, e⟩ | ⟨c, e⟩
      · refine sh_Lk_lift (T := m.T) (I := m.I) (J := m.J) (s := m.s) (pc2 := 211) (lv2 := [(3, .int (m.I 122 (Int32.toNatClampNeg (m.I 119 (Int32.toNatClampNeg x1))))), (2, .int (m.I 122 (Int32.toNatClampNeg (m.I 118 (Int32.toNatClampNeg x1))))), (0, .ref 67), (1, .int x1)]) (st2 := [.int 0, .int (m.I 120 (Int32.toNatClampNeg x1)), .ref 123]) (I2 := m.I) (J2 := m.J) (fun hT v kk => ?_) ?_
        · refine sh_jc (c := .eq) (off := (7)) (pc2 := 158) true rfl (sh_Beqt c) rfl ?_
          refine sh_w (i := (.iconst 0)) (len := 1) (pc2 := 159) (lv2 := [(3, .int (m.I 122 (Int32.toNatClampNeg (m.I 119 (Int32.toNatClampNeg x1))))), (2, .int (m.I 122 (Int32.toNatClampNeg (m.I 118 (Int32.toNatClampNeg x1))))), (0, .ref 67), (1, .int x1)]) (st2 := [.int 0, .int (m.I 120 (Int32.toNatClampNeg x1)), .ref 123]) (h2 := (sh_rep m.T m.I m.J)) rfl rfl rfl ?_
          refine sh_w (i := (.goto 52)) (len := 3) (pc2 := 211) (lv2 := [(3, .int (m.I 122 (Int32.toNatClampNeg (m.I 119 (Int32.toNatClampNeg x1))))), (2, .int (m.I 122 (Int32.toNatClampNeg (m.I 118 (Int32.toNatClampNeg x1))))), (0, .ref 67), (1, .int x1)]) (st2 := [.int 0, .int (m.I 120 (Int32.toNatClampNeg x1)), .ref 123]) (h2 := (sh_rep m.T m.I m.J)) rfl rfl rfl ?_
          exact kk
        exact sh_Lk_sub (sh_sub_c rfl (sh_sub_c rfl (sh_sub_n))) (sl_339_211 e tg)
      · refine sh_Lk_lift (T := m.T) (I := m.I) (J := m.J) (s := m.s) (pc2 := 211) (lv2 := [(3, .int (m.I 122 (Int32.toNatClampNeg (m.I 119 (Int32.toNatClampNeg x1))))), (2, .int (m.I 122 (Int32.toNatClampNeg (m.I 118 (Int32.toNatClampNeg x1))))), (0, .ref 67), (1, .int x1)]) (st2 := [.int 1, .int (m.I 120 (Int32.toNatClampNeg x1)), .ref 123]) (I2 := m.I) (J2 := m.J) (fun hT v kk => ?_) ?_
        · refine sh_jc (c := .eq) (off := (7)) (pc2 := 154) false rfl (sh_Beqf c) rfl ?_
          refine sh_w (i := (.iconst 1)) (len := 1) (pc2 := 155) (lv2 := [(3, .int (m.I 122 (Int32.toNatClampNeg (m.I 119 (Int32.toNatClampNeg x1))))), (2, .int (m.I 122 (Int32.toNatClampNeg (m.I 118 (Int32.toNatClampNeg x1))))), (0, .ref 67), (1, .int x1)]) (st2 := [.int 1, .int (m.I 120 (Int32.toNatClampNeg x1)), .ref 123]) (h2 := (sh_rep m.T m.I m.J)) rfl rfl rfl ?_
          refine sh_w (i := (.goto 56)) (len := 3) (pc2 := 211) (lv2 := [(3, .int (m.I 122 (Int32.toNatClampNeg (m.I 119 (Int32.toNatClampNeg x1))))), (2, .int (m.I 122 (Int32.toNatClampNeg (m.I 118 (Int32.toNatClampNeg x1))))), (0, .ref 67), (1, .int x1)]) (st2 := [.int 1, .int (m.I 120 (Int32.toNatClampNeg x1)), .ref 123]) (h2 := (sh_rep m.T m.I m.J)) rfl rfl rfl ?_
          exact kk
        exact sh_Lk_sub (sh_sub_c rfl (sh_sub_c rfl (sh_sub_n))) (sl_339_211 e tg)
    · refine sh_Lk_lift (T := m.T) (I := m.I) (J := m.J) (s := m.s) (pc2 := 167) (lv2 := [(3, .int (m.I 122 (Int32.toNatClampNeg (m.I 119 (Int32.toNatClampNeg x1))))), (2, .int (m.I 122 (Int32.toNatClampNeg (m.I 118 (Int32.toNatClampNeg x1))))), (0, .ref 67), (1, .int x1)]) (st2 := [.int x1, .ref 118, .int (m.I 120 (Int32.toNatClampNeg x1)), .ref 123]) (I2 := m.I) (J2 := m.J) (fun hT v kk => ?_) ?_
      · refine sh_j0 (c := .ne) (off := (16)) (pc2 := 162) true rfl (sh_Bnet c) rfl ?_
        refine sh_w (i := (.aload_n 0)) (len := 1) (pc2 := 163) (lv2 := [(3, .int (m.I 122 (Int32.toNatClampNeg (m.I 119 (Int32.toNatClampNeg x1))))), (2, .int (m.I 122 (Int32.toNatClampNeg (m.I 118 (Int32.toNatClampNeg x1))))), (0, .ref 67), (1, .int x1)]) (st2 := [.ref 67, .int (m.I 120 (Int32.toNatClampNeg x1)), .ref 123]) (h2 := (sh_rep m.T m.I m.J)) rfl rfl rfl ?_
        refine sh_gR1 (len := 3) (x := .ref 118) (pc2 := 166) rfl rfl (sh_s66 hT.st) rfl rfl ?_
        refine sh_w (i := (.iload_n 1)) (len := 1) (pc2 := 167) (lv2 := [(3, .int (m.I 122 (Int32.toNatClampNeg (m.I 119 (Int32.toNatClampNeg x1))))), (2, .int (m.I 122 (Int32.toNatClampNeg (m.I 118 (Int32.toNatClampNeg x1))))), (0, .ref 67), (1, .int x1)]) (st2 := [.int x1, .ref 118, .int (m.I 120 (Int32.toNatClampNeg x1)), .ref 123]) (h2 := (sh_rep m.T m.I m.J)) rfl rfl rfl ?_
        exact kk
      obtain ⟨c, e⟩ := sh_gd e
      refine sh_Lk_lift (T := m.T) (I := m.I) (J := m.J) (s := m.s) (pc2 := 169) (lv2 := [(3, .int (m.I 122 (Int32.toNatClampNeg (m.I 119 (Int32.toNatClampNeg x1))))), (2, .int (m.I 122 (Int32.toNatClampNeg (m.I 118 (Int32.toNatClampNeg x1))))), (0, .ref 67), (1, .int x1)]) (st2 := [.int 1, .int (m.I 117 (Int32.toNatClampNeg x1)), .int (m.I 120 (Int32.toNatClampNeg x1)), .ref 123]) (I2 := m.I) (J2 := m.J) (fun hT v kk => ?_) ?_
      · refine sh_ia1 (x := m.I 117 (Int32.toNatClampNeg x1)) (pc2 := 168) rfl (sh_s117 hT.st) (sh_okb1 c) (sh_okb2 c) rfl rfl ?_
        refine sh_w (i := (.iconst 1)) (len := 1) (pc2 := 169) (lv2 := [(3, .int (m.I 122 (Int32.toNatClampNeg (m.I 119 (Int32.toNatClampNeg x1))))), (2, .int (m.I 122 (Int32.toNatClampNeg (m.I 118 (Int32.toNatClampNeg x1))))), (0, .ref 67), (1, .int x1)]) (st2 := [.int 1, .int (m.I 117 (Int32.toNatClampNeg x1)), .int (m.I 120 (Int32.toNatClampNeg x1)), .ref 123]) (h2 := (sh_rep m.T m.I m.J)) rfl rfl rfl ?_
        exact kk
      rcases sh_ite e with ⟨c, e⟩ | ⟨c, e⟩
      · refine sh_Lk_lift (T := m.T) (I := m.I) (J := m.J) (s := m.s) (pc2 := 173) (lv2 := [(3, .int (m.I 122 (Int32.toNatClampNeg (m.I 119 (Int32.toNatClampNeg x1))))), (2, .int (m.I 122 (Int32.toNatClampNeg (m.I 118 (Int32.toNatClampNeg x1))))), (0, .ref 67), (1, .int x1)]) (st2 := [.int (m.I 122 (Int32.toNatClampNeg (m.I 118 (Int32.toNatClampNeg x1)))), .int (m.I 120 (Int32.toNatClampNeg x1)), .ref 123]) (I2 := m.I) (J2 := m.J) (fun hT v kk => ?_) ?_
        · refine sh_jc (c := .ne) (off := (19)) (pc2 := 172) false rfl (sh_Bnef c) rfl ?_
          refine sh_w (i := (.iload_n 2)) (len := 1) (pc2 := 173) (lv2 := [(3, .int (m.I 122 (Int32.toNatClampNeg (m.I 119 (Int32.toNatClampNeg x1))))), (2, .int (m.I 122 (Int32.toNatClampNeg (m.I 118 (Int32.toNatClampNeg x1))))), (0, .ref 67), (1, .int x1)]) (st2 := [.int (m.I 122 (Int32.toNatClampNeg (m.I 118 (Int32.toNatClampNeg x1)))), .int (m.I 120 (Int32.toNatClampNeg x1)), .ref 123]) (h2 := (sh_rep m.T m.I m.J)) rfl rfl rfl ?_
          exact kk
        rcases sh_ite e with ⟨c, e⟩ | ⟨c, e⟩
        · refine sh_Lk_lift (T := m.T) (I := m.I) (J := m.J) (s := m.s) (pc2 := 184) (lv2 := [(3, .int (m.I 122 (Int32.toNatClampNeg (m.I 119 (Int32.toNatClampNeg x1))))), (2, .int (m.I 122 (Int32.toNatClampNeg (m.I 118 (Int32.toNatClampNeg x1))))), (0, .ref 67), (1, .int x1)]) (st2 := [.int (m.I 120 (Int32.toNatClampNeg x1)), .ref 123]) (I2 := m.I) (J2 := m.J) (fun hT v kk => ?_) ?_
          · refine sh_j0 (c := .eq) (off := (11)) (pc2 := 184) true rfl (sh_Beqt c) rfl ?_
            exact kk
          exact sh_Lk_sub (sh_sub_c rfl (sh_sub_c rfl (sh_sub_n))) (sl_339_184 e tg)
        · refine sh_Lk_lift (T := m.T) (I := m.I) (J := m.J) (s := m.s) (pc2 := 177) (lv2 := [(3, .int (m.I 122 (Int32.toNatClampNeg (m.I 119 (Int32.toNatClampNeg x1))))), (2, .int (m.I 122 (Int32.toNatClampNeg (m.I 118 (Int32.toNatClampNeg x1))))), (0, .ref 67), (1, .int x1)]) (st2 := [.int (m.I 122 (Int32.toNatClampNeg (m.I 119 (Int32.toNatClampNeg x1)))), .int (m.I 120 (Int32.toNatClampNeg x1)), .ref 123]) (I2 := m.I) (J2 := m.J) (fun hT v kk => ?_) ?_
          · refine sh_j0 (c := .eq) (off := (11)) (pc2 := 176) false rfl (sh_Beqf c) rfl ?_
            refine sh_w (i := (.iload_n 3)) (len := 1) (pc2 := 177) (lv2 := [(3, .int (m.I 122 (Int32.toNatClampNeg (m.I 119 (Int32.toNatClampNeg x1))))), (2, .int (m.I 122 (Int32.toNatClampNeg (m.I 118 (Int32.toNatClampNeg x1))))), (0, .ref 67), (1, .int x1)]) (st2 := [.int (m.I 122 (Int32.toNatClampNeg (m.I 119 (Int32.toNatClampNeg x1)))), .int (m.I 120 (Int32.toNatClampNeg x1)), .ref 123]) (h2 := (sh_rep m.T m.I m.J)) rfl rfl rfl ?_
            exact kk
          rcases sh_ite e with ⟨c, e⟩ | ⟨c, e⟩
          · refine sh_Lk_lift (T := m.T) (I := m.I) (J := m.J) (s := m.s) (pc2 := 184) (lv2 := [(3, .int (m.I 122 (Int32.toNatClampNeg (m.I 119 (Int32.toNatClampNeg x1))))), (2, .int (m.I 122 (Int32.toNatClampNeg (m.I 118 (Int32.toNatClampNeg x1))))), (0, .ref 67), (1, .int x1)]) (st2 := [.int (m.I 120 (Int32.toNatClampNeg x1)), .ref 123]) (I2 := m.I) (J2 := m.J) (fun hT v kk => ?_) ?_
            · refine sh_j0 (c := .eq) (off := (7)) (pc2 := 184) true rfl (sh_Beqt c) rfl ?_
              exact kk
            exact sh_Lk_sub (sh_sub_c rfl (sh_sub_c rfl (sh_sub_n))) (sl_339_184 e tg)
          · refine sh_Lk_lift (T := m.T) (I := m.I) (J := m.J) (s := m.s) (pc2 := 211) (lv2 := [(3, .int (m.I 122 (Int32.toNatClampNeg (m.I 119 (Int32.toNatClampNeg x1))))), (2, .int (m.I 122 (Int32.toNatClampNeg (m.I 118 (Int32.toNatClampNeg x1))))), (0, .ref 67), (1, .int x1)]) (st2 := [.int 1, .int (m.I 120 (Int32.toNatClampNeg x1)), .ref 123]) (I2 := m.I) (J2 := m.J) (fun hT v kk => ?_) ?_
            · refine sh_j0 (c := .eq) (off := (7)) (pc2 := 180) false rfl (sh_Beqf c) rfl ?_
              refine sh_w (i := (.iconst 1)) (len := 1) (pc2 := 181) (lv2 := [(3, .int (m.I 122 (Int32.toNatClampNeg (m.I 119 (Int32.toNatClampNeg x1))))), (2, .int (m.I 122 (Int32.toNatClampNeg (m.I 118 (Int32.toNatClampNeg x1))))), (0, .ref 67), (1, .int x1)]) (st2 := [.int 1, .int (m.I 120 (Int32.toNatClampNeg x1)), .ref 123]) (h2 := (sh_rep m.T m.I m.J)) rfl rfl rfl ?_
              refine sh_w (i := (.goto 30)) (len := 3) (pc2 := 211) (lv2 := [(3, .int (m.I 122 (Int32.toNatClampNeg (m.I 119 (Int32.toNatClampNeg x1))))), (2, .int (m.I 122 (Int32.toNatClampNeg (m.I 118 (Int32.toNatClampNeg x1))))), (0, .ref 67), (1, .int x1)]) (st2 := [.int 1, .int (m.I 120 (Int32.toNatClampNeg x1)), .ref 123]) (h2 := (sh_rep m.T m.I m.J)) rfl rfl rfl ?_
              exact kk
            exact sh_Lk_sub (sh_sub_c rfl (sh_sub_c rfl (sh_sub_n))) (sl_339_211 e tg)
      · refine sh_Lk_lift (T := m.T) (I := m.I) (J := m.J) (s := m.s) (pc2 := 193) (lv2 := [(3, .int (m.I 122 (Int32.toNatClampNeg (m.I 119 (Int32.toNatClampNeg x1))))), (2, .int (m.I 122 (Int32.toNatClampNeg (m.I 118 (Int32.toNatClampNeg x1))))), (0, .ref 67), (1, .int x1)]) (st2 := [.int x1, .ref 118, .int (m.I 120 (Int32.toNatClampNeg x1)), .ref 123]) (I2 := m.I) (J2 := m.J) (fun hT v kk => ?_) ?_
        · refine sh_jc (c := .ne) (off := (19)) (pc2 := 188) true rfl (sh_Bnet c) rfl ?_
          refine sh_w (i := (.aload_n 0)) (len := 1) (pc2 := 189) (lv2 := [(3, .int (m.I 122 (Int32.toNatClampNeg (m.I 119 (Int32.toNatClampNeg x1))))), (2, .int (m.I 122 (Int32.toNatClampNeg (m.I 118 (Int32.toNatClampNeg x1))))), (0, .ref 67), (1, .int x1)]) (st2 := [.ref 67, .int (m.I 120 (Int32.toNatClampNeg x1)), .ref 123]) (h2 := (sh_rep m.T m.I m.J)) rfl rfl rfl ?_
          refine sh_gR1 (len := 3) (x := .ref 118) (pc2 := 192) rfl rfl (sh_s66 hT.st) rfl rfl ?_
          refine sh_w (i := (.iload_n 1)) (len := 1) (pc2 := 193) (lv2 := [(3, .int (m.I 122 (Int32.toNatClampNeg (m.I 119 (Int32.toNatClampNeg x1))))), (2, .int (m.I 122 (Int32.toNatClampNeg (m.I 118 (Int32.toNatClampNeg x1))))), (0, .ref 67), (1, .int x1)]) (st2 := [.int x1, .ref 118, .int (m.I 120 (Int32.toNatClampNeg x1)), .ref 123]) (h2 := (sh_rep m.T m.I m.J)) rfl rfl rfl ?_
          exact kk
        obtain ⟨c, e⟩ := sh_gd e
        refine sh_Lk_lift (T := m.T) (I := m.I) (J := m.J) (s := m.s) (pc2 := 195) (lv2 := [(3, .int (m.I 122 (Int32.toNatClampNeg (m.I 119 (Int32.toNatClampNeg x1))))), (2, .int (m.I 122 (Int32.toNatClampNeg (m.I 118 (Int32.toNatClampNeg x1))))), (0, .ref 67), (1, .int x1)]) (st2 := [.int 2, .int (m.I 117 (Int32.toNatClampNeg x1)), .int (m.I 120 (Int32.toNatClampNeg x1)), .ref 123]) (I2 := m.I) (J2 := m.J) (fun hT v kk => ?_) ?_
        · refine sh_ia1 (x := m.I 117 (Int32.toNatClampNeg x1)) (pc2 := 194) rfl (sh_s117 hT.st) (sh_okb1 c) (sh_okb2 c) rfl rfl ?_
          refine sh_w (i := (.iconst 2)) (len := 1) (pc2 := 195) (lv2 := [(3, .int (m.I 122 (Int32.toNatClampNeg (m.I 119 (Int32.toNatClampNeg x1))))), (2, .int (m.I 122 (Int32.toNatClampNeg (m.I 118 (Int32.toNatClampNeg x1))))), (0, .ref 67), (1, .int x1)]) (st2 := [.int 2, .int (m.I 117 (Int32.toNatClampNeg x1)), .int (m.I 120 (Int32.toNatClampNeg x1)), .ref 123]) (h2 := (sh_rep m.T m.I m.J)) rfl rfl rfl ?_
          exact kk
        rcases sh_ite e with ⟨c, e⟩ | ⟨c, e⟩
        · refine sh_Lk_lift (T := m.T) (I := m.I) (J := m.J) (s := m.s) (pc2 := 199) (lv2 := [(3, .int (m.I 122 (Int32.toNatClampNeg (m.I 119 (Int32.toNatClampNeg x1))))), (2, .int (m.I 122 (Int32.toNatClampNeg (m.I 118 (Int32.toNatClampNeg x1))))), (0, .ref 67), (1, .int x1)]) (st2 := [.int (m.I 122 (Int32.toNatClampNeg (m.I 118 (Int32.toNatClampNeg x1)))), .int (m.I 120 (Int32.toNatClampNeg x1)), .ref 123]) (I2 := m.I) (J2 := m.J) (fun hT v kk => ?_) ?_
          · refine sh_jc (c := .ne) (off := (15)) (pc2 := 198) false rfl (sh_Bnef c) rfl ?_
            refine sh_w (i := (.iload_n 2)) (len := 1) (pc2 := 199) (lv2 := [(3, .int (m.I 122 (Int32.toNatClampNeg (m.I 119 (Int32.toNatClampNeg x1))))), (2, .int (m.I 122 (Int32.toNatClampNeg (m.I 118 (Int32.toNatClampNeg x1))))), (0, .ref 67), (1, .int x1)]) (st2 := [.int (m.I 122 (Int32.toNatClampNeg (m.I 118 (Int32.toNatClampNeg x1)))), .int (m.I 120 (Int32.toNatClampNeg x1)), .ref 123]) (h2 := (sh_rep m.T m.I m.J)) rfl rfl rfl ?_
            exact kk
          rcases sh_ite e with ⟨c, e⟩ | ⟨c, e⟩
          · refine sh_Lk_lift (T := m.T) (I := m.I) (J := m.J) (s := m.s) (pc2 := 211) (lv2 := [(3, .int (m.I 122 (Int32.toNatClampNeg (m.I 119 (Int32.toNatClampNeg x1))))), (2, .int (m.I 122 (Int32.toNatClampNeg (m.I 118 (Int32.toNatClampNeg x1))))), (0, .ref 67), (1, .int x1)]) (st2 := [.int 1, .int (m.I 120 (Int32.toNatClampNeg x1)), .ref 123]) (I2 := m.I) (J2 := m.J) (fun hT v kk => ?_) ?_
            · refine sh_j0 (c := .ne) (off := (7)) (pc2 := 202) false rfl (sh_Bnef c) rfl ?_
              refine sh_w (i := (.iconst 1)) (len := 1) (pc2 := 203) (lv2 := [(3, .int (m.I 122 (Int32.toNatClampNeg (m.I 119 (Int32.toNatClampNeg x1))))), (2, .int (m.I 122 (Int32.toNatClampNeg (m.I 118 (Int32.toNatClampNeg x1))))), (0, .ref 67), (1, .int x1)]) (st2 := [.int 1, .int (m.I 120 (Int32.toNatClampNeg x1)), .ref 123]) (h2 := (sh_rep m.T m.I m.J)) rfl rfl rfl ?_
              refine sh_w (i := (.goto 8)) (len := 3) (pc2 := 211) (lv2 := [(3, .int (m.I 122 (Int32.toNatClampNeg (m.I 119 (Int32.toNatClampNeg x1))))), (2, .int (m.I 122 (Int32.toNatClampNeg (m.I 118 (Int32.toNatClampNeg x1))))), (0, .ref 67), (1, .int x1)]) (st2 := [.int 1, .int (m.I 120 (Int32.toNatClampNeg x1)), .ref 123]) (h2 := (sh_rep m.T m.I m.J)) rfl rfl rfl ?_
              exact kk
            exact sh_Lk_sub (sh_sub_c rfl (sh_sub_c rfl (sh_sub_n))) (sl_339_211 e tg)
          · refine sh_Lk_lift (T := m.T) (I := m.I) (J := m.J) (s := m.s) (pc2 := 211) (lv2 := [(3, .int (m.I 122 (Int32.toNatClampNeg (m.I 119 (Int32.toNatClampNeg x1))))), (2, .int (m.I 122 (Int32.toNatClampNeg (m.I 118 (Int32.toNatClampNeg x1))))), (0, .ref 67), (1, .int x1)]) (st2 := [.int 0, .int (m.I 120 (Int32.toNatClampNeg x1)), .ref 123]) (I2 := m.I) (J2 := m.J) (fun hT v kk => ?_) ?_
            · refine sh_j0 (c := .ne) (off := (7)) (pc2 := 206) true rfl (sh_Bnet c) rfl ?_
              refine sh_w (i := (.iconst 0)) (len := 1) (pc2 := 207) (lv2 := [(3, .int (m.I 122 (Int32.toNatClampNeg (m.I 119 (Int32.toNatClampNeg x1))))), (2, .int (m.I 122 (Int32.toNatClampNeg (m.I 118 (Int32.toNatClampNeg x1))))), (0, .ref 67), (1, .int x1)]) (st2 := [.int 0, .int (m.I 120 (Int32.toNatClampNeg x1)), .ref 123]) (h2 := (sh_rep m.T m.I m.J)) rfl rfl rfl ?_
              refine sh_w (i := (.goto 4)) (len := 3) (pc2 := 211) (lv2 := [(3, .int (m.I 122 (Int32.toNatClampNeg (m.I 119 (Int32.toNatClampNeg x1))))), (2, .int (m.I 122 (Int32.toNatClampNeg (m.I 118 (Int32.toNatClampNeg x1))))), (0, .ref 67), (1, .int x1)]) (st2 := [.int 0, .int (m.I 120 (Int32.toNatClampNeg x1)), .ref 123]) (h2 := (sh_rep m.T m.I m.J)) rfl rfl rfl ?_
              exact kk
            exact sh_Lk_sub (sh_sub_c rfl (sh_sub_c rfl (sh_sub_n))) (sl_339_211 e tg)
        · refine sh_Lk_lift (T := m.T) (I := m.I) (J := m.J) (s := m.s) (pc2 := 211) (lv2 := [(3, .int (m.I 122 (Int32.toNatClampNeg (m.I 119 (Int32.toNatClampNeg x1))))), (2, .int (m.I 122 (Int32.toNatClampNeg (m.I 118 (Int32.toNatClampNeg x1))))), (0, .ref 67), (1, .int x1)]) (st2 := [.int (m.I 122 (Int32.toNatClampNeg (m.I 118 (Int32.toNatClampNeg x1)))), .int (m.I 120 (Int32.toNatClampNeg x1)), .ref 123]) (I2 := m.I) (J2 := m.J) (fun hT v kk => ?_) ?_
          · refine sh_jc (c := .ne) (off := (15)) (pc2 := 210) true rfl (sh_Bnet c) rfl ?_
            refine sh_w (i := (.iload_n 2)) (len := 1) (pc2 := 211) (lv2 := [(3, .int (m.I 122 (Int32.toNatClampNeg (m.I 119 (Int32.toNatClampNeg x1))))), (2, .int (m.I 122 (Int32.toNatClampNeg (m.I 118 (Int32.toNatClampNeg x1))))), (0, .ref 67), (1, .int x1)]) (st2 := [.int (m.I 122 (Int32.toNatClampNeg (m.I 118 (Int32.toNatClampNeg x1)))), .int (m.I 120 (Int32.toNatClampNeg x1)), .ref 123]) (h2 := (sh_rep m.T m.I m.J)) rfl rfl rfl ?_
            exact kk
          exact sh_Lk_sub (sh_sub_c rfl (sh_sub_c rfl (sh_sub_n))) (sl_339_211 e tg)
  · refine sh_Lk_lift (T := m.T) (I := m.I) (J := m.J) (s := m.s) (pc2 := 220) (lv2 := [(1, .int 0), (0, .ref 67)]) (st2 := []) (I2 := m.I) (J2 := m.J) (fun hT v kk => ?_) ?_
    · refine sh_jc (c := .ge) (off := (115)) (pc2 := 218) true rfl (sh_Bget c) rfl ?_
      refine sh_w (i := (.iconst 0)) (len := 1) (pc2 := 219) (lv2 := [(0, .ref 67), (1, .int x1)]) (st2 := [.int 0]) (h2 := (sh_rep m.T m.I m.J)) rfl rfl rfl ?_
      refine sh_w (i := (.istore_n 1)) (len := 1) (pc2 := 220) (lv2 := [(1, .int 0), (0, .ref 67)]) (st2 := []) (h2 := (sh_rep m.T m.I m.J)) rfl rfl rfl ?_
      exact kk
    obtain ⟨_, eu, rfl⟩ := sh_up_e e
    exact sh_Lk_sub (sh_sub_c rfl (sh_sub_c rfl (sh_sub_n))) (sl_339_220 eu tg)
theorem sl_339_98 {x1 : Int32} {m m2 : sh_X} {o : Outcome} {z : (Unit × sh_X)} (e : sf_339_98 x1 m = some z) (tg : (sh_tV o m2) z) : sh_Lk 339 98 [(0, .ref 67), (1, .int x1)] [] m o m2 8 200 := by
  unfold sf_339_98 at e
  exact sh_while_lk (P := fun q => sh_Lk 339 98 [(0, .ref 67), (1, .int q.1)] [] q.2 o m2 8 200) (Q := (sh_tV o m2)) (fun q z e tg => sl_339_98s (x1 := q.1) (m := q.2) e tg) (s := (x1, m)) e tg
theorem sl_339_2s {x1 : Int32} {m m2 : sh_X} {o : Outcome} {z : ((Int32 × sh_X) ⊕ (Unit × sh_X))} (e : sf_339_2s x1 m = some z) (tg : (sh_el (fun q => sh_Lk 339 2 [(0, .ref 67), (1, .int q.1)] [] q.2 o m2 8 200) (sh_tV o m2)) z) : sh_Lk 339 2 [(0, .ref 67), (1, .int x1)] [] m o m2 8 200 := by
  unfold sf_339_2s at e
  refine sh_Lk_lift (T := m.T) (I := m.I) (J := m.J) (s := m.s) (pc2 := 16) (lv2 := [(0, .ref 67), (1, .int x1)]) (st2 := [.int ((m.I 121 0) + (m.I 121 1)), .int x1]) (I2 := m.I) (J2 := m.J) (fun hT v kk => ?_) ?_
  · refine sh_w (i := (.iload_n 1)) (len := 1) (pc2 := 3) (lv2 := [(0, .ref 67), (1, .int x1)]) (st2 := [.int x1]) (h2 := (sh_rep m.T m.I m.J)) rfl rfl rfl ?_
    refine sh_w (i := (.aload_n 0)) (len := 1) (pc2 := 4) (lv2 := [(0, .ref 67), (1, .int x1)]) (st2 := [.ref 67, .int x1]) (h2 := (sh_rep m.T m.I m.J)) rfl rfl rfl ?_
    refine sh_gR1 (len := 3) (x := .ref 122) (pc2 := 7) rfl rfl (sh_s66 hT.st) rfl rfl ?_
    refine sh_w (i := (.iconst 0)) (len := 1) (pc2 := 8) (lv2 := [(0, .ref 67), (1, .int x1)]) (st2 := [.int 0, .ref 122, .int x1]) (h2 := (sh_rep m.T m.I m.J)) rfl rfl rfl ?_
    refine sh_ia1 (x := m.I 121 0) (pc2 := 9) rfl (sh_s121 hT.st) (by decide) (by decide) rfl rfl ?_
    refine sh_w (i := (.aload_n 0)) (len := 1) (pc2 := 10) (lv2 := [(0, .ref 67), (1, .int x1)]) (st2 := [.ref 67, .int (m.I 121 0), .int x1]) (h2 := (sh_rep m.T m.I m.J)) rfl rfl rfl ?_
    refine sh_gR1 (len := 3) (x := .ref 122) (pc2 := 13) rfl rfl (sh_s66 hT.st) rfl rfl ?_
    refine sh_w (i := (.iconst 1)) (len := 1) (pc2 := 14) (lv2 := [(0, .ref 67), (1, .int x1)]) (st2 := [.int 1, .ref 122, .int (m.I 121 0), .int x1]) (h2 := (sh_rep m.T m.I m.J)) rfl rfl rfl ?_
    refine sh_ia1 (x := m.I 121 1) (pc2 := 15) rfl (sh_s121 hT.st) (by decide) (by decide) rfl rfl ?_
    refine sh_w (i := .iadd) (len := 1) (pc2 := 16) (lv2 := [(0, .ref 67), (1, .int x1)]) (st2 := [.int ((m.I 121 0) + (m.I 121 1)), .int x1]) (h2 := (sh_rep m.T m.I m.J)) rfl rfl rfl ?_
    exact kk
  rcases sh_ite e with ⟨c, e⟩ | ⟨c, e⟩
  · refine sh_Lk_lift (T := m.T) (I := m.I) (J := m.J) (s := m.s) (pc2 := 26) (lv2 := [(0, .ref 67), (1, .int x1)]) (st2 := [.int (m.I 121 0), .int x1]) (I2 := m.I) (J2 := m.J) (fun hT v kk => ?_) ?_
    · refine sh_jc (c := .ge) (off := (80)) (pc2 := 19) false rfl (sh_Bgef c) rfl ?_
      refine sh_w (i := (.iload_n 1)) (len := 1) (pc2 := 20) (lv2 := [(0, .ref 67), (1, .int x1)]) (st2 := [.int x1]) (h2 := (sh_rep m.T m.I m.J)) rfl rfl rfl ?_
      refine sh_w (i := (.aload_n 0)) (len := 1) (pc2 := 21) (lv2 := [(0, .ref 67), (1, .int x1)]) (st2 := [.ref 67, .int x1]) (h2 := (sh_rep m.T m.I m.J)) rfl rfl rfl ?_
      refine sh_gR1 (len := 3) (x := .ref 122) (pc2 := 24) rfl rfl (sh_s66 hT.st) rfl rfl ?_
      refine sh_w (i := (.iconst 0)) (len := 1) (pc2 := 25) (lv2 := [(0, .ref 67), (1, .int x1)]) (st2 := [.int 0, .ref 122, .int x1]) (h2 := (sh_rep m.T m.I m.J)) rfl rfl rfl ?_
      refine sh_ia1 (x := m.I 121 0) (pc2 := 26) rfl (sh_s121 hT.st) (by decide) (by decide) rfl rfl ?_
      exact kk
    rcases sh_ite e with ⟨c, e⟩ | ⟨c, e⟩
    · refine sh_Lk_lift (T := m.T) (I := m.I) (J := m.J) (s := m.s) (pc2 := 34) (lv2 := [(0, .ref 67), (1, .int x1)]) (st2 := [.int 0]) (I2 := m.I) (J2 := m.J) (fun hT v kk => ?_) ?_
      · refine sh_jc (c := .ge) (off := (7)) (pc2 := 29) false rfl (sh_Bgef c) rfl ?_
        refine sh_w (i := (.iconst 0)) (len := 1) (pc2 := 30) (lv2 := [(0, .ref 67), (1, .int x1)]) (st2 := [.int 0]) (h2 := (sh_rep m.T m.I m.J)) rfl rfl rfl ?_
        refine sh_w (i := (.goto 4)) (len := 3) (pc2 := 34) (lv2 := [(0, .ref 67), (1, .int x1)]) (st2 := [.int 0]) (h2 := (sh_rep m.T m.I m.J)) rfl rfl rfl ?_
        exact kk
      exact sh_Lk_sub (sh_sub_c rfl (sh_sub_c rfl (sh_sub_n))) (sl_339_34 e tg)
    · refine sh_Lk_lift (T := m.T) (I := m.I) (J := m.J) (s := m.s) (pc2 := 34) (lv2 := [(0, .ref 67), (1, .int x1)]) (st2 := [.int 1]) (I2 := m.I) (J2 := m.J) (fun hT v kk => ?_) ?_
      · refine sh_jc (c := .ge) (off := (7)) (pc2 := 33) true rfl (sh_Bget c) rfl ?_
        refine sh_w (i := (.iconst 1)) (len := 1) (pc2 := 34) (lv2 := [(0, .ref 67), (1, .int x1)]) (st2 := [.int 1]) (h2 := (sh_rep m.T m.I m.J)) rfl rfl rfl ?_
        exact kk
      exact sh_Lk_sub (sh_sub_c rfl (sh_sub_c rfl (sh_sub_n))) (sl_339_34 e tg)
  · refine sh_Lk_lift (T := m.T) (I := m.I) (J := m.J) (s := m.s) (pc2 := 98) (lv2 := [(1, .int 0), (0, .ref 67)]) (st2 := []) (I2 := m.I) (J2 := m.J) (fun hT v kk => ?_) ?_
    · refine sh_jc (c := .ge) (off := (80)) (pc2 := 96) true rfl (sh_Bget c) rfl ?_
      refine sh_w (i := (.iconst 0)) (len := 1) (pc2 := 97) (lv2 := [(0, .ref 67), (1, .int x1)]) (st2 := [.int 0]) (h2 := (sh_rep m.T m.I m.J)) rfl rfl rfl ?_
      refine sh_w (i := (.istore_n 1)) (len := 1) (pc2 := 98) (lv2 := [(1, .int 0), (0, .ref 67)]) (st2 := []) (h2 := (sh_rep m.T m.I m.J)) rfl rfl rfl ?_
      exact kk
    obtain ⟨_, eu, rfl⟩ := sh_up_e e
    exact sh_Lk_sub (sh_sub_c rfl (sh_sub_c rfl (sh_sub_n))) (sl_339_98 eu tg)
theorem sl_339_2 {x1 : Int32} {m m2 : sh_X} {o : Outcome} {z : (Unit × sh_X)} (e : sf_339_2 x1 m = some z) (tg : (sh_tV o m2) z) : sh_Lk 339 2 [(0, .ref 67), (1, .int x1)] [] m o m2 8 200 := by
  unfold sf_339_2 at e
  exact sh_while_lk (P := fun q => sh_Lk 339 2 [(0, .ref 67), (1, .int q.1)] [] q.2 o m2 8 200) (Q := (sh_tV o m2)) (fun q z e tg => sl_339_2s (x1 := q.1) (m := q.2) e tg) (s := (x1, m)) e tg
theorem sl_339 {m m2 : sh_X} {o : Outcome} {z : (Unit × sh_X)} (e : sf_339 m = some z) (tg : (sh_tV o m2) z) : sh_Lk 339 0 [(0, .ref 67)] [] m o m2 8 200 := by
  unfold sf_339 at e
  refine sh_Lk_lift (T := m.T) (I := m.I) (J := m.J) (s := m.s) (pc2 := 2) (lv2 := [(1, .int 0), (0, .ref 67)]) (st2 := []) (I2 := m.I) (J2 := m.J) (fun hT v kk => ?_) ?_
  · refine sh_w (i := (.iconst 0)) (len := 1) (pc2 := 1) (lv2 := [(0, .ref 67)]) (st2 := [.int 0]) (h2 := (sh_rep m.T m.I m.J)) rfl rfl rfl ?_
    refine sh_w (i := (.istore_n 1)) (len := 1) (pc2 := 2) (lv2 := [(1, .int 0), (0, .ref 67)]) (st2 := []) (h2 := (sh_rep m.T m.I m.J)) rfl rfl rfl ?_
    exact kk
  exact sh_Lk_sub (sh_sub_c rfl (sh_sub_c rfl (sh_sub_n))) (sl_339_2 e tg)
theorem sl_338_34 {m m2 : sh_X} {o : Outcome} {z : (Bool × sh_X)} (e : sf_338_34 m = some z) (tg : (sh_tZ o m2) z) : sh_Lk 338 34 [(0, .ref 67)] [] m o m2 1017 40428 := by
  unfold sf_338_34 at e
  refine sh_Lk_lift (T := m.T) (I := m.I) (J := m.J) (s := m.s) (pc2 := 40) (lv2 := [(0, .ref 67)]) (st2 := [.int 1]) (I2 := sh_u2 m.I 66 5 1) (J2 := m.J) (fun hT v kk => ?_) ?_
  · refine sh_w (i := (.aload_n 0)) (len := 1) (pc2 := 35) (lv2 := [(0, .ref 67)]) (st2 := [.ref 67]) (h2 := (sh_rep m.T m.I m.J)) rfl rfl rfl ?_
    refine sh_w (i := (.iconst 1)) (len := 1) (pc2 := 36) (lv2 := [(0, .ref 67)]) (st2 := [.int 1, .ref 67]) (h2 := (sh_rep m.T m.I m.J)) rfl rfl rfl ?_
    refine sh_pI1 (x := 1) (pc2 := 39) rfl rfl (sh_s66 hT.st) rfl rfl rfl rfl ?_
    refine sh_w (i := (.iconst 1)) (len := 1) (pc2 := 40) (lv2 := [(0, .ref 67)]) (st2 := [.int 1]) (h2 := (sh_rep m.T (sh_u2 m.I 66 5 1) m.J)) rfl rfl rfl ?_
    exact kk
  obtain rfl := Option.some.inj e
  obtain ⟨rfl, rfl⟩ := tg
  exact sh_Lk_ret (i := .ireturn) rfl rfl rfl (Nat.le_of_ble_eq_true rfl) (Nat.le_of_ble_eq_true rfl)
theorem sl_338 {m m2 : sh_X} {o : Outcome} {z : (Bool × sh_X)} (e : sf_338 m = some z) (tg : (sh_tZ o m2) z) : sh_Lk 338 0 [(0, .ref 67)] [] m o m2 1017 40428 := by
  unfold sf_338 at e
  refine sh_Lk_lift (T := m.T) (I := m.I) (J := m.J) (s := m.s) (pc2 := 9) (lv2 := [(0, .ref 67)]) (st2 := [.int (m.I 66 4)]) (I2 := sh_u2 m.I 66 0 0) (J2 := m.J) (fun hT v kk => ?_) ?_
  · refine sh_w (i := (.aload_n 0)) (len := 1) (pc2 := 1) (lv2 := [(0, .ref 67)]) (st2 := [.ref 67]) (h2 := (sh_rep m.T m.I m.J)) rfl rfl rfl ?_
    refine sh_w (i := (.iconst 0)) (len := 1) (pc2 := 2) (lv2 := [(0, .ref 67)]) (st2 := [.int 0, .ref 67]) (h2 := (sh_rep m.T m.I m.J)) rfl rfl rfl ?_
    refine sh_pI1 (x := 0) (pc2 := 5) rfl rfl (sh_s66 hT.st) rfl rfl rfl rfl ?_
    refine sh_w (i := (.aload_n 0)) (len := 1) (pc2 := 6) (lv2 := [(0, .ref 67)]) (st2 := [.ref 67]) (h2 := (sh_rep m.T (sh_u2 m.I 66 0 0) m.J)) rfl rfl rfl ?_
    refine sh_gI1 (len := 3) (x := m.I 66 4) (pc2 := 9) rfl rfl (sh_s66 hT.st) rfl rfl rfl ?_
    exact kk
  rcases sh_ite e with ⟨c, e⟩ | ⟨c, e⟩
  · refine sh_Lk_lift (T := m.T) (I := sh_u2 m.I 66 0 0) (J := m.J) (s := m.s) (pc2 := 13) (lv2 := [(0, .ref 67)]) (st2 := [.int 0]) (I2 := sh_u2 m.I 66 0 0) (J2 := m.J) (fun hT v kk => ?_) ?_
    · refine sh_j0 (c := .ne) (off := (5)) (pc2 := 12) false rfl (sh_Bnef c) rfl ?_
      refine sh_w (i := (.iconst 0)) (len := 1) (pc2 := 13) (lv2 := [(0, .ref 67)]) (st2 := [.int 0]) (h2 := (sh_rep m.T (sh_u2 m.I 66 0 0) m.J)) rfl rfl rfl ?_
      exact kk
    obtain rfl := Option.some.inj e
    obtain ⟨rfl, rfl⟩ := tg
    exact sh_Lk_ret (i := .ireturn) rfl rfl rfl (Nat.le_of_ble_eq_true rfl) (Nat.le_of_ble_eq_true rfl)
  · refine sh_Lk_lift (T := m.T) (I := sh_u2 m.I 66 0 0) (J := m.J) (s := m.s) (pc2 := 19) (lv2 := [(0, .ref 67)]) (st2 := [.int 2, .int (m.I 66 4)]) (I2 := sh_u2 m.I 66 0 0) (J2 := m.J) (fun hT v kk => ?_) ?_
    · refine sh_j0 (c := .ne) (off := (5)) (pc2 := 14) true rfl (sh_Bnet c) rfl ?_
      refine sh_w (i := (.aload_n 0)) (len := 1) (pc2 := 15) (lv2 := [(0, .ref 67)]) (st2 := [.ref 67]) (h2 := (sh_rep m.T (sh_u2 m.I 66 0 0) m.J)) rfl rfl rfl ?_
      refine sh_gI1 (len := 3) (x := m.I 66 4) (pc2 := 18) rfl rfl (sh_s66 hT.st) rfl rfl rfl ?_
      refine sh_w (i := (.iconst 2)) (len := 1) (pc2 := 19) (lv2 := [(0, .ref 67)]) (st2 := [.int 2, .int (m.I 66 4)]) (h2 := (sh_rep m.T (sh_u2 m.I 66 0 0) m.J)) rfl rfl rfl ?_
      exact kk
    rcases sh_ite e with ⟨c, e⟩ | ⟨c, e⟩
    · refine sh_Lk_lift (T := m.T) (I := sh_u2 m.I 66 0 0) (J := m.J) (s := m.s) (pc2 := 23) (lv2 := [(0, .ref 67)]) (st2 := [.ref 67]) (I2 := sh_u2 m.I 66 0 0) (J2 := m.J) (fun hT v kk => ?_) ?_
      · refine sh_jc (c := .ne) (off := (10)) (pc2 := 22) false rfl (sh_Bnef c) rfl ?_
        refine sh_w (i := (.aload_n 0)) (len := 1) (pc2 := 23) (lv2 := [(0, .ref 67)]) (st2 := [.ref 67]) (h2 := (sh_rep m.T (sh_u2 m.I 66 0 0) m.J)) rfl rfl rfl ?_
        exact kk
      obtain ⟨r1, m11, e1, e⟩ := sh_bn_e e
      refine sh_Lk_cV (r := none) (st2 := []) (pc2 := 26) (k2 := 339) (a := 66) (as := [.ref 67]) (rest := []) rfl rfl rfl (fun hT => (sh_s66 hT.st)) rfl rfl ⟨Nat.le_of_ble_eq_true rfl, Nat.le_of_ble_eq_true rfl⟩ (sl_339 e1 ⟨rfl, rfl⟩) rfl rfl (Nat.le_of_ble_eq_true rfl) (Nat.le_of_ble_eq_true rfl) ?_
      refine sh_Lk_lift (T := m11.T) (I := m11.I) (J := m11.J) (s := m11.s) (pc2 := 34) (lv2 := [(0, .ref 67)]) (st2 := []) (I2 := m11.I) (J2 := m11.J) (fun hT v kk => ?_) ?_
      · refine sh_w (i := (.goto 8)) (len := 3) (pc2 := 34) (lv2 := [(0, .ref 67)]) (st2 := []) (h2 := (sh_rep m11.T m11.I m11.J)) rfl rfl rfl ?_
        exact kk
      exact sh_Lk_sub (sh_sub_c rfl (sh_sub_n)) (sl_338_34 e tg)
    · refine sh_Lk_lift (T := m.T) (I := sh_u2 m.I 66 0 0) (J := m.J) (s := m.s) (pc2 := 30) (lv2 := [(0, .ref 67)]) (st2 := [.ref 67]) (I2 := sh_u2 m.I 66 0 0) (J2 := m.J) (fun hT v kk => ?_) ?_
      · refine sh_jc (c := .ne) (off := (10)) (pc2 := 29) true rfl (sh_Bnet c) rfl ?_
        refine sh_w (i := (.aload_n 0)) (len := 1) (pc2 := 30) (lv2 := [(0, .ref 67)]) (st2 := [.ref 67]) (h2 := (sh_rep m.T (sh_u2 m.I 66 0 0) m.J)) rfl rfl rfl ?_
        exact kk
      obtain ⟨r2, m12, e2, e⟩ := sh_bn_e e
      refine sh_Lk_cV (r := (some (.int (sh_b2 r2)))) (st2 := [.int (sh_b2 r2)]) (pc2 := 33) (k2 := 282) (a := 66) (as := [.ref 67]) (rest := []) rfl rfl rfl (fun hT => (sh_s66 hT.st)) rfl rfl ⟨Nat.le_of_ble_eq_true rfl, Nat.le_of_ble_eq_true rfl⟩ (sl_282 e2 ⟨rfl, rfl⟩) rfl rfl (Nat.le_of_ble_eq_true rfl) (Nat.le_of_ble_eq_true rfl) ?_
      refine sh_Lk_lift (T := m12.T) (I := m12.I) (J := m12.J) (s := m12.s) (pc2 := 34) (lv2 := [(1, .int (sh_b2 r2)), (0, .ref 67)]) (st2 := []) (I2 := m12.I) (J2 := m12.J) (fun hT v kk => ?_) ?_
      · refine sh_w (i := (.istore_n 1)) (len := 1) (pc2 := 34) (lv2 := [(1, .int (sh_b2 r2)), (0, .ref 67)]) (st2 := []) (h2 := (sh_rep m12.T m12.I m12.J)) rfl rfl rfl ?_
        exact kk
      exact sh_Lk_sub (sh_sub_c rfl (sh_sub_n)) (sl_338_34 e tg)
theorem sl_340_34 {x1 : Int32} {y1 : Bool} {m m2 : sh_X} {o : Outcome} {z : (Int64 × sh_X)} (e : sf_340_34 x1 y1 m = some z) (tg : (sh_tJ o m2) z) : sh_Lk 340 34 [(0, .ref 67), (1, .int x1)] [.int (sh_b2 y1), .ref 67] m o m2 8 200 := by
  unfold sf_340_34 at e
  refine sh_Lk_lift (T := m.T) (I := m.I) (J := m.J) (s := m.s) (pc2 := 41) (lv2 := [(0, .ref 67), (1, .int x1)]) (st2 := [.int (sh_b2 y1)]) (I2 := sh_u2 m.I 66 0 (sh_b2 y1)) (J2 := m.J) (fun hT v kk => ?_) ?_
  · refine sh_pI1 (x := sh_b2 y1) (pc2 := 37) rfl rfl (sh_s66 hT.st) rfl rfl rfl rfl ?_
    refine sh_w (i := (.aload_n 0)) (len := 1) (pc2 := 38) (lv2 := [(0, .ref 67), (1, .int x1)]) (st2 := [.ref 67]) (h2 := (sh_rep m.T (sh_u2 m.I 66 0 (sh_b2 y1)) m.J)) rfl rfl rfl ?_
    refine sh_gI1 (len := 3) (x := sh_b2 y1) (pc2 := 41) rfl rfl (sh_s66 hT.st) rfl rfl rfl ?_
    exact kk
  rcases sh_ite e with ⟨c, e⟩ | ⟨c, e⟩
  · refine sh_Lk_lift (T := m.T) (I := sh_u2 m.I 66 0 (sh_b2 y1)) (J := m.J) (s := m.s) (pc2 := 49) (lv2 := [(0, .ref 67), (1, .int x1)]) (st2 := [.int x1, .ref 105]) (I2 := sh_u2 m.I 66 0 (sh_b2 y1)) (J2 := m.J) (fun hT v kk => ?_) ?_
    · refine sh_j0 (c := .ne) (off := (12)) (pc2 := 44) false rfl (sh_Bnef c) rfl ?_
      refine sh_w (i := (.aload_n 0)) (len := 1) (pc2 := 45) (lv2 := [(0, .ref 67), (1, .int x1)]) (st2 := [.ref 67]) (h2 := (sh_rep m.T (sh_u2 m.I 66 0 (sh_b2 y1)) m.J)) rfl rfl rfl ?_
      refine sh_gR1 (len := 3) (x := .ref 105) (pc2 := 48) rfl rfl (sh_s66 hT.st) rfl rfl ?_
      refine sh_w (i := (.iload_n 1)) (len := 1) (pc2 := 49) (lv2 := [(0, .ref 67), (1, .int x1)]) (st2 := [.int x1, .ref 105]) (h2 := (sh_rep m.T (sh_u2 m.I 66 0 (sh_b2 y1)) m.J)) rfl rfl rfl ?_
      exact kk
    obtain ⟨c, e⟩ := sh_gd e
    refine sh_Lk_lift (T := m.T) (I := sh_u2 m.I 66 0 (sh_b2 y1)) (J := m.J) (s := m.s) (pc2 := 54) (lv2 := [(0, .ref 67), (1, .int x1)]) (st2 := [.long (m.J 104 (Int32.toNatClampNeg x1))]) (I2 := sh_u2 m.I 66 0 (sh_b2 y1)) (J2 := m.J) (fun hT v kk => ?_) ?_
    · refine sh_la1 (x := m.J 104 (Int32.toNatClampNeg x1)) (pc2 := 50) rfl (sh_s104 hT.st) (sh_okb1 c) (sh_okb2 c) rfl rfl ?_
      refine sh_w (i := (.goto 4)) (len := 3) (pc2 := 54) (lv2 := [(0, .ref 67), (1, .int x1)]) (st2 := [.long (m.J 104 (Int32.toNatClampNeg x1))]) (h2 := (sh_rep m.T (sh_u2 m.I 66 0 (sh_b2 y1)) m.J)) rfl rfl rfl ?_
      exact kk
    obtain rfl := Option.some.inj e
    obtain ⟨rfl, rfl⟩ := tg
    exact sh_Lk_ret (i := .lreturn) rfl rfl rfl (Nat.le_of_ble_eq_true rfl) (Nat.le_of_ble_eq_true rfl)
  · refine sh_Lk_lift (T := m.T) (I := sh_u2 m.I 66 0 (sh_b2 y1)) (J := m.J) (s := m.s) (pc2 := 54) (lv2 := [(0, .ref 67), (1, .int x1)]) (st2 := [.long 0]) (I2 := sh_u2 m.I 66 0 (sh_b2 y1)) (J2 := m.J) (fun hT v kk => ?_) ?_
    · refine sh_j0 (c := .ne) (off := (12)) (pc2 := 53) true rfl (sh_Bnet c) rfl ?_
      refine sh_w (i := (.lconst 0)) (len := 1) (pc2 := 54) (lv2 := [(0, .ref 67), (1, .int x1)]) (st2 := [.long 0]) (h2 := (sh_rep m.T (sh_u2 m.I 66 0 (sh_b2 y1)) m.J)) rfl rfl rfl ?_
      exact kk
    obtain rfl := Option.some.inj e
    obtain ⟨rfl, rfl⟩ := tg
    exact sh_Lk_ret (i := .lreturn) rfl rfl rfl (Nat.le_of_ble_eq_true rfl) (Nat.le_of_ble_eq_true rfl)
theorem sl_340_33 {x1 : Int32} {m m2 : sh_X} {o : Outcome} {z : (Int64 × sh_X)} (e : sf_340_33 x1 m = some z) (tg : (sh_tJ o m2) z) : sh_Lk 340 33 [(0, .ref 67), (1, .int x1)] [.ref 67] m o m2 8 200 := by
  unfold sf_340_33 at e
  refine sh_Lk_lift (T := m.T) (I := m.I) (J := m.J) (s := m.s) (pc2 := 34) (lv2 := [(0, .ref 67), (1, .int x1)]) (st2 := [.int 1, .ref 67]) (I2 := m.I) (J2 := m.J) (fun hT v kk => ?_) ?_
  · refine sh_w (i := (.iconst 1)) (len := 1) (pc2 := 34) (lv2 := [(0, .ref 67), (1, .int x1)]) (st2 := [.int 1, .ref 67]) (h2 := (sh_rep m.T m.I m.J)) rfl rfl rfl ?_
    exact kk
  exact sh_Lk_sub (sh_sub_c rfl (sh_sub_c rfl (sh_sub_n))) (sl_340_34 e tg)
theorem sl_340 {x1 : Int32} {m m2 : sh_X} {o : Outcome} {z : (Int64 × sh_X)} (e : sf_340 x1 m = some z) (tg : (sh_tJ o m2) z) : sh_Lk 340 0 [(0, .ref 67), (1, .int x1)] [] m o m2 8 200 := by
  unfold sf_340 at e
  refine sh_Lk_lift (T := m.T) (I := m.I) (J := m.J) (s := m.s) (pc2 := 5) (lv2 := [(0, .ref 67), (1, .int x1)]) (st2 := [.int (m.I 66 5), .ref 67]) (I2 := m.I) (J2 := m.J) (fun hT v kk => ?_) ?_
  · refine sh_w (i := (.aload_n 0)) (len := 1) (pc2 := 1) (lv2 := [(0, .ref 67), (1, .int x1)]) (st2 := [.ref 67]) (h2 := (sh_rep m.T m.I m.J)) rfl rfl rfl ?_
    refine sh_w (i := (.aload_n 0)) (len := 1) (pc2 := 2) (lv2 := [(0, .ref 67), (1, .int x1)]) (st2 := [.ref 67, .ref 67]) (h2 := (sh_rep m.T m.I m.J)) rfl rfl rfl ?_
    refine sh_gI1 (len := 3) (x := m.I 66 5) (pc2 := 5) rfl rfl (sh_s66 hT.st) rfl rfl rfl ?_
    exact kk
  rcases sh_ite e with ⟨c, e⟩ | ⟨c, e⟩
  · refine sh_Lk_lift (T := m.T) (I := m.I) (J := m.J) (s := m.s) (pc2 := 33) (lv2 := [(0, .ref 67), (1, .int x1)]) (st2 := [.ref 67]) (I2 := m.I) (J2 := m.J) (fun hT v kk => ?_) ?_
    · refine sh_j0 (c := .eq) (off := (28)) (pc2 := 33) true rfl (sh_Beqt c) rfl ?_
      exact kk
    exact sh_Lk_sub (sh_sub_c rfl (sh_sub_c rfl (sh_sub_n))) (sl_340_33 e tg)
  · refine sh_Lk_lift (T := m.T) (I := m.I) (J := m.J) (s := m.s) (pc2 := 12) (lv2 := [(0, .ref 67), (1, .int x1)]) (st2 := [.int (m.I 66 4), .ref 67]) (I2 := m.I) (J2 := m.J) (fun hT v kk => ?_) ?_
    · refine sh_j0 (c := .eq) (off := (28)) (pc2 := 8) false rfl (sh_Beqf c) rfl ?_
      refine sh_w (i := (.aload_n 0)) (len := 1) (pc2 := 9) (lv2 := [(0, .ref 67), (1, .int x1)]) (st2 := [.ref 67, .ref 67]) (h2 := (sh_rep m.T m.I m.J)) rfl rfl rfl ?_
      refine sh_gI1 (len := 3) (x := m.I 66 4) (pc2 := 12) rfl rfl (sh_s66 hT.st) rfl rfl rfl ?_
      exact kk
    rcases sh_ite e with ⟨c, e⟩ | ⟨c, e⟩
    · refine sh_Lk_lift (T := m.T) (I := m.I) (J := m.J) (s := m.s) (pc2 := 16) (lv2 := [(0, .ref 67), (1, .int x1)]) (st2 := [.int x1, .ref 67]) (I2 := m.I) (J2 := m.J) (fun hT v kk => ?_) ?_
      · refine sh_j0 (c := .le) (off := (21)) (pc2 := 15) false rfl (sh_Blef c) rfl ?_
        refine sh_w (i := (.iload_n 1)) (len := 1) (pc2 := 16) (lv2 := [(0, .ref 67), (1, .int x1)]) (st2 := [.int x1, .ref 67]) (h2 := (sh_rep m.T m.I m.J)) rfl rfl rfl ?_
        exact kk
      rcases sh_ite e with ⟨c, e⟩ | ⟨c, e⟩
      · refine sh_Lk_lift (T := m.T) (I := m.I) (J := m.J) (s := m.s) (pc2 := 33) (lv2 := [(0, .ref 67), (1, .int x1)]) (st2 := [.ref 67]) (I2 := m.I) (J2 := m.J) (fun hT v kk => ?_) ?_
        · refine sh_j0 (c := .lt) (off := (17)) (pc2 := 33) true rfl (sh_Bltt c) rfl ?_
          exact kk
        exact sh_Lk_sub (sh_sub_c rfl (sh_sub_c rfl (sh_sub_n))) (sl_340_33 e tg)
      · refine sh_Lk_lift (T := m.T) (I := m.I) (J := m.J) (s := m.s) (pc2 := 26) (lv2 := [(0, .ref 67), (1, .int x1)]) (st2 := [.int (m.I 99 2), .int x1, .ref 67]) (I2 := m.I) (J2 := m.J) (fun hT v kk => ?_) ?_
        · refine sh_j0 (c := .lt) (off := (17)) (pc2 := 19) false rfl (sh_Bltf c) rfl ?_
          refine sh_w (i := (.iload_n 1)) (len := 1) (pc2 := 20) (lv2 := [(0, .ref 67), (1, .int x1)]) (st2 := [.int x1, .ref 67]) (h2 := (sh_rep m.T m.I m.J)) rfl rfl rfl ?_
          refine sh_w (i := (.aload_n 0)) (len := 1) (pc2 := 21) (lv2 := [(0, .ref 67), (1, .int x1)]) (st2 := [.ref 67, .int x1, .ref 67]) (h2 := (sh_rep m.T m.I m.J)) rfl rfl rfl ?_
          refine sh_gR1 (len := 3) (x := .ref 100) (pc2 := 24) rfl rfl (sh_s66 hT.st) rfl rfl ?_
          refine sh_w (i := (.iconst 2)) (len := 1) (pc2 := 25) (lv2 := [(0, .ref 67), (1, .int x1)]) (st2 := [.int 2, .ref 100, .int x1, .ref 67]) (h2 := (sh_rep m.T m.I m.J)) rfl rfl rfl ?_
          refine sh_ia1 (x := m.I 99 2) (pc2 := 26) rfl (sh_s99 hT.st) (by decide) (by decide) rfl rfl ?_
          exact kk
        rcases sh_ite e with ⟨c, e⟩ | ⟨c, e⟩
        · refine sh_Lk_lift (T := m.T) (I := m.I) (J := m.J) (s := m.s) (pc2 := 34) (lv2 := [(0, .ref 67), (1, .int x1)]) (st2 := [.int 0, .ref 67]) (I2 := m.I) (J2 := m.J) (fun hT v kk => ?_) ?_
          · refine sh_jc (c := .ge) (off := (7)) (pc2 := 29) false rfl (sh_Bgef c) rfl ?_
            refine sh_w (i := (.iconst 0)) (len := 1) (pc2 := 30) (lv2 := [(0, .ref 67), (1, .int x1)]) (st2 := [.int 0, .ref 67]) (h2 := (sh_rep m.T m.I m.J)) rfl rfl rfl ?_
            refine sh_w (i := (.goto 4)) (len := 3) (pc2 := 34) (lv2 := [(0, .ref 67), (1, .int x1)]) (st2 := [.int 0, .ref 67]) (h2 := (sh_rep m.T m.I m.J)) rfl rfl rfl ?_
            exact kk
          exact sh_Lk_sub (sh_sub_c rfl (sh_sub_c rfl (sh_sub_n))) (sl_340_34 e tg)
        · refine sh_Lk_lift (T := m.T) (I := m.I) (J := m.J) (s := m.s) (pc2 := 33) (lv2 := [(0, .ref 67), (1, .int x1)]) (st2 := [.ref 67]) (I2 := m.I) (J2 := m.J) (fun hT v kk => ?_) ?_
          · refine sh_jc (c := .ge) (off := (7)) (pc2 := 33) true rfl (sh_Bget c) rfl ?_
            exact kk
          exact sh_Lk_sub (sh_sub_c rfl (sh_sub_c rfl (sh_sub_n))) (sl_340_33 e tg)
    · refine sh_Lk_lift (T := m.T) (I := m.I) (J := m.J) (s := m.s) (pc2 := 33) (lv2 := [(0, .ref 67), (1, .int x1)]) (st2 := [.ref 67]) (I2 := m.I) (J2 := m.J) (fun hT v kk => ?_) ?_
      · refine sh_j0 (c := .le) (off := (21)) (pc2 := 33) true rfl (sh_Blet c) rfl ?_
        exact kk
      exact sh_Lk_sub (sh_sub_c rfl (sh_sub_c rfl (sh_sub_n))) (sl_340_33 e tg)
