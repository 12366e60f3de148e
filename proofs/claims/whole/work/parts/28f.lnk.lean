/-! LINKS, printed by gen27.py -/
theorem sl_16_74 {x1 : Int32} {m m2 : sh_X} {o : Outcome} {z : (Int32 × sh_X)} (e : sf_16_74 x1 m = some z) (tg : (sh_tI o m2) z) : sh_Lk 16 74 [(0, .ref 1), (1, .int x1)] [] m o m2 2016 80375 := by
  unfold sf_16_74 at e
  refine sh_Lk_lift (T := m.T) (I := m.I) (J := m.J) (s := m.s) (pc2 := 80) (lv2 := [(0, .ref 1), (1, .int x1)]) (st2 := [.int x1]) (I2 := sh_u2 m.I 0 10 0) (J2 := m.J) (fun hT v kk => ?_) ?_
  · refine sh_w (i := (.aload_n 0)) (len := 1) (pc2 := 75) (lv2 := [(0, .ref 1), (1, .int x1)]) (st2 := [.ref 1]) (h2 := (sh_rep m.T m.I m.J)) rfl rfl rfl ?_
    refine sh_w (i := (.iconst 0)) (len := 1) (pc2 := 76) (lv2 := [(0, .ref 1), (1, .int x1)]) (st2 := [.int 0, .ref 1]) (h2 := (sh_rep m.T m.I m.J)) rfl rfl rfl ?_
    refine sh_pI1 (x := 0) (pc2 := 79) rfl rfl (sh_s0 hT.st) rfl rfl rfl rfl ?_
    refine sh_w (i := (.iload_n 1)) (len := 1) (pc2 := 80) (lv2 := [(0, .ref 1), (1, .int x1)]) (st2 := [.int x1]) (h2 := (sh_rep m.T (sh_u2 m.I 0 10 0) m.J)) rfl rfl rfl ?_
    exact kk
  obtain rfl := Option.some.inj e
  obtain ⟨rfl, rfl⟩ := tg
  exact sh_Lk_ret (i := .ireturn) rfl rfl rfl (Nat.le_of_ble_eq_true rfl) (Nat.le_of_ble_eq_true rfl)
theorem sl_16 {m m2 : sh_X} {o : Outcome} {z : (Int32 × sh_X)} (e : sf_16 m = some z) (tg : (sh_tI o m2) z) : sh_Lk 16 0 [(0, .ref 1)] [] m o m2 2016 80375 := by
  unfold sf_16 at e
  refine sh_Lk_lift (T := m.T) (I := m.I) (J := m.J) (s := m.s) (pc2 := 6) (lv2 := [(0, .ref 1)]) (st2 := [.int 24, .int (m.I 0 11)]) (I2 := m.I) (J2 := m.J) (fun hT v kk => ?_) ?_
  · refine sh_w (i := (.aload_n 0)) (len := 1) (pc2 := 1) (lv2 := [(0, .ref 1)]) (st2 := [.ref 1]) (h2 := (sh_rep m.T m.I m.J)) rfl rfl rfl ?_
    refine sh_gI1 (len := 3) (x := m.I 0 11) (pc2 := 4) rfl rfl (sh_s0 hT.st) rfl rfl rfl ?_
    refine sh_w (i := (.bipush 24)) (len := 2) (pc2 := 6) (lv2 := [(0, .ref 1)]) (st2 := [.int 24, .int (m.I 0 11)]) (h2 := (sh_rep m.T m.I m.J)) rfl rfl rfl ?_
    exact kk
  rcases sh_ite e with ⟨c, e⟩ | ⟨c, e⟩
  · refine sh_Lk_lift (T := m.T) (I := m.I) (J := m.J) (s := m.s) (pc2 := 12) (lv2 := [(0, .ref 1)]) (st2 := [.ref 1]) (I2 := m.I) (J2 := m.J) (fun hT v kk => ?_) ?_
    · refine sh_jc (c := .lt) (off := (5)) (pc2 := 11) true rfl (sh_Bltt c) rfl ?_
      refine sh_w (i := (.aload_n 0)) (len := 1) (pc2 := 12) (lv2 := [(0, .ref 1)]) (st2 := [.ref 1]) (h2 := (sh_rep m.T m.I m.J)) rfl rfl rfl ?_
      exact kk
    obtain ⟨r1, m11, e1, e⟩ := sh_bn_e e
    refine sh_Lk_cV (r := none) (st2 := []) (pc2 := 15) (k2 := 17) (a := 0) (as := [.ref 1]) (rest := []) rfl rfl rfl (fun hT => (sh_s0 hT.st)) rfl rfl ⟨Nat.le_of_ble_eq_true rfl, Nat.le_of_ble_eq_true rfl⟩ (sl_17 e1 ⟨rfl, rfl⟩) rfl rfl (Nat.le_of_ble_eq_true rfl) (Nat.le_of_ble_eq_true rfl) ?_
    refine sh_Lk_lift (T := m11.T) (I := m11.I) (J := m11.J) (s := m11.s) (pc2 := 29) (lv2 := [(1, .int 0), (0, .ref 1)]) (st2 := [.int (m11.I 0 10), .ref 2, .ref 3]) (I2 := m11.I) (J2 := m11.J) (fun hT v kk => ?_) ?_
    · refine sh_w (i := (.iconst 0)) (len := 1) (pc2 := 16) (lv2 := [(0, .ref 1)]) (st2 := [.int 0]) (h2 := (sh_rep m11.T m11.I m11.J)) rfl rfl rfl ?_
      refine sh_w (i := (.istore_n 1)) (len := 1) (pc2 := 17) (lv2 := [(1, .int 0), (0, .ref 1)]) (st2 := []) (h2 := (sh_rep m11.T m11.I m11.J)) rfl rfl rfl ?_
      refine sh_w (i := (.aload_n 0)) (len := 1) (pc2 := 18) (lv2 := [(1, .int 0), (0, .ref 1)]) (st2 := [.ref 1]) (h2 := (sh_rep m11.T m11.I m11.J)) rfl rfl rfl ?_
      refine sh_gR1 (len := 3) (x := .ref 3) (pc2 := 21) rfl rfl (sh_s0 hT.st) rfl rfl ?_
      refine sh_w (i := (.aload_n 0)) (len := 1) (pc2 := 22) (lv2 := [(1, .int 0), (0, .ref 1)]) (st2 := [.ref 1, .ref 3]) (h2 := (sh_rep m11.T m11.I m11.J)) rfl rfl rfl ?_
      refine sh_gR1 (len := 3) (x := .ref 2) (pc2 := 25) rfl rfl (sh_s0 hT.st) rfl rfl ?_
      refine sh_w (i := (.aload_n 0)) (len := 1) (pc2 := 26) (lv2 := [(1, .int 0), (0, .ref 1)]) (st2 := [.ref 1, .ref 2, .ref 3]) (h2 := (sh_rep m11.T m11.I m11.J)) rfl rfl rfl ?_
      refine sh_gI1 (len := 3) (x := m11.I 0 10) (pc2 := 29) rfl rfl (sh_s0 hT.st) rfl rfl rfl ?_
      exact kk
    rcases sh_bh_e e with ⟨m12, e2, e⟩ | ⟨r2, m12, e2, e⟩
    · refine sh_Lk_tCV (hpc := 54) (k2 := 24) (a := 2) (as := [.ref 3, .ref 2, .int (m11.I 0 10)]) (rest := []) rfl rfl rfl (fun hT => hT.t2) rfl rfl ⟨Nat.le_of_ble_eq_true rfl, Nat.le_of_ble_eq_true rfl⟩ (sl_24 e2 ⟨rfl, rfl⟩) rfl rfl rfl (Nat.le_of_ble_eq_true rfl) (Nat.le_of_ble_eq_true rfl) (fun xe => ?_)
      refine sh_Lk_lift (T := m12.T) (I := m12.I) (J := m12.J) (s := m12.s) (pc2 := 74) (lv2 := [(1, .int (m12.I 2 9)), (2, .ref xe), (0, .ref 1)]) (st2 := []) (I2 := sh_u2 m12.I 0 12 (m12.I 2 10)) (J2 := m12.J) (fun hT v kk => ?_) ?_
      · refine sh_w (i := (.astore_n 2)) (len := 1) (pc2 := 55) (lv2 := [(2, .ref xe), (1, .int 0), (0, .ref 1)]) (st2 := []) (h2 := (sh_rep m12.T m12.I m12.J)) rfl rfl rfl ?_
        refine sh_w (i := (.aload_n 0)) (len := 1) (pc2 := 56) (lv2 := [(2, .ref xe), (1, .int 0), (0, .ref 1)]) (st2 := [.ref 1]) (h2 := (sh_rep m12.T m12.I m12.J)) rfl rfl rfl ?_
        refine sh_gR1 (len := 3) (x := .ref 3) (pc2 := 59) rfl rfl (sh_s0 hT.st) rfl rfl ?_
        refine sh_gI1 (len := 3) (x := m12.I 2 9) (pc2 := 62) rfl rfl hT.t2 rfl rfl rfl ?_
        refine sh_w (i := (.istore_n 1)) (len := 1) (pc2 := 63) (lv2 := [(1, .int (m12.I 2 9)), (2, .ref xe), (0, .ref 1)]) (st2 := []) (h2 := (sh_rep m12.T m12.I m12.J)) rfl rfl rfl ?_
        refine sh_w (i := (.aload_n 0)) (len := 1) (pc2 := 64) (lv2 := [(1, .int (m12.I 2 9)), (2, .ref xe), (0, .ref 1)]) (st2 := [.ref 1]) (h2 := (sh_rep m12.T m12.I m12.J)) rfl rfl rfl ?_
        refine sh_w (i := (.aload_n 0)) (len := 1) (pc2 := 65) (lv2 := [(1, .int (m12.I 2 9)), (2, .ref xe), (0, .ref 1)]) (st2 := [.ref 1, .ref 1]) (h2 := (sh_rep m12.T m12.I m12.J)) rfl rfl rfl ?_
        refine sh_gR1 (len := 3) (x := .ref 3) (pc2 := 68) rfl rfl (sh_s0 hT.st) rfl rfl ?_
        refine sh_gI1 (len := 3) (x := m12.I 2 10) (pc2 := 71) rfl rfl hT.t2 rfl rfl rfl ?_
        refine sh_pI1 (x := m12.I 2 10) (pc2 := 74) rfl rfl (sh_s0 hT.st) rfl rfl rfl rfl ?_
        exact kk
      exact sh_Lk_sub (sh_sub_c rfl (sh_sub_c rfl (sh_sub_n))) (sl_16_74 e tg)
    refine sh_Lk_cV (r := none) (st2 := []) (pc2 := 32) (k2 := 24) (a := 2) (as := [.ref 3, .ref 2, .int (m11.I 0 10)]) (rest := []) rfl rfl rfl (fun hT => hT.t2) rfl rfl ⟨Nat.le_of_ble_eq_true rfl, Nat.le_of_ble_eq_true rfl⟩ (sl_24 e2 ⟨rfl, rfl⟩) rfl rfl (Nat.le_of_ble_eq_true rfl) (Nat.le_of_ble_eq_true rfl) ?_
    refine sh_Lk_lift (T := m12.T) (I := m12.I) (J := m12.J) (s := m12.s) (pc2 := 36) (lv2 := [(1, .int 0), (0, .ref 1)]) (st2 := [.ref 40]) (I2 := m12.I) (J2 := m12.J) (fun hT v kk => ?_) ?_
    · refine sh_w (i := (.aload_n 0)) (len := 1) (pc2 := 33) (lv2 := [(1, .int 0), (0, .ref 1)]) (st2 := [.ref 1]) (h2 := (sh_rep m12.T m12.I m12.J)) rfl rfl rfl ?_
      refine sh_gR1 (len := 3) (x := .ref 40) (pc2 := 36) rfl rfl (sh_s0 hT.st) rfl rfl ?_
      exact kk
    rcases sh_bh_e e with ⟨m13, e3, e⟩ | ⟨r3, m13, e3, e⟩
    · refine sh_Lk_tCV (hpc := 54) (k2 := 43) (a := 39) (as := [.ref 40]) (rest := []) rfl rfl rfl (fun hT => (sh_s39 hT.st)) rfl rfl ⟨Nat.le_of_ble_eq_true rfl, Nat.le_of_ble_eq_true rfl⟩ (sl_43 e3 ⟨rfl, rfl⟩) rfl rfl rfl (Nat.le_of_ble_eq_true rfl) (Nat.le_of_ble_eq_true rfl) (fun xe => ?_)
      refine sh_Lk_lift (T := m13.T) (I := m13.I) (J := m13.J) (s := m13.s) (pc2 := 74) (lv2 := [(1, .int (m13.I 2 9)), (2, .ref xe), (0, .ref 1)]) (st2 := []) (I2 := sh_u2 m13.I 0 12 (m13.I 2 10)) (J2 := m13.J) (fun hT v kk => ?_) ?_
      · refine sh_w (i := (.astore_n 2)) (len := 1) (pc2 := 55) (lv2 := [(2, .ref xe), (1, .int 0), (0, .ref 1)]) (st2 := []) (h2 := (sh_rep m13.T m13.I m13.J)) rfl rfl rfl ?_
        refine sh_w (i := (.aload_n 0)) (len := 1) (pc2 := 56) (lv2 := [(2, .ref xe), (1, .int 0), (0, .ref 1)]) (st2 := [.ref 1]) (h2 := (sh_rep m13.T m13.I m13.J)) rfl rfl rfl ?_
        refine sh_gR1 (len := 3) (x := .ref 3) (pc2 := 59) rfl rfl (sh_s0 hT.st) rfl rfl ?_
        refine sh_gI1 (len := 3) (x := m13.I 2 9) (pc2 := 62) rfl rfl hT.t2 rfl rfl rfl ?_
        refine sh_w (i := (.istore_n 1)) (len := 1) (pc2 := 63) (lv2 := [(1, .int (m13.I 2 9)), (2, .ref xe), (0, .ref 1)]) (st2 := []) (h2 := (sh_rep m13.T m13.I m13.J)) rfl rfl rfl ?_
        refine sh_w (i := (.aload_n 0)) (len := 1) (pc2 := 64) (lv2 := [(1, .int (m13.I 2 9)), (2, .ref xe), (0, .ref 1)]) (st2 := [.ref 1]) (h2 := (sh_rep m13.T m13.I m13.J)) rfl rfl rfl ?_
        refine sh_w (i := (.aload_n 0)) (len := 1) (pc2 := 65) (lv2 := [(1, .int (m13.I 2 9)), (2, .ref xe), (0, .ref 1)]) (st2 := [.ref 1, .ref 1]) (h2 := (sh_rep m13.T m13.I m13.J)) rfl rfl rfl ?_
        refine sh_gR1 (len := 3) (x := .ref 3) (pc2 := 68) rfl rfl (sh_s0 hT.st) rfl rfl ?_
        refine sh_gI1 (len := 3) (x := m13.I 2 10) (pc2 := 71) rfl rfl hT.t2 rfl rfl rfl ?_
        refine sh_pI1 (x := m13.I 2 10) (pc2 := 74) rfl rfl (sh_s0 hT.st) rfl rfl rfl rfl ?_
        exact kk
      exact sh_Lk_sub (sh_sub_c rfl (sh_sub_c rfl (sh_sub_n))) (sl_16_74 e tg)
    refine sh_Lk_cV (r := none) (st2 := []) (pc2 := 39) (k2 := 43) (a := 39) (as := [.ref 40]) (rest := []) rfl rfl rfl (fun hT => (sh_s39 hT.st)) rfl rfl ⟨Nat.le_of_ble_eq_true rfl, Nat.le_of_ble_eq_true rfl⟩ (sl_43 e3 ⟨rfl, rfl⟩) rfl rfl (Nat.le_of_ble_eq_true rfl) (Nat.le_of_ble_eq_true rfl) ?_
    refine sh_Lk_lift (T := m13.T) (I := m13.I) (J := m13.J) (s := m13.s) (pc2 := 43) (lv2 := [(1, .int 0), (0, .ref 1)]) (st2 := [.ref 42]) (I2 := m13.I) (J2 := m13.J) (fun hT v kk => ?_) ?_
    · refine sh_w (i := (.aload_n 0)) (len := 1) (pc2 := 40) (lv2 := [(1, .int 0), (0, .ref 1)]) (st2 := [.ref 1]) (h2 := (sh_rep m13.T m13.I m13.J)) rfl rfl rfl ?_
      refine sh_gR1 (len := 3) (x := .ref 42) (pc2 := 43) rfl rfl (sh_s0 hT.st) rfl rfl ?_
      exact kk
    rcases sh_bh_e e with ⟨m14, e4, e⟩ | ⟨r4, m14, e4, e⟩
    · refine sh_Lk_tCV (hpc := 54) (k2 := 78) (a := 41) (as := [.ref 42]) (rest := []) rfl rfl rfl (fun hT => (sh_s41 hT.st)) rfl rfl ⟨Nat.le_of_ble_eq_true rfl, Nat.le_of_ble_eq_true rfl⟩ (sl_78 e4 ⟨rfl, rfl⟩) rfl rfl rfl (Nat.le_of_ble_eq_true rfl) (Nat.le_of_ble_eq_true rfl) (fun xe => ?_)
      refine sh_Lk_lift (T := m14.T) (I := m14.I) (J := m14.J) (s := m14.s) (pc2 := 74) (lv2 := [(1, .int (m14.I 2 9)), (2, .ref xe), (0, .ref 1)]) (st2 := []) (I2 := sh_u2 m14.I 0 12 (m14.I 2 10)) (J2 := m14.J) (fun hT v kk => ?_) ?_
      · refine sh_w (i := (.astore_n 2)) (len := 1) (pc2 := 55) (lv2 := [(2, .ref xe), (1, .int 0), (0, .ref 1)]) (st2 := []) (h2 := (sh_rep m14.T m14.I m14.J)) rfl rfl rfl ?_
        refine sh_w (i := (.aload_n 0)) (len := 1) (pc2 := 56) (lv2 := [(2, .ref xe), (1, .int 0), (0, .ref 1)]) (st2 := [.ref 1]) (h2 := (sh_rep m14.T m14.I m14.J)) rfl rfl rfl ?_
        refine sh_gR1 (len := 3) (x := .ref 3) (pc2 := 59) rfl rfl (sh_s0 hT.st) rfl rfl ?_
        refine sh_gI1 (len := 3) (x := m14.I 2 9) (pc2 := 62) rfl rfl hT.t2 rfl rfl rfl ?_
        refine sh_w (i := (.istore_n 1)) (len := 1) (pc2 := 63) (lv2 := [(1, .int (m14.I 2 9)), (2, .ref xe), (0, .ref 1)]) (st2 := []) (h2 := (sh_rep m14.T m14.I m14.J)) rfl rfl rfl ?_
        refine sh_w (i := (.aload_n 0)) (len := 1) (pc2 := 64) (lv2 := [(1, .int (m14.I 2 9)), (2, .ref xe), (0, .ref 1)]) (st2 := [.ref 1]) (h2 := (sh_rep m14.T m14.I m14.J)) rfl rfl rfl ?_
        refine sh_w (i := (.aload_n 0)) (len := 1) (pc2 := 65) (lv2 := [(1, .int (m14.I 2 9)), (2, .ref xe), (0, .ref 1)]) (st2 := [.ref 1, .ref 1]) (h2 := (sh_rep m14.T m14.I m14.J)) rfl rfl rfl ?_
        refine sh_gR1 (len := 3) (x := .ref 3) (pc2 := 68) rfl rfl (sh_s0 hT.st) rfl rfl ?_
        refine sh_gI1 (len := 3) (x := m14.I 2 10) (pc2 := 71) rfl rfl hT.t2 rfl rfl rfl ?_
        refine sh_pI1 (x := m14.I 2 10) (pc2 := 74) rfl rfl (sh_s0 hT.st) rfl rfl rfl rfl ?_
        exact kk
      exact sh_Lk_sub (sh_sub_c rfl (sh_sub_c rfl (sh_sub_n))) (sl_16_74 e tg)
    refine sh_Lk_cV (r := none) (st2 := []) (pc2 := 46) (k2 := 78) (a := 41) (as := [.ref 42]) (rest := []) rfl rfl rfl (fun hT => (sh_s41 hT.st)) rfl rfl ⟨Nat.le_of_ble_eq_true rfl, Nat.le_of_ble_eq_true rfl⟩ (sl_78 e4 ⟨rfl, rfl⟩) rfl rfl (Nat.le_of_ble_eq_true rfl) (Nat.le_of_ble_eq_true rfl) ?_
    refine sh_Lk_lift (T := m14.T) (I := m14.I) (J := m14.J) (s := m14.s) (pc2 := 74) (lv2 := [(1, .int 0), (0, .ref 1)]) (st2 := []) (I2 := sh_u2 m14.I 0 13 1) (J2 := m14.J) (fun hT v kk => ?_) ?_
    · refine sh_w (i := (.aload_n 0)) (len := 1) (pc2 := 47) (lv2 := [(1, .int 0), (0, .ref 1)]) (st2 := [.ref 1]) (h2 := (sh_rep m14.T m14.I m14.J)) rfl rfl rfl ?_
      refine sh_w (i := (.iconst 1)) (len := 1) (pc2 := 48) (lv2 := [(1, .int 0), (0, .ref 1)]) (st2 := [.int 1, .ref 1]) (h2 := (sh_rep m14.T m14.I m14.J)) rfl rfl rfl ?_
      refine sh_pI1 (x := 1) (pc2 := 51) rfl rfl (sh_s0 hT.st) rfl rfl rfl rfl ?_
      refine sh_w (i := (.goto 23)) (len := 3) (pc2 := 74) (lv2 := [(1, .int 0), (0, .ref 1)]) (st2 := []) (h2 := (sh_rep m14.T (sh_u2 m14.I 0 13 1) m14.J)) rfl rfl rfl ?_
      exact kk
    exact sh_Lk_sub (sh_sub_c rfl (sh_sub_c rfl (sh_sub_n))) (sl_16_74 e tg)
  · refine sh_Lk_lift (T := m.T) (I := m.I) (J := m.J) (s := m.s) (pc2 := 10) (lv2 := [(0, .ref 1)]) (st2 := [.int (-1)]) (I2 := m.I) (J2 := m.J) (fun hT v kk => ?_) ?_
    · refine sh_jc (c := .lt) (off := (5)) (pc2 := 9) false rfl (sh_Bltf c) rfl ?_
      refine sh_w (i := (.iconst (-1))) (len := 1) (pc2 := 10) (lv2 := [(0, .ref 1)]) (st2 := [.int (-1)]) (h2 := (sh_rep m.T m.I m.J)) rfl rfl rfl ?_
      exact kk
    obtain rfl := Option.some.inj e
    obtain ⟨rfl, rfl⟩ := tg
    exact sh_Lk_ret (i := .ireturn) rfl rfl rfl (Nat.le_of_ble_eq_true rfl) (Nat.le_of_ble_eq_true rfl)
theorem sl_202 {x1 : Int32} {m m2 : sh_X} {o : Outcome} {z : Int32} (e : sf_202 x1 m = some z) (tg : (sh_tIc m o m2) z) : sh_Lk 202 0 [(0, .ref 59), (1, .int x1)] [] m o m2 8 200 := by
  unfold sf_202 at e
  refine sh_Lk_lift (T := m.T) (I := m.I) (J := m.J) (s := m.s) (pc2 := 1) (lv2 := [(0, .ref 59), (1, .int x1)]) (st2 := [.int x1]) (I2 := m.I) (J2 := m.J) (fun hT v kk => ?_) ?_
  · refine sh_w (i := (.iload_n 1)) (len := 1) (pc2 := 1) (lv2 := [(0, .ref 59), (1, .int x1)]) (st2 := [.int x1]) (h2 := (sh_rep m.T m.I m.J)) rfl rfl rfl ?_
    exact kk
  rcases sh_ite e with ⟨c, e⟩ | ⟨c, e⟩
  · refine sh_Lk_lift (T := m.T) (I := m.I) (J := m.J) (s := m.s) (pc2 := 35) (lv2 := [(0, .ref 59), (1, .int x1)]) (st2 := [.int (-1)]) (I2 := m.I) (J2 := m.J) (fun hT v kk => ?_) ?_
    · refine sh_j0 (c := .lt) (off := (33)) (pc2 := 34) true rfl (sh_Bltt c) rfl ?_
      refine sh_w (i := (.iconst (-1))) (len := 1) (pc2 := 35) (lv2 := [(0, .ref 59), (1, .int x1)]) (st2 := [.int (-1)]) (h2 := (sh_rep m.T m.I m.J)) rfl rfl rfl ?_
      exact kk
    obtain rfl := Option.some.inj e
    obtain ⟨rfl, rfl⟩ := tg
    exact sh_Lk_ret (i := .ireturn) rfl rfl rfl (Nat.le_of_ble_eq_true rfl) (Nat.le_of_ble_eq_true rfl)
  · refine sh_Lk_lift (T := m.T) (I := m.I) (J := m.J) (s := m.s) (pc2 := 9) (lv2 := [(0, .ref 59), (1, .int x1)]) (st2 := [.int (m.I 58 6), .int x1]) (I2 := m.I) (J2 := m.J) (fun hT v kk => ?_) ?_
    · refine sh_j0 (c := .lt) (off := (33)) (pc2 := 4) false rfl (sh_Bltf c) rfl ?_
      refine sh_w (i := (.iload_n 1)) (len := 1) (pc2 := 5) (lv2 := [(0, .ref 59), (1, .int x1)]) (st2 := [.int x1]) (h2 := (sh_rep m.T m.I m.J)) rfl rfl rfl ?_
      refine sh_w (i := (.aload_n 0)) (len := 1) (pc2 := 6) (lv2 := [(0, .ref 59), (1, .int x1)]) (st2 := [.ref 59, .int x1]) (h2 := (sh_rep m.T m.I m.J)) rfl rfl rfl ?_
      refine sh_gI1 (len := 3) (x := m.I 58 6) (pc2 := 9) rfl rfl hT.t58 rfl rfl rfl ?_
      exact kk
    rcases sh_ite e with ⟨c, e⟩ | ⟨c, e⟩
    · refine sh_Lk_lift (T := m.T) (I := m.I) (J := m.J) (s := m.s) (pc2 := 18) (lv2 := [(0, .ref 59), (1, .int x1)]) (st2 := [.int (Int32.ofNat (sh_ln m.T (sh_rf m.T 58 5))), .int x1]) (I2 := m.I) (J2 := m.J) (fun hT v kk => ?_) ?_
      · refine sh_jc (c := .ge) (off := (25)) (pc2 := 12) false rfl (sh_Bgef c) rfl ?_
        refine sh_w (i := (.iload_n 1)) (len := 1) (pc2 := 13) (lv2 := [(0, .ref 59), (1, .int x1)]) (st2 := [.int x1]) (h2 := (sh_rep m.T m.I m.J)) rfl rfl rfl ?_
        refine sh_w (i := (.aload_n 0)) (len := 1) (pc2 := 14) (lv2 := [(0, .ref 59), (1, .int x1)]) (st2 := [.ref 59, .int x1]) (h2 := (sh_rep m.T m.I m.J)) rfl rfl rfl ?_
        refine sh_gR1 (len := 3) (x := .ref (sh_rf m.T 58 5 + 1)) (pc2 := 17) rfl rfl hT.t58 rfl rfl ?_
        refine sh_al1 (pc2 := 18) rfl hT.a58_5 (by decide) rfl ?_
        exact kk
      rcases sh_ite e with ⟨c, e⟩ | ⟨c, e⟩
      · refine sh_Lk_lift (T := m.T) (I := m.I) (J := m.J) (s := m.s) (pc2 := 26) (lv2 := [(0, .ref 59), (1, .int x1)]) (st2 := [.int x1, .ref ((sh_rf m.T 58 5) + 1)]) (I2 := m.I) (J2 := m.J) (fun hT v kk => ?_) ?_
        · refine sh_jc (c := .ge) (off := (16)) (pc2 := 21) false rfl (sh_Bgef c) rfl ?_
          refine sh_w (i := (.aload_n 0)) (len := 1) (pc2 := 22) (lv2 := [(0, .ref 59), (1, .int x1)]) (st2 := [.ref 59]) (h2 := (sh_rep m.T m.I m.J)) rfl rfl rfl ?_
          refine sh_gR1 (len := 3) (x := .ref (sh_rf m.T 58 5 + 1)) (pc2 := 25) rfl rfl hT.t58 rfl rfl ?_
          refine sh_w (i := (.iload_n 1)) (len := 1) (pc2 := 26) (lv2 := [(0, .ref 59), (1, .int x1)]) (st2 := [.int x1, .ref ((sh_rf m.T 58 5) + 1)]) (h2 := (sh_rep m.T m.I m.J)) rfl rfl rfl ?_
          exact kk
        obtain ⟨c, e⟩ := sh_gd e
        refine sh_Lk_lift (T := m.T) (I := m.I) (J := m.J) (s := m.s) (pc2 := 35) (lv2 := [(0, .ref 59), (1, .int x1)]) (st2 := [.int ((m.I (sh_rf m.T 58 5) (Int32.toNatClampNeg x1)) &&& 255)]) (I2 := m.I) (J2 := m.J) (fun hT v kk => ?_) ?_
        · refine sh_ba1 (x := m.I (sh_rf m.T 58 5) (Int32.toNatClampNeg x1)) (pc2 := 27) rfl hT.a58_5 (Or.inl rfl) (sh_okb1 c) (sh_okb2 c) rfl rfl ?_
          refine sh_w (i := (.sipush 255)) (len := 3) (pc2 := 30) (lv2 := [(0, .ref 59), (1, .int x1)]) (st2 := [.int 255, .int (m.I (sh_rf m.T 58 5) (Int32.toNatClampNeg x1))]) (h2 := (sh_rep m.T m.I m.J)) rfl rfl rfl ?_
          refine sh_w (i := .iand) (len := 1) (pc2 := 31) (lv2 := [(0, .ref 59), (1, .int x1)]) (st2 := [.int ((m.I (sh_rf m.T 58 5) (Int32.toNatClampNeg x1)) &&& 255)]) (h2 := (sh_rep m.T m.I m.J)) rfl rfl rfl ?_
          refine sh_w (i := (.goto 4)) (len := 3) (pc2 := 35) (lv2 := [(0, .ref 59), (1, .int x1)]) (st2 := [.int ((m.I (sh_rf m.T 58 5) (Int32.toNatClampNeg x1)) &&& 255)]) (h2 := (sh_rep m.T m.I m.J)) rfl rfl rfl ?_
          exact kk
        obtain rfl := Option.some.inj e
        obtain ⟨rfl, rfl⟩ := tg
        exact sh_Lk_ret (i := .ireturn) rfl rfl rfl (Nat.le_of_ble_eq_true rfl) (Nat.le_of_ble_eq_true rfl)
      · refine sh_Lk_lift (T := m.T) (I := m.I) (J := m.J) (s := m.s) (pc2 := 35) (lv2 := [(0, .ref 59), (1, .int x1)]) (st2 := [.int (-1)]) (I2 := m.I) (J2 := m.J) (fun hT v kk => ?_) ?_
        · refine sh_jc (c := .ge) (off := (16)) (pc2 := 34) true rfl (sh_Bget c) rfl ?_
          refine sh_w (i := (.iconst (-1))) (len := 1) (pc2 := 35) (lv2 := [(0, .ref 59), (1, .int x1)]) (st2 := [.int (-1)]) (h2 := (sh_rep m.T m.I m.J)) rfl rfl rfl ?_
          exact kk
        obtain rfl := Option.some.inj e
        obtain ⟨rfl, rfl⟩ := tg
        exact sh_Lk_ret (i := .ireturn) rfl rfl rfl (Nat.le_of_ble_eq_true rfl) (Nat.le_of_ble_eq_true rfl)
    · refine sh_Lk_lift (T := m.T) (I := m.I) (J := m.J) (s := m.s) (pc2 := 35) (lv2 := [(0, .ref 59), (1, .int x1)]) (st2 := [.int (-1)]) (I2 := m.I) (J2 := m.J) (fun hT v kk => ?_) ?_
      · refine sh_jc (c := .ge) (off := (25)) (pc2 := 34) true rfl (sh_Bget c) rfl ?_
        refine sh_w (i := (.iconst (-1))) (len := 1) (pc2 := 35) (lv2 := [(0, .ref 59), (1, .int x1)]) (st2 := [.int (-1)]) (h2 := (sh_rep m.T m.I m.J)) rfl rfl rfl ?_
        exact kk
      obtain rfl := Option.some.inj e
      obtain ⟨rfl, rfl⟩ := tg
      exact sh_Lk_ret (i := .ireturn) rfl rfl rfl (Nat.le_of_ble_eq_true rfl) (Nat.le_of_ble_eq_true rfl)
theorem sl_203 {x1 : Int32} {m m2 : sh_X} {o : Outcome} {z : (Option Unit × sh_X)} (e : sf_203 x1 m = some z) (tg : (sh_tVt o m2) z) : sh_Lk 203 0 [(0, .ref 59), (1, .int x1)] [] m o m2 8 200 := by
  unfold sf_203 at e
  refine sh_Lk_lift (T := m.T) (I := m.I) (J := m.J) (s := m.s) (pc2 := 5) (lv2 := [(0, .ref 59), (1, .int x1)]) (st2 := []) (I2 := sh_u2 m.I 58 11 x1) (J2 := m.J) (fun hT v kk => ?_) ?_
  · refine sh_w (i := (.aload_n 0)) (len := 1) (pc2 := 1) (lv2 := [(0, .ref 59), (1, .int x1)]) (st2 := [.ref 59]) (h2 := (sh_rep m.T m.I m.J)) rfl rfl rfl ?_
    refine sh_w (i := (.iload_n 1)) (len := 1) (pc2 := 2) (lv2 := [(0, .ref 59), (1, .int x1)]) (st2 := [.int x1, .ref 59]) (h2 := (sh_rep m.T m.I m.J)) rfl rfl rfl ?_
    refine sh_pI1 (x := x1) (pc2 := 5) rfl rfl hT.t58 rfl rfl rfl rfl ?_
    exact kk
  obtain ⟨c, e⟩ := sh_gd e
  obtain rfl := Option.some.inj e
  obtain ⟨rfl, rfl⟩ := tg
  exact sh_Lk_thr rfl rfl rfl c (Nat.le_of_ble_eq_true rfl) rfl (Nat.le_of_ble_eq_true rfl) (Nat.le_of_ble_eq_true rfl) rfl
theorem sl_201_58 {x1 : Int32} {x2 : Int32} {x3 : Int32} {x4 : Int32} {x5 : Int32} {m m2 : sh_X} {o : Outcome} {z : ((Int32 × Int32 × sh_X) ⊕ (Option Int32 × sh_X))} (e : sf_201_58 x1 x2 x3 x4 x5 m = some z) (tg : (sh_el (fun q => sh_Lk 201 11 [(0, .ref 59), (1, .int x1), (2, .int x2), (3, .int x3), (4, .int q.1), (5, .int q.2.1)] [] q.2.2 o m2 9 221) (sh_tIt o m2)) z) : sh_Lk 201 58 [(0, .ref 59), (1, .int x1), (2, .int x2), (3, .int x3), (4, .int x4), (5, .int x5)] [] m o m2 9 221 := by
  unfold sf_201_58 at e
  refine sh_Lk_lift (T := m.T) (I := m.I) (J := m.J) (s := m.s) (pc2 := 68) (lv2 := [(0, .ref 59), (1, .int x1), (2, .int x2), (3, .int x3), (4, .int x4), (5, .int x5)]) (st2 := [.int (m.I 58 7), .ref 59, .int (10 * x5)]) (I2 := m.I) (J2 := m.J) (fun hT v kk => ?_) ?_
  · refine sh_w (i := (.bipush 10)) (len := 2) (pc2 := 60) (lv2 := [(0, .ref 59), (1, .int x1), (2, .int x2), (3, .int x3), (4, .int x4), (5, .int x5)]) (st2 := [.int 10]) (h2 := (sh_rep m.T m.I m.J)) rfl rfl rfl ?_
    refine sh_w (i := (.iload 5)) (len := 2) (pc2 := 62) (lv2 := [(0, .ref 59), (1, .int x1), (2, .int x2), (3, .int x3), (4, .int x4), (5, .int x5)]) (st2 := [.int x5, .int 10]) (h2 := (sh_rep m.T m.I m.J)) rfl rfl rfl ?_
    refine sh_w (i := .imul) (len := 1) (pc2 := 63) (lv2 := [(0, .ref 59), (1, .int x1), (2, .int x2), (3, .int x3), (4, .int x4), (5, .int x5)]) (st2 := [.int (10 * x5)]) (h2 := (sh_rep m.T m.I m.J)) rfl rfl rfl ?_
    refine sh_w (i := (.aload_n 0)) (len := 1) (pc2 := 64) (lv2 := [(0, .ref 59), (1, .int x1), (2, .int x2), (3, .int x3), (4, .int x4), (5, .int x5)]) (st2 := [.ref 59, .int (10 * x5)]) (h2 := (sh_rep m.T m.I m.J)) rfl rfl rfl ?_
    refine sh_w (i := (.aload_n 0)) (len := 1) (pc2 := 65) (lv2 := [(0, .ref 59), (1, .int x1), (2, .int x2), (3, .int x3), (4, .int x4), (5, .int x5)]) (st2 := [.ref 59, .ref 59, .int (10 * x5)]) (h2 := (sh_rep m.T m.I m.J)) rfl rfl rfl ?_
    refine sh_gI1 (len := 3) (x := m.I 58 7) (pc2 := 68) rfl rfl hT.t58 rfl rfl rfl ?_
    exact kk
  obtain ⟨r1, e1, e⟩ := sh_bc_e e
  refine sh_Lk_cV (r := (some (.int r1))) (st2 := [.int r1, .int (10 * x5)]) (pc2 := 71) (k2 := 202) (a := 58) (as := [.ref 59, .int (m.I 58 7)]) (rest := [.int (10 * x5)]) rfl rfl rfl (fun hT => hT.t58) rfl rfl ⟨Nat.le_of_ble_eq_true rfl, Nat.le_of_ble_eq_true rfl⟩ (sl_202 e1 ⟨rfl, rfl⟩) rfl rfl (Nat.le_of_ble_eq_true rfl) (Nat.le_of_ble_eq_true rfl) ?_
  refine sh_Lk_lift (T := m.T) (I := m.I) (J := m.J) (s := m.s) (pc2 := 11) (lv2 := [(4, .int (x4 + 1)), (5, .int (((10 * x5) + r1) - 48)), (0, .ref 59), (1, .int x1), (2, .int x2), (3, .int x3)]) (st2 := []) (I2 := sh_u2 m.I 58 7 ((m.I 58 7) + 1)) (J2 := m.J) (fun hT v kk => ?_) ?_
  · refine sh_w (i := .iadd) (len := 1) (pc2 := 72) (lv2 := [(0, .ref 59), (1, .int x1), (2, .int x2), (3, .int x3), (4, .int x4), (5, .int x5)]) (st2 := [.int ((10 * x5) + r1)]) (h2 := (sh_rep m.T m.I m.J)) rfl rfl rfl ?_
    refine sh_w (i := (.bipush 48)) (len := 2) (pc2 := 74) (lv2 := [(0, .ref 59), (1, .int x1), (2, .int x2), (3, .int x3), (4, .int x4), (5, .int x5)]) (st2 := [.int 48, .int ((10 * x5) + r1)]) (h2 := (sh_rep m.T m.I m.J)) rfl rfl rfl ?_
    refine sh_w (i := .isub) (len := 1) (pc2 := 75) (lv2 := [(0, .ref 59), (1, .int x1), (2, .int x2), (3, .int x3), (4, .int x4), (5, .int x5)]) (st2 := [.int (((10 * x5) + r1) - 48)]) (h2 := (sh_rep m.T m.I m.J)) rfl rfl rfl ?_
    refine sh_w (i := (.istore 5)) (len := 2) (pc2 := 77) (lv2 := [(5, .int (((10 * x5) + r1) - 48)), (0, .ref 59), (1, .int x1), (2, .int x2), (3, .int x3), (4, .int x4)]) (st2 := []) (h2 := (sh_rep m.T m.I m.J)) rfl rfl rfl ?_
    refine sh_w (i := (.aload_n 0)) (len := 1) (pc2 := 78) (lv2 := [(5, .int (((10 * x5) + r1) - 48)), (0, .ref 59), (1, .int x1), (2, .int x2), (3, .int x3), (4, .int x4)]) (st2 := [.ref 59]) (h2 := (sh_rep m.T m.I m.J)) rfl rfl rfl ?_
    refine sh_w (i := .dup) (len := 1) (pc2 := 79) (lv2 := [(5, .int (((10 * x5) + r1) - 48)), (0, .ref 59), (1, .int x1), (2, .int x2), (3, .int x3), (4, .int x4)]) (st2 := [.ref 59, .ref 59]) (h2 := (sh_rep m.T m.I m.J)) rfl rfl rfl ?_
    refine sh_gI1 (len := 3) (x := m.I 58 7) (pc2 := 82) rfl rfl hT.t58 rfl rfl rfl ?_
    refine sh_w (i := (.iconst 1)) (len := 1) (pc2 := 83) (lv2 := [(5, .int (((10 * x5) + r1) - 48)), (0, .ref 59), (1, .int x1), (2, .int x2), (3, .int x3), (4, .int x4)]) (st2 := [.int 1, .int (m.I 58 7), .ref 59]) (h2 := (sh_rep m.T m.I m.J)) rfl rfl rfl ?_
    refine sh_w (i := .iadd) (len := 1) (pc2 := 84) (lv2 := [(5, .int (((10 * x5) + r1) - 48)), (0, .ref 59), (1, .int x1), (2, .int x2), (3, .int x3), (4, .int x4)]) (st2 := [.int ((m.I 58 7) + 1), .ref 59]) (h2 := (sh_rep m.T m.I m.J)) rfl rfl rfl ?_
    refine sh_pI1 (x := (m.I 58 7) + 1) (pc2 := 87) rfl rfl hT.t58 rfl rfl rfl rfl ?_
    refine sh_w (i := (.iinc 4 1)) (len := 3) (pc2 := 90) (lv2 := [(4, .int (x4 + 1)), (5, .int (((10 * x5) + r1) - 48)), (0, .ref 59), (1, .int x1), (2, .int x2), (3, .int x3)]) (st2 := []) (h2 := (sh_rep m.T (sh_u2 m.I 58 7 ((m.I 58 7) + 1)) m.J)) rfl rfl rfl ?_
    refine sh_w (i := (.goto (-79))) (len := 3) (pc2 := 11) (lv2 := [(4, .int (x4 + 1)), (5, .int (((10 * x5) + r1) - 48)), (0, .ref 59), (1, .int x1), (2, .int x2), (3, .int x3)]) (st2 := []) (h2 := (sh_rep m.T (sh_u2 m.I 58 7 ((m.I 58 7) + 1)) m.J)) rfl rfl rfl ?_
    exact kk
  obtain rfl := Option.some.inj e
  exact sh_Lk_sub (sh_sub_c rfl (sh_sub_c rfl (sh_sub_c rfl (sh_sub_c rfl (sh_sub_c rfl (sh_sub_c rfl (sh_sub_n))))))) tg
theorem sl_201_50 {x1 : Int32} {x2 : Int32} {x3 : Int32} {x4 : Int32} {x5 : Int32} {m m2 : sh_X} {o : Outcome} {z : ((Int32 × Int32 × sh_X) ⊕ (Option Int32 × sh_X))} (e : sf_201_50 x1 x2 x3 x4 x5 m = some z) (tg : (sh_el (fun q => sh_Lk 201 11 [(0, .ref 59), (1, .int x1), (2, .int x2), (3, .int x3), (4, .int q.1), (5, .int q.2.1)] [] q.2.2 o m2 9 221) (sh_tIt o m2)) z) : sh_Lk 201 50 [(0, .ref 59), (1, .int x1), (2, .int x2), (3, .int x3), (4, .int x4), (5, .int x5)] [] m o m2 9 221 := by
  unfold sf_201_50 at e
  refine sh_Lk_lift (T := m.T) (I := m.I) (J := m.J) (s := m.s) (pc2 := 55) (lv2 := [(0, .ref 59), (1, .int x1), (2, .int x2), (3, .int x3), (4, .int x4), (5, .int x5)]) (st2 := [.int (m.I 58 7), .ref 59]) (I2 := m.I) (J2 := m.J) (fun hT v kk => ?_) ?_
  · refine sh_w (i := (.aload_n 0)) (len := 1) (pc2 := 51) (lv2 := [(0, .ref 59), (1, .int x1), (2, .int x2), (3, .int x3), (4, .int x4), (5, .int x5)]) (st2 := [.ref 59]) (h2 := (sh_rep m.T m.I m.J)) rfl rfl rfl ?_
    refine sh_w (i := (.aload_n 0)) (len := 1) (pc2 := 52) (lv2 := [(0, .ref 59), (1, .int x1), (2, .int x2), (3, .int x3), (4, .int x4), (5, .int x5)]) (st2 := [.ref 59, .ref 59]) (h2 := (sh_rep m.T m.I m.J)) rfl rfl rfl ?_
    refine sh_gI1 (len := 3) (x := m.I 58 7) (pc2 := 55) rfl rfl hT.t58 rfl rfl rfl ?_
    exact kk
  rcases sh_bt_e e with ⟨m11, e1, rfl⟩ | ⟨r1, m11, e1, e⟩
  · obtain ⟨rfl, rfl⟩ := tg
    exact sh_Lk_tV (k2 := 203) (a := 58) (as := [.ref 59, .int (m.I 58 7)]) (rest := []) rfl rfl rfl (fun hT => hT.t58) rfl rfl ⟨Nat.le_of_ble_eq_true rfl, Nat.le_of_ble_eq_true rfl⟩ (sl_203 e1 ⟨rfl, rfl⟩) rfl (Nat.le_of_ble_eq_true rfl) (Nat.le_of_ble_eq_true rfl) (Nat.le_of_ble_eq_true rfl) (Nat.le_of_ble_eq_true rfl) rfl
  refine sh_Lk_cV (r := none) (st2 := []) (pc2 := 58) (k2 := 203) (a := 58) (as := [.ref 59, .int (m.I 58 7)]) (rest := []) rfl rfl rfl (fun hT => hT.t58) rfl rfl ⟨Nat.le_of_ble_eq_true rfl, Nat.le_of_ble_eq_true rfl⟩ (sl_203 e1 ⟨rfl, rfl⟩) rfl rfl (Nat.le_of_ble_eq_true rfl) (Nat.le_of_ble_eq_true rfl) ?_
  exact sh_Lk_sub (sh_sub_c rfl (sh_sub_c rfl (sh_sub_c rfl (sh_sub_c rfl (sh_sub_c rfl (sh_sub_c rfl (sh_sub_n))))))) (sl_201_58 e tg)
theorem sl_201_110 {x3 : Int32} {x5 : Int32} {m m2 : sh_X} {o : Outcome} {z : (Option Int32 × sh_X)} (e : sf_201_110 x3 x5 m = some z) (tg : (sh_tIt o m2) z) : sh_Lk 201 110 [(0, .ref 59), (3, .int x3), (5, .int x5)] [] m o m2 9 221 := by
  unfold sf_201_110 at e
  refine sh_Lk_lift (T := m.T) (I := m.I) (J := m.J) (s := m.s) (pc2 := 112) (lv2 := [(0, .ref 59), (3, .int x3), (5, .int x5)]) (st2 := [.int x3, .ref 59]) (I2 := m.I) (J2 := m.J) (fun hT v kk => ?_) ?_
  · refine sh_w (i := (.aload_n 0)) (len := 1) (pc2 := 111) (lv2 := [(0, .ref 59), (3, .int x3), (5, .int x5)]) (st2 := [.ref 59]) (h2 := (sh_rep m.T m.I m.J)) rfl rfl rfl ?_
    refine sh_w (i := (.iload_n 3)) (len := 1) (pc2 := 112) (lv2 := [(0, .ref 59), (3, .int x3), (5, .int x5)]) (st2 := [.int x3, .ref 59]) (h2 := (sh_rep m.T m.I m.J)) rfl rfl rfl ?_
    exact kk
  rcases sh_bt_e e with ⟨m11, e1, rfl⟩ | ⟨r1, m11, e1, e⟩
  · obtain ⟨rfl, rfl⟩ := tg
    exact sh_Lk_tV (k2 := 203) (a := 58) (as := [.ref 59, .int x3]) (rest := []) rfl rfl rfl (fun hT => hT.t58) rfl rfl ⟨Nat.le_of_ble_eq_true rfl, Nat.le_of_ble_eq_true rfl⟩ (sl_203 e1 ⟨rfl, rfl⟩) rfl (Nat.le_of_ble_eq_true rfl) (Nat.le_of_ble_eq_true rfl) (Nat.le_of_ble_eq_true rfl) (Nat.le_of_ble_eq_true rfl) rfl
  refine sh_Lk_cV (r := none) (st2 := []) (pc2 := 115) (k2 := 203) (a := 58) (as := [.ref 59, .int x3]) (rest := []) rfl rfl rfl (fun hT => hT.t58) rfl rfl ⟨Nat.le_of_ble_eq_true rfl, Nat.le_of_ble_eq_true rfl⟩ (sl_203 e1 ⟨rfl, rfl⟩) rfl rfl (Nat.le_of_ble_eq_true rfl) (Nat.le_of_ble_eq_true rfl) ?_
  refine sh_Lk_lift (T := m11.T) (I := m11.I) (J := m11.J) (s := m11.s) (pc2 := 117) (lv2 := [(0, .ref 59), (3, .int x3), (5, .int x5)]) (st2 := [.int x5]) (I2 := m11.I) (J2 := m11.J) (fun hT v kk => ?_) ?_
  · refine sh_w (i := (.iload 5)) (len := 2) (pc2 := 117) (lv2 := [(0, .ref 59), (3, .int x3), (5, .int x5)]) (st2 := [.int x5]) (h2 := (sh_rep m11.T m11.I m11.J)) rfl rfl rfl ?_
    exact kk
  obtain rfl := Option.some.inj e
  obtain ⟨rfl, rfl⟩ := tg
  exact sh_Lk_ret (i := .ireturn) rfl rfl rfl (Nat.le_of_ble_eq_true rfl) (Nat.le_of_ble_eq_true rfl)
theorem sl_201_93 {x1 : Int32} {x2 : Int32} {x3 : Int32} {x4 : Int32} {x5 : Int32} {m m2 : sh_X} {o : Outcome} {z : (Option Int32 × sh_X)} (e : sf_201_93 x1 x2 x3 x4 x5 m = some z) (tg : (sh_tIt o m2) z) : sh_Lk 201 93 [(0, .ref 59), (1, .int x1), (2, .int x2), (3, .int x3), (4, .int x4), (5, .int x5)] [] m o m2 9 221 := by
  unfold sf_201_93 at e
  refine sh_Lk_lift (T := m.T) (I := m.I) (J := m.J) (s := m.s) (pc2 := 95) (lv2 := [(0, .ref 59), (1, .int x1), (2, .int x2), (3, .int x3), (4, .int x4), (5, .int x5)]) (st2 := [.int x4]) (I2 := m.I) (J2 := m.J) (fun hT v kk => ?_) ?_
  · refine sh_w (i := (.iload 4)) (len := 2) (pc2 := 95) (lv2 := [(0, .ref 59), (1, .int x1), (2, .int x2), (3, .int x3), (4, .int x4), (5, .int x5)]) (st2 := [.int x4]) (h2 := (sh_rep m.T m.I m.J)) rfl rfl rfl ?_
    exact kk
  rcases sh_ite e with ⟨c, e⟩ | ⟨c, e⟩
  · refine sh_Lk_lift (T := m.T) (I := m.I) (J := m.J) (s := m.s) (pc2 := 110) (lv2 := [(0, .ref 59), (1, .int x1), (2, .int x2), (3, .int x3), (4, .int x4), (5, .int x5)]) (st2 := []) (I2 := m.I) (J2 := m.J) (fun hT v kk => ?_) ?_
    · refine sh_j0 (c := .eq) (off := (15)) (pc2 := 110) true rfl (sh_Beqt c) rfl ?_
      exact kk
    exact sh_Lk_sub (sh_sub_c rfl (sh_sub_c rfl (sh_sub_c rfl (sh_sub_n)))) (sl_201_110 e tg)
  · refine sh_Lk_lift (T := m.T) (I := m.I) (J := m.J) (s := m.s) (pc2 := 101) (lv2 := [(0, .ref 59), (1, .int x1), (2, .int x2), (3, .int x3), (4, .int x4), (5, .int x5)]) (st2 := [.int x1, .int x5]) (I2 := m.I) (J2 := m.J) (fun hT v kk => ?_) ?_
    · refine sh_j0 (c := .eq) (off := (15)) (pc2 := 98) false rfl (sh_Beqf c) rfl ?_
      refine sh_w (i := (.iload 5)) (len := 2) (pc2 := 100) (lv2 := [(0, .ref 59), (1, .int x1), (2, .int x2), (3, .int x3), (4, .int x4), (5, .int x5)]) (st2 := [.int x5]) (h2 := (sh_rep m.T m.I m.J)) rfl rfl rfl ?_
      refine sh_w (i := (.iload_n 1)) (len := 1) (pc2 := 101) (lv2 := [(0, .ref 59), (1, .int x1), (2, .int x2), (3, .int x3), (4, .int x4), (5, .int x5)]) (st2 := [.int x1, .int x5]) (h2 := (sh_rep m.T m.I m.J)) rfl rfl rfl ?_
      exact kk
    rcases sh_ite e with ⟨c, e⟩ | ⟨c, e⟩
    · refine sh_Lk_lift (T := m.T) (I := m.I) (J := m.J) (s := m.s) (pc2 := 110) (lv2 := [(0, .ref 59), (1, .int x1), (2, .int x2), (3, .int x3), (4, .int x4), (5, .int x5)]) (st2 := []) (I2 := m.I) (J2 := m.J) (fun hT v kk => ?_) ?_
      · refine sh_jc (c := .lt) (off := (9)) (pc2 := 110) true rfl (sh_Bltt c) rfl ?_
        exact kk
      exact sh_Lk_sub (sh_sub_c rfl (sh_sub_c rfl (sh_sub_c rfl (sh_sub_n)))) (sl_201_110 e tg)
    · refine sh_Lk_lift (T := m.T) (I := m.I) (J := m.J) (s := m.s) (pc2 := 107) (lv2 := [(0, .ref 59), (1, .int x1), (2, .int x2), (3, .int x3), (4, .int x4), (5, .int x5)]) (st2 := [.int x2, .int x5]) (I2 := m.I) (J2 := m.J) (fun hT v kk => ?_) ?_
      · refine sh_jc (c := .lt) (off := (9)) (pc2 := 104) false rfl (sh_Bltf c) rfl ?_
        refine sh_w (i := (.iload 5)) (len := 2) (pc2 := 106) (lv2 := [(0, .ref 59), (1, .int x1), (2, .int x2), (3, .int x3), (4, .int x4), (5, .int x5)]) (st2 := [.int x5]) (h2 := (sh_rep m.T m.I m.J)) rfl rfl rfl ?_
        refine sh_w (i := (.iload_n 2)) (len := 1) (pc2 := 107) (lv2 := [(0, .ref 59), (1, .int x1), (2, .int x2), (3, .int x3), (4, .int x4), (5, .int x5)]) (st2 := [.int x2, .int x5]) (h2 := (sh_rep m.T m.I m.J)) rfl rfl rfl ?_
        exact kk
      rcases sh_ite e with ⟨c, e⟩ | ⟨c, e⟩
      · refine sh_Lk_lift (T := m.T) (I := m.I) (J := m.J) (s := m.s) (pc2 := 110) (lv2 := [(0, .ref 59), (1, .int x1), (2, .int x2), (3, .int x3), (4, .int x4), (5, .int x5)]) (st2 := []) (I2 := m.I) (J2 := m.J) (fun hT v kk => ?_) ?_
        · refine sh_jc (c := .le) (off := (8)) (pc2 := 110) false rfl (sh_Blef c) rfl ?_
          exact kk
        exact sh_Lk_sub (sh_sub_c rfl (sh_sub_c rfl (sh_sub_c rfl (sh_sub_n)))) (sl_201_110 e tg)
      · refine sh_Lk_lift (T := m.T) (I := m.I) (J := m.J) (s := m.s) (pc2 := 117) (lv2 := [(0, .ref 59), (1, .int x1), (2, .int x2), (3, .int x3), (4, .int x4), (5, .int x5)]) (st2 := [.int x5]) (I2 := m.I) (J2 := m.J) (fun hT v kk => ?_) ?_
        · refine sh_jc (c := .le) (off := (8)) (pc2 := 115) true rfl (sh_Blet c) rfl ?_
          refine sh_w (i := (.iload 5)) (len := 2) (pc2 := 117) (lv2 := [(0, .ref 59), (1, .int x1), (2, .int x2), (3, .int x3), (4, .int x4), (5, .int x5)]) (st2 := [.int x5]) (h2 := (sh_rep m.T m.I m.J)) rfl rfl rfl ?_
          exact kk
        obtain rfl := Option.some.inj e
        obtain ⟨rfl, rfl⟩ := tg
        exact sh_Lk_ret (i := .ireturn) rfl rfl rfl (Nat.le_of_ble_eq_true rfl) (Nat.le_of_ble_eq_true rfl)
theorem sl_201_11s {x1 : Int32} {x2 : Int32} {x3 : Int32} {x4 : Int32} {x5 : Int32} {m m2 : sh_X} {o : Outcome} {z : ((Int32 × Int32 × sh_X) ⊕ (Option Int32 × sh_X))} (e : sf_201_11s x1 x2 x3 x4 x5 m = some z) (tg : (sh_el (fun q => sh_Lk 201 11 [(0, .ref 59), (1, .int x1), (2, .int x2), (3, .int x3), (4, .int q.1), (5, .int q.2.1)] [] q.2.2 o m2 9 221) (sh_tIt o m2)) z) : sh_Lk 201 11 [(0, .ref 59), (1, .int x1), (2, .int x2), (3, .int x3), (4, .int x4), (5, .int x5)] [] m o m2 9 221 := by
  unfold sf_201_11s at e
  refine sh_Lk_lift (T := m.T) (I := m.I) (J := m.J) (s := m.s) (pc2 := 15) (lv2 := [(0, .ref 59), (1, .int x1), (2, .int x2), (3, .int x3), (4, .int x4), (5, .int x5)]) (st2 := [.int 9, .int x4]) (I2 := m.I) (J2 := m.J) (fun hT v kk => ?_) ?_
  · refine sh_w (i := (.iload 4)) (len := 2) (pc2 := 13) (lv2 := [(0, .ref 59), (1, .int x1), (2, .int x2), (3, .int x3), (4, .int x4), (5, .int x5)]) (st2 := [.int x4]) (h2 := (sh_rep m.T m.I m.J)) rfl rfl rfl ?_
    refine sh_w (i := (.bipush 9)) (len := 2) (pc2 := 15) (lv2 := [(0, .ref 59), (1, .int x1), (2, .int x2), (3, .int x3), (4, .int x4), (5, .int x5)]) (st2 := [.int 9, .int x4]) (h2 := (sh_rep m.T m.I m.J)) rfl rfl rfl ?_
    exact kk
  rcases sh_ite e with ⟨c, e⟩ | ⟨c, e⟩
  · refine sh_Lk_lift (T := m.T) (I := m.I) (J := m.J) (s := m.s) (pc2 := 93) (lv2 := [(0, .ref 59), (1, .int x1), (2, .int x2), (3, .int x3), (4, .int x4), (5, .int x5)]) (st2 := []) (I2 := m.I) (J2 := m.J) (fun hT v kk => ?_) ?_
    · refine sh_jc (c := .gt) (off := (78)) (pc2 := 93) true rfl (sh_Bgtt c) rfl ?_
      exact kk
    obtain ⟨_, eu, rfl⟩ := sh_up_e e
    exact sh_Lk_sub (sh_sub_c rfl (sh_sub_c rfl (sh_sub_c rfl (sh_sub_c rfl (sh_sub_c rfl (sh_sub_c rfl (sh_sub_n))))))) (sl_201_93 eu tg)
  · refine sh_Lk_lift (T := m.T) (I := m.I) (J := m.J) (s := m.s) (pc2 := 23) (lv2 := [(0, .ref 59), (1, .int x1), (2, .int x2), (3, .int x3), (4, .int x4), (5, .int x5)]) (st2 := [.int (m.I 58 7), .ref 59]) (I2 := m.I) (J2 := m.J) (fun hT v kk => ?_) ?_
    · refine sh_jc (c := .gt) (off := (78)) (pc2 := 18) false rfl (sh_Bgtf c) rfl ?_
      refine sh_w (i := (.aload_n 0)) (len := 1) (pc2 := 19) (lv2 := [(0, .ref 59), (1, .int x1), (2, .int x2), (3, .int x3), (4, .int x4), (5, .int x5)]) (st2 := [.ref 59]) (h2 := (sh_rep m.T m.I m.J)) rfl rfl rfl ?_
      refine sh_w (i := (.aload_n 0)) (len := 1) (pc2 := 20) (lv2 := [(0, .ref 59), (1, .int x1), (2, .int x2), (3, .int x3), (4, .int x4), (5, .int x5)]) (st2 := [.ref 59, .ref 59]) (h2 := (sh_rep m.T m.I m.J)) rfl rfl rfl ?_
      refine sh_gI1 (len := 3) (x := m.I 58 7) (pc2 := 23) rfl rfl hT.t58 rfl rfl rfl ?_
      exact kk
    obtain ⟨r1, e1, e⟩ := sh_bc_e e
    refine sh_Lk_cV (r := (some (.int r1))) (st2 := [.int r1]) (pc2 := 26) (k2 := 202) (a := 58) (as := [.ref 59, .int (m.I 58 7)]) (rest := []) rfl rfl rfl (fun hT => hT.t58) rfl rfl ⟨Nat.le_of_ble_eq_true rfl, Nat.le_of_ble_eq_true rfl⟩ (sl_202 e1 ⟨rfl, rfl⟩) rfl rfl (Nat.le_of_ble_eq_true rfl) (Nat.le_of_ble_eq_true rfl) ?_
    refine sh_Lk_cS (r := (some (.int (sh_b2 (sf_31 r1))))) (st2 := [.int (sh_b2 (sf_31 r1))]) (pc2 := 29) (k2 := 31) (as := [.int r1]) (rest := []) rfl rfl (by decide) (Nat.le_of_ble_eq_true rfl) rfl rfl ⟨Nat.le_of_ble_eq_true rfl, Nat.le_of_ble_eq_true rfl⟩ (sl_31 (m := m) rfl ⟨rfl, rfl⟩) rfl rfl (Nat.le_of_ble_eq_true rfl) (Nat.le_of_ble_eq_true rfl) ?_
    rcases sh_ite e with ⟨c, e⟩ | ⟨c, e⟩
    · refine sh_Lk_lift (T := m.T) (I := m.I) (J := m.J) (s := m.s) (pc2 := 36) (lv2 := [(0, .ref 59), (1, .int x1), (2, .int x2), (3, .int x3), (4, .int x4), (5, .int x5)]) (st2 := [.int 9, .int x4]) (I2 := m.I) (J2 := m.J) (fun hT v kk => ?_) ?_
      · refine sh_j0 (c := .eq) (off := (64)) (pc2 := 32) false rfl (sh_Zeqf c) rfl ?_
        refine sh_w (i := (.iload 4)) (len := 2) (pc2 := 34) (lv2 := [(0, .ref 59), (1, .int x1), (2, .int x2), (3, .int x3), (4, .int x4), (5, .int x5)]) (st2 := [.int x4]) (h2 := (sh_rep m.T m.I m.J)) rfl rfl rfl ?_
        refine sh_w (i := (.bipush 9)) (len := 2) (pc2 := 36) (lv2 := [(0, .ref 59), (1, .int x1), (2, .int x2), (3, .int x3), (4, .int x4), (5, .int x5)]) (st2 := [.int 9, .int x4]) (h2 := (sh_rep m.T m.I m.J)) rfl rfl rfl ?_
        exact kk
      rcases sh_ite e with ⟨c, e⟩ | ⟨c, e⟩
      · refine sh_Lk_lift (T := m.T) (I := m.I) (J := m.J) (s := m.s) (pc2 := 50) (lv2 := [(0, .ref 59), (1, .int x1), (2, .int x2), (3, .int x3), (4, .int x4), (5, .int x5)]) (st2 := []) (I2 := m.I) (J2 := m.J) (fun hT v kk => ?_) ?_
        · refine sh_jc (c := .eq) (off := (14)) (pc2 := 50) true rfl (sh_Beqt c) rfl ?_
          exact kk
        exact sh_Lk_sub (sh_sub_c rfl (sh_sub_c rfl (sh_sub_c rfl (sh_sub_c rfl (sh_sub_c rfl (sh_sub_c rfl (sh_sub_n))))))) (sl_201_50 e tg)
      · refine sh_Lk_lift (T := m.T) (I := m.I) (J := m.J) (s := m.s) (pc2 := 42) (lv2 := [(0, .ref 59), (1, .int x1), (2, .int x2), (3, .int x3), (4, .int x4), (5, .int x5)]) (st2 := [.int 1, .int x4]) (I2 := m.I) (J2 := m.J) (fun hT v kk => ?_) ?_
        · refine sh_jc (c := .eq) (off := (14)) (pc2 := 39) false rfl (sh_Beqf c) rfl ?_
          refine sh_w (i := (.iload 4)) (len := 2) (pc2 := 41) (lv2 := [(0, .ref 59), (1, .int x1), (2, .int x2), (3, .int x3), (4, .int x4), (5, .int x5)]) (st2 := [.int x4]) (h2 := (sh_rep m.T m.I m.J)) rfl rfl rfl ?_
          refine sh_w (i := (.iconst 1)) (len := 1) (pc2 := 42) (lv2 := [(0, .ref 59), (1, .int x1), (2, .int x2), (3, .int x3), (4, .int x4), (5, .int x5)]) (st2 := [.int 1, .int x4]) (h2 := (sh_rep m.T m.I m.J)) rfl rfl rfl ?_
          exact kk
        rcases sh_ite e with ⟨c, e⟩ | ⟨c, e⟩
        · refine sh_Lk_lift (T := m.T) (I := m.I) (J := m.J) (s := m.s) (pc2 := 47) (lv2 := [(0, .ref 59), (1, .int x1), (2, .int x2), (3, .int x3), (4, .int x4), (5, .int x5)]) (st2 := [.int x5]) (I2 := m.I) (J2 := m.J) (fun hT v kk => ?_) ?_
          · refine sh_jc (c := .ne) (off := (16)) (pc2 := 45) false rfl (sh_Bnef c) rfl ?_
            refine sh_w (i := (.iload 5)) (len := 2) (pc2 := 47) (lv2 := [(0, .ref 59), (1, .int x1), (2, .int x2), (3, .int x3), (4, .int x4), (5, .int x5)]) (st2 := [.int x5]) (h2 := (sh_rep m.T m.I m.J)) rfl rfl rfl ?_
            exact kk
          rcases sh_ite e with ⟨c, e⟩ | ⟨c, e⟩
          · refine sh_Lk_lift (T := m.T) (I := m.I) (J := m.J) (s := m.s) (pc2 := 50) (lv2 := [(0, .ref 59), (1, .int x1), (2, .int x2), (3, .int x3), (4, .int x4), (5, .int x5)]) (st2 := []) (I2 := m.I) (J2 := m.J) (fun hT v kk => ?_) ?_
            · refine sh_j0 (c := .ne) (off := (11)) (pc2 := 50) false rfl (sh_Bnef c) rfl ?_
              exact kk
            exact sh_Lk_sub (sh_sub_c rfl (sh_sub_c rfl (sh_sub_c rfl (sh_sub_c rfl (sh_sub_c rfl (sh_sub_c rfl (sh_sub_n))))))) (sl_201_50 e tg)
          · refine sh_Lk_lift (T := m.T) (I := m.I) (J := m.J) (s := m.s) (pc2 := 58) (lv2 := [(0, .ref 59), (1, .int x1), (2, .int x2), (3, .int x3), (4, .int x4), (5, .int x5)]) (st2 := []) (I2 := m.I) (J2 := m.J) (fun hT v kk => ?_) ?_
            · refine sh_j0 (c := .ne) (off := (11)) (pc2 := 58) true rfl (sh_Bnet c) rfl ?_
              exact kk
            exact sh_Lk_sub (sh_sub_c rfl (sh_sub_c rfl (sh_sub_c rfl (sh_sub_c rfl (sh_sub_c rfl (sh_sub_c rfl (sh_sub_n))))))) (sl_201_58 e tg)
        · refine sh_Lk_lift (T := m.T) (I := m.I) (J := m.J) (s := m.s) (pc2 := 58) (lv2 := [(0, .ref 59), (1, .int x1), (2, .int x2), (3, .int x3), (4, .int x4), (5, .int x5)]) (st2 := []) (I2 := m.I) (J2 := m.J) (fun hT v kk => ?_) ?_
          · refine sh_jc (c := .ne) (off := (16)) (pc2 := 58) true rfl (sh_Bnet c) rfl ?_
            exact kk
          exact sh_Lk_sub (sh_sub_c rfl (sh_sub_c rfl (sh_sub_c rfl (sh_sub_c rfl (sh_sub_c rfl (sh_sub_c rfl (sh_sub_n))))))) (sl_201_58 e tg)
    · refine sh_Lk_lift (T := m.T) (I := m.I) (J := m.J) (s := m.s) (pc2 := 93) (lv2 := [(0, .ref 59), (1, .int x1), (2, .int x2), (3, .int x3), (4, .int x4), (5, .int x5)]) (st2 := []) (I2 := m.I) (J2 := m.J) (fun hT v kk => ?_) ?_
      · refine sh_j0 (c := .eq) (off := (64)) (pc2 := 93) true rfl (sh_Zeqt c) rfl ?_
        exact kk
      obtain ⟨_, eu, rfl⟩ := sh_up_e e
      exact sh_Lk_sub (sh_sub_c rfl (sh_sub_c rfl (sh_sub_c rfl (sh_sub_c rfl (sh_sub_c rfl (sh_sub_c rfl (sh_sub_n))))))) (sl_201_93 eu tg)
theorem sl_201_11 {x1 : Int32} {x2 : Int32} {x3 : Int32} {x4 : Int32} {x5 : Int32} {m m2 : sh_X} {o : Outcome} {z : (Option Int32 × sh_X)} (e : sf_201_11 x1 x2 x3 x4 x5 m = some z) (tg : (sh_tIt o m2) z) : sh_Lk 201 11 [(0, .ref 59), (1, .int x1), (2, .int x2), (3, .int x3), (4, .int x4), (5, .int x5)] [] m o m2 9 221 := by
  unfold sf_201_11 at e
  exact sh_while_lk (P := fun q => sh_Lk 201 11 [(0, .ref 59), (1, .int x1), (2, .int x2), (3, .int x3), (4, .int q.1), (5, .int q.2.1)] [] q.2.2 o m2 9 221) (Q := (sh_tIt o m2)) (fun q z e tg => sl_201_11s (x1 := x1) (x2 := x2) (x3 := x3) (x4 := q.1) (x5 := q.2.1) (m := q.2.2) e tg) (s := (x4, x5, m)) e tg
theorem sl_201 {x1 : Int32} {x2 : Int32} {m m2 : sh_X} {o : Outcome} {z : (Option Int32 × sh_X)} (e : sf_201 x1 x2 m = some z) (tg : (sh_tIt o m2) z) : sh_Lk 201 0 [(0, .ref 59), (1, .int x1), (2, .int x2)] [] m o m2 9 221 := by
  unfold sf_201 at e
  refine sh_Lk_lift (T := m.T) (I := m.I) (J := m.J) (s := m.s) (pc2 := 11) (lv2 := [(5, .int 0), (4, .int 0), (3, .int (m.I 58 7)), (0, .ref 59), (1, .int x1), (2, .int x2)]) (st2 := []) (I2 := m.I) (J2 := m.J) (fun hT v kk => ?_) ?_
  · refine sh_w (i := (.aload_n 0)) (len := 1) (pc2 := 1) (lv2 := [(0, .ref 59), (1, .int x1), (2, .int x2)]) (st2 := [.ref 59]) (h2 := (sh_rep m.T m.I m.J)) rfl rfl rfl ?_
    refine sh_gI1 (len := 3) (x := m.I 58 7) (pc2 := 4) rfl rfl hT.t58 rfl rfl rfl ?_
    refine sh_w (i := (.istore_n 3)) (len := 1) (pc2 := 5) (lv2 := [(3, .int (m.I 58 7)), (0, .ref 59), (1, .int x1), (2, .int x2)]) (st2 := []) (h2 := (sh_rep m.T m.I m.J)) rfl rfl rfl ?_
    refine sh_w (i := (.iconst 0)) (len := 1) (pc2 := 6) (lv2 := [(3, .int (m.I 58 7)), (0, .ref 59), (1, .int x1), (2, .int x2)]) (st2 := [.int 0]) (h2 := (sh_rep m.T m.I m.J)) rfl rfl rfl ?_
    refine sh_w (i := (.istore 4)) (len := 2) (pc2 := 8) (lv2 := [(4, .int 0), (3, .int (m.I 58 7)), (0, .ref 59), (1, .int x1), (2, .int x2)]) (st2 := []) (h2 := (sh_rep m.T m.I m.J)) rfl rfl rfl ?_
    refine sh_w (i := (.iconst 0)) (len := 1) (pc2 := 9) (lv2 := [(4, .int 0), (3, .int (m.I 58 7)), (0, .ref 59), (1, .int x1), (2, .int x2)]) (st2 := [.int 0]) (h2 := (sh_rep m.T m.I m.J)) rfl rfl rfl ?_
    refine sh_w (i := (.istore 5)) (len := 2) (pc2 := 11) (lv2 := [(5, .int 0), (4, .int 0), (3, .int (m.I 58 7)), (0, .ref 59), (1, .int x1), (2, .int x2)]) (st2 := []) (h2 := (sh_rep m.T m.I m.J)) rfl rfl rfl ?_
    exact kk
  exact sh_Lk_sub (sh_sub_c rfl (sh_sub_c rfl (sh_sub_c rfl (sh_sub_c rfl (sh_sub_c rfl (sh_sub_c rfl (sh_sub_n))))))) (sl_201_11 e tg)
theorem sl_204_20 {m m2 : sh_X} {o : Outcome} {z : (Option Unit × sh_X)} (e : sf_204_20 m = some z) (tg : (sh_tVt o m2) z) : sh_Lk 204 20 [(0, .ref 59)] [] m o m2 9 221 := by
  unfold sf_204_20 at e
  refine sh_Lk_lift (T := m.T) (I := m.I) (J := m.J) (s := m.s) (pc2 := 30) (lv2 := [(0, .ref 59)]) (st2 := []) (I2 := sh_u2 m.I 58 7 ((m.I 58 7) + 1)) (J2 := m.J) (fun hT v kk => ?_) ?_
  · refine sh_w (i := (.aload_n 0)) (len := 1) (pc2 := 21) (lv2 := [(0, .ref 59)]) (st2 := [.ref 59]) (h2 := (sh_rep m.T m.I m.J)) rfl rfl rfl ?_
    refine sh_w (i := .dup) (len := 1) (pc2 := 22) (lv2 := [(0, .ref 59)]) (st2 := [.ref 59, .ref 59]) (h2 := (sh_rep m.T m.I m.J)) rfl rfl rfl ?_
    refine sh_gI1 (len := 3) (x := m.I 58 7) (pc2 := 25) rfl rfl hT.t58 rfl rfl rfl ?_
    refine sh_w (i := (.iconst 1)) (len := 1) (pc2 := 26) (lv2 := [(0, .ref 59)]) (st2 := [.int 1, .int (m.I 58 7), .ref 59]) (h2 := (sh_rep m.T m.I m.J)) rfl rfl rfl ?_
    refine sh_w (i := .iadd) (len := 1) (pc2 := 27) (lv2 := [(0, .ref 59)]) (st2 := [.int ((m.I 58 7) + 1), .ref 59]) (h2 := (sh_rep m.T m.I m.J)) rfl rfl rfl ?_
    refine sh_pI1 (x := (m.I 58 7) + 1) (pc2 := 30) rfl rfl hT.t58 rfl rfl rfl rfl ?_
    exact kk
  obtain rfl := Option.some.inj e
  obtain ⟨rfl, rfl⟩ := tg
  exact sh_Lk_ret (i := .return_) rfl rfl rfl (Nat.le_of_ble_eq_true rfl) (Nat.le_of_ble_eq_true rfl)
theorem sl_204 {x1 : Int32} {m m2 : sh_X} {o : Outcome} {z : (Option Unit × sh_X)} (e : sf_204 x1 m = some z) (tg : (sh_tVt o m2) z) : sh_Lk 204 0 [(0, .ref 59), (1, .int x1)] [] m o m2 9 221 := by
  unfold sf_204 at e
  refine sh_Lk_lift (T := m.T) (I := m.I) (J := m.J) (s := m.s) (pc2 := 5) (lv2 := [(0, .ref 59), (1, .int x1)]) (st2 := [.int (m.I 58 7), .ref 59]) (I2 := m.I) (J2 := m.J) (fun hT v kk => ?_) ?_
  · refine sh_w (i := (.aload_n 0)) (len := 1) (pc2 := 1) (lv2 := [(0, .ref 59), (1, .int x1)]) (st2 := [.ref 59]) (h2 := (sh_rep m.T m.I m.J)) rfl rfl rfl ?_
    refine sh_w (i := (.aload_n 0)) (len := 1) (pc2 := 2) (lv2 := [(0, .ref 59), (1, .int x1)]) (st2 := [.ref 59, .ref 59]) (h2 := (sh_rep m.T m.I m.J)) rfl rfl rfl ?_
    refine sh_gI1 (len := 3) (x := m.I 58 7) (pc2 := 5) rfl rfl hT.t58 rfl rfl rfl ?_
    exact kk
  obtain ⟨r1, e1, e⟩ := sh_bc_e e
  refine sh_Lk_cV (r := (some (.int r1))) (st2 := [.int r1]) (pc2 := 8) (k2 := 202) (a := 58) (as := [.ref 59, .int (m.I 58 7)]) (rest := []) rfl rfl rfl (fun hT => hT.t58) rfl rfl ⟨Nat.le_of_ble_eq_true rfl, Nat.le_of_ble_eq_true rfl⟩ (sl_202 e1 ⟨rfl, rfl⟩) rfl rfl (Nat.le_of_ble_eq_true rfl) (Nat.le_of_ble_eq_true rfl) ?_
  refine sh_Lk_lift (T := m.T) (I := m.I) (J := m.J) (s := m.s) (pc2 := 9) (lv2 := [(0, .ref 59), (1, .int x1)]) (st2 := [.int x1, .int r1]) (I2 := m.I) (J2 := m.J) (fun hT v kk => ?_) ?_
  · refine sh_w (i := (.iload_n 1)) (len := 1) (pc2 := 9) (lv2 := [(0, .ref 59), (1, .int x1)]) (st2 := [.int x1, .int r1]) (h2 := (sh_rep m.T m.I m.J)) rfl rfl rfl ?_
    exact kk
  rcases sh_ite e with ⟨c, e⟩ | ⟨c, e⟩
  · refine sh_Lk_lift (T := m.T) (I := m.I) (J := m.J) (s := m.s) (pc2 := 20) (lv2 := [(0, .ref 59), (1, .int x1)]) (st2 := []) (I2 := m.I) (J2 := m.J) (fun hT v kk => ?_) ?_
    · refine sh_jc (c := .eq) (off := (11)) (pc2 := 20) true rfl (sh_Beqt c) rfl ?_
      exact kk
    exact sh_Lk_sub (sh_sub_c rfl (sh_sub_n)) (sl_204_20 e tg)
  · refine sh_Lk_lift (T := m.T) (I := m.I) (J := m.J) (s := m.s) (pc2 := 17) (lv2 := [(0, .ref 59), (1, .int x1)]) (st2 := [.int (m.I 58 7), .ref 59]) (I2 := m.I) (J2 := m.J) (fun hT v kk => ?_) ?_
    · refine sh_jc (c := .eq) (off := (11)) (pc2 := 12) false rfl (sh_Beqf c) rfl ?_
      refine sh_w (i := (.aload_n 0)) (len := 1) (pc2 := 13) (lv2 := [(0, .ref 59), (1, .int x1)]) (st2 := [.ref 59]) (h2 := (sh_rep m.T m.I m.J)) rfl rfl rfl ?_
      refine sh_w (i := (.aload_n 0)) (len := 1) (pc2 := 14) (lv2 := [(0, .ref 59), (1, .int x1)]) (st2 := [.ref 59, .ref 59]) (h2 := (sh_rep m.T m.I m.J)) rfl rfl rfl ?_
      refine sh_gI1 (len := 3) (x := m.I 58 7) (pc2 := 17) rfl rfl hT.t58 rfl rfl rfl ?_
      exact kk
    rcases sh_bt_e e with ⟨m12, e2, rfl⟩ | ⟨r2, m12, e2, e⟩
    · obtain ⟨rfl, rfl⟩ := tg
      exact sh_Lk_tV (k2 := 203) (a := 58) (as := [.ref 59, .int (m.I 58 7)]) (rest := []) rfl rfl rfl (fun hT => hT.t58) rfl rfl ⟨Nat.le_of_ble_eq_true rfl, Nat.le_of_ble_eq_true rfl⟩ (sl_203 e2 ⟨rfl, rfl⟩) rfl (Nat.le_of_ble_eq_true rfl) (Nat.le_of_ble_eq_true rfl) (Nat.le_of_ble_eq_true rfl) (Nat.le_of_ble_eq_true rfl) rfl
    refine sh_Lk_cV (r := none) (st2 := []) (pc2 := 20) (k2 := 203) (a := 58) (as := [.ref 59, .int (m.I 58 7)]) (rest := []) rfl rfl rfl (fun hT => hT.t58) rfl rfl ⟨Nat.le_of_ble_eq_true rfl, Nat.le_of_ble_eq_true rfl⟩ (sl_203 e2 ⟨rfl, rfl⟩) rfl rfl (Nat.le_of_ble_eq_true rfl) (Nat.le_of_ble_eq_true rfl) ?_
    exact sh_Lk_sub (sh_sub_c rfl (sh_sub_n)) (sl_204_20 e tg)
theorem sl_207_2s {x1 : Nat} {x2 : Int32} {x3 : Int32} {m m2 : sh_X} {o : Outcome} {z : ((Int32 × sh_X) ⊕ (Unit × sh_X))} (hx1 : sh_isE x1) (e : sf_207_2s x1 x2 x3 m = some z) (tg : (sh_el (fun q => sh_Lk 207 2 [(1, .ref (x1 + 1)), (2, .int x2), (3, .int q.1)] [] q.2 o m2 9 221) (sh_tV o m2)) z) : sh_Lk 207 2 [(1, .ref (x1 + 1)), (2, .int x2), (3, .int x3)] [] m o m2 9 221 := by
  unfold sf_207_2s at e
  rcases hx1 with rfl | rfl | rfl
  · refine sh_Lk_lift (T := m.T) (I := m.I) (J := m.J) (s := m.s) (pc2 := 4) (lv2 := [(1, .ref 14), (2, .int x2), (3, .int x3)]) (st2 := [.int x2, .int x3]) (I2 := m.I) (J2 := m.J) (fun hT v kk => ?_) ?_
    · refine sh_w (i := (.iload_n 3)) (len := 1) (pc2 := 3) (lv2 := [(1, .ref 14), (2, .int x2), (3, .int x3)]) (st2 := [.int x3]) (h2 := (sh_rep m.T m.I m.J)) rfl rfl rfl ?_
      refine sh_w (i := (.iload_n 2)) (len := 1) (pc2 := 4) (lv2 := [(1, .ref 14), (2, .int x2), (3, .int x3)]) (st2 := [.int x2, .int x3]) (h2 := (sh_rep m.T m.I m.J)) rfl rfl rfl ?_
      exact kk
    rcases sh_ite e with ⟨c, e⟩ | ⟨c, e⟩
    · refine sh_Lk_lift (T := m.T) (I := m.I) (J := m.J) (s := m.s) (pc2 := 13) (lv2 := [(1, .ref 14), (2, .int x2), (3, .int x3)]) (st2 := [.int (x2 - x3), .int 64, .ref 14]) (I2 := m.I) (J2 := m.J) (fun hT v kk => ?_) ?_
      · refine sh_jc (c := .ge) (off := (21)) (pc2 := 7) false rfl (sh_Bgef c) rfl ?_
        refine sh_w (i := (.aload_n 1)) (len := 1) (pc2 := 8) (lv2 := [(1, .ref 14), (2, .int x2), (3, .int x3)]) (st2 := [.ref 14]) (h2 := (sh_rep m.T m.I m.J)) rfl rfl rfl ?_
        refine sh_w (i := (.bipush 64)) (len := 2) (pc2 := 10) (lv2 := [(1, .ref 14), (2, .int x2), (3, .int x3)]) (st2 := [.int 64, .ref 14]) (h2 := (sh_rep m.T m.I m.J)) rfl rfl rfl ?_
        refine sh_w (i := (.iload_n 2)) (len := 1) (pc2 := 11) (lv2 := [(1, .ref 14), (2, .int x2), (3, .int x3)]) (st2 := [.int x2, .int 64, .ref 14]) (h2 := (sh_rep m.T m.I m.J)) rfl rfl rfl ?_
        refine sh_w (i := (.iload_n 3)) (len := 1) (pc2 := 12) (lv2 := [(1, .ref 14), (2, .int x2), (3, .int x3)]) (st2 := [.int x3, .int x2, .int 64, .ref 14]) (h2 := (sh_rep m.T m.I m.J)) rfl rfl rfl ?_
        refine sh_w (i := .isub) (len := 1) (pc2 := 13) (lv2 := [(1, .ref 14), (2, .int x2), (3, .int x3)]) (st2 := [.int (x2 - x3), .int 64, .ref 14]) (h2 := (sh_rep m.T m.I m.J)) rfl rfl rfl ?_
        exact kk
      refine sh_Lk_cS (r := (some (.int (sf_21 64 (x2 - x3))))) (st2 := [.int (sf_21 64 (x2 - x3)), .ref 14]) (pc2 := 16) (k2 := 21) (as := [.int 64, .int (x2 - x3)]) (rest := [.ref 14]) rfl rfl (by decide) (Nat.le_of_ble_eq_true rfl) rfl rfl ⟨Nat.le_of_ble_eq_true rfl, Nat.le_of_ble_eq_true rfl⟩ (sl_21 (m := m) rfl ⟨rfl, rfl⟩) rfl rfl (Nat.le_of_ble_eq_true rfl) (Nat.le_of_ble_eq_true rfl) ?_
      obtain ⟨r2, m12, e2, e⟩ := sh_bn_e e
      refine sh_Lk_cV (r := none) (st2 := []) (pc2 := 19) (k2 := 102) (a := 13) (as := [.ref 14, .int (sf_21 64 (x2 - x3))]) (rest := []) rfl rfl rfl (fun hT => (sh_s13 hT.st)) rfl rfl ⟨Nat.le_of_ble_eq_true rfl, Nat.le_of_ble_eq_true rfl⟩ (sl_102 (by decide) e2 ⟨rfl, rfl⟩) rfl rfl (Nat.le_of_ble_eq_true rfl) (Nat.le_of_ble_eq_true rfl) ?_
      refine sh_Lk_lift (T := m12.T) (I := m12.I) (J := m12.J) (s := m12.s) (pc2 := 2) (lv2 := [(3, .int (x3 + 64)), (1, .ref 14), (2, .int x2)]) (st2 := []) (I2 := m12.I) (J2 := m12.J) (fun hT v kk => ?_) ?_
      · refine sh_w (i := (.iinc 3 64)) (len := 3) (pc2 := 22) (lv2 := [(3, .int (x3 + 64)), (1, .ref 14), (2, .int x2)]) (st2 := []) (h2 := (sh_rep m12.T m12.I m12.J)) rfl rfl rfl ?_
        refine sh_w (i := (.goto (-20))) (len := 3) (pc2 := 2) (lv2 := [(3, .int (x3 + 64)), (1, .ref 14), (2, .int x2)]) (st2 := []) (h2 := (sh_rep m12.T m12.I m12.J)) rfl rfl rfl ?_
        exact kk
      obtain rfl := Option.some.inj e
      exact sh_Lk_sub (sh_sub_c rfl (sh_sub_c rfl (sh_sub_c rfl (sh_sub_n)))) tg
    · refine sh_Lk_lift (T := m.T) (I := m.I) (J := m.J) (s := m.s) (pc2 := 25) (lv2 := [(1, .ref 14), (2, .int x2), (3, .int x3)]) (st2 := []) (I2 := m.I) (J2 := m.J) (fun hT v kk => ?_) ?_
      · refine sh_jc (c := .ge) (off := (21)) (pc2 := 25) true rfl (sh_Bget c) rfl ?_
        exact kk
      obtain rfl := Option.some.inj e
      obtain ⟨rfl, rfl⟩ := tg
      exact sh_Lk_ret (i := .return_) rfl rfl rfl (Nat.le_of_ble_eq_true rfl) (Nat.le_of_ble_eq_true rfl)
  · refine sh_Lk_lift (T := m.T) (I := m.I) (J := m.J) (s := m.s) (pc2 := 4) (lv2 := [(1, .ref 19), (2, .int x2), (3, .int x3)]) (st2 := [.int x2, .int x3]) (I2 := m.I) (J2 := m.J) (fun hT v kk => ?_) ?_
    · refine sh_w (i := (.iload_n 3)) (len := 1) (pc2 := 3) (lv2 := [(1, .ref 19), (2, .int x2), (3, .int x3)]) (st2 := [.int x3]) (h2 := (sh_rep m.T m.I m.J)) rfl rfl rfl ?_
      refine sh_w (i := (.iload_n 2)) (len := 1) (pc2 := 4) (lv2 := [(1, .ref 19), (2, .int x2), (3, .int x3)]) (st2 := [.int x2, .int x3]) (h2 := (sh_rep m.T m.I m.J)) rfl rfl rfl ?_
      exact kk
    rcases sh_ite e with ⟨c, e⟩ | ⟨c, e⟩
    · refine sh_Lk_lift (T := m.T) (I := m.I) (J := m.J) (s := m.s) (pc2 := 13) (lv2 := [(1, .ref 19), (2, .int x2), (3, .int x3)]) (st2 := [.int (x2 - x3), .int 64, .ref 19]) (I2 := m.I) (J2 := m.J) (fun hT v kk => ?_) ?_
      · refine sh_jc (c := .ge) (off := (21)) (pc2 := 7) false rfl (sh_Bgef c) rfl ?_
        refine sh_w (i := (.aload_n 1)) (len := 1) (pc2 := 8) (lv2 := [(1, .ref 19), (2, .int x2), (3, .int x3)]) (st2 := [.ref 19]) (h2 := (sh_rep m.T m.I m.J)) rfl rfl rfl ?_
        refine sh_w (i := (.bipush 64)) (len := 2) (pc2 := 10) (lv2 := [(1, .ref 19), (2, .int x2), (3, .int x3)]) (st2 := [.int 64, .ref 19]) (h2 := (sh_rep m.T m.I m.J)) rfl rfl rfl ?_
        refine sh_w (i := (.iload_n 2)) (len := 1) (pc2 := 11) (lv2 := [(1, .ref 19), (2, .int x2), (3, .int x3)]) (st2 := [.int x2, .int 64, .ref 19]) (h2 := (sh_rep m.T m.I m.J)) rfl rfl rfl ?_
        refine sh_w (i := (.iload_n 3)) (len := 1) (pc2 := 12) (lv2 := [(1, .ref 19), (2, .int x2), (3, .int x3)]) (st2 := [.int x3, .int x2, .int 64, .ref 19]) (h2 := (sh_rep m.T m.I m.J)) rfl rfl rfl ?_
        refine sh_w (i := .isub) (len := 1) (pc2 := 13) (lv2 := [(1, .ref 19), (2, .int x2), (3, .int x3)]) (st2 := [.int (x2 - x3), .int 64, .ref 19]) (h2 := (sh_rep m.T m.I m.J)) rfl rfl rfl ?_
        exact kk
      refine sh_Lk_cS (r := (some (.int (sf_21 64 (x2 - x3))))) (st2 := [.int (sf_21 64 (x2 - x3)), .ref 19]) (pc2 := 16) (k2 := 21) (as := [.int 64, .int (x2 - x3)]) (rest := [.ref 19]) rfl rfl (by decide) (Nat.le_of_ble_eq_true rfl) rfl rfl ⟨Nat.le_of_ble_eq_true rfl, Nat.le_of_ble_eq_true rfl⟩ (sl_21 (m := m) rfl ⟨rfl, rfl⟩) rfl rfl (Nat.le_of_ble_eq_true rfl) (Nat.le_of_ble_eq_true rfl) ?_
      obtain ⟨r2, m12, e2, e⟩ := sh_bn_e e
      refine sh_Lk_cV (r := none) (st2 := []) (pc2 := 19) (k2 := 102) (a := 18) (as := [.ref 19, .int (sf_21 64 (x2 - x3))]) (rest := []) rfl rfl rfl (fun hT => (sh_s18 hT.st)) rfl rfl ⟨Nat.le_of_ble_eq_true rfl, Nat.le_of_ble_eq_true rfl⟩ (sl_102 (by decide) e2 ⟨rfl, rfl⟩) rfl rfl (Nat.le_of_ble_eq_true rfl) (Nat.le_of_ble_eq_true rfl) ?_
      refine sh_Lk_lift (T := m12.T) (I := m12.I) (J := m12.J) (s := m12.s) (pc2 := 2) (lv2 := [(3, .int (x3 + 64)), (1, .ref 19), (2, .int x2)]) (st2 := []) (I2 := m12.I) (J2 := m12.J) (fun hT v kk => ?_) ?_
      · refine sh_w (i := (.iinc 3 64)) (len := 3) (pc2 := 22) (lv2 := [(3, .int (x3 + 64)), (1, .ref 19), (2, .int x2)]) (st2 := []) (h2 := (sh_rep m12.T m12.I m12.J)) rfl rfl rfl ?_
        refine sh_w (i := (.goto (-20))) (len := 3) (pc2 := 2) (lv2 := [(3, .int (x3 + 64)), (1, .ref 19), (2, .int x2)]) (st2 := []) (h2 := (sh_rep m12.T m12.I m12.J)) rfl rfl rfl ?_
        exact kk
      obtain rfl := Option.some.inj e
      exact sh_Lk_sub (sh_sub_c rfl (sh_sub_c rfl (sh_sub_c rfl (sh_sub_n)))) tg
    · refine sh_Lk_lift (T := m.T) (I := m.I) (J := m.J) (s := m.s) (pc2 := 25) (lv2 := [(1, .ref 19), (2, .int x2), (3, .int x3)]) (st2 := []) (I2 := m.I) (J2 := m.J) (fun hT v kk => ?_) ?_
      · refine sh_jc (c := .ge) (off := (21)) (pc2 := 25) true rfl (sh_Bget c) rfl ?_
        exact kk
      obtain rfl := Option.some.inj e
      obtain ⟨rfl, rfl⟩ := tg
      exact sh_Lk_ret (i := .return_) rfl rfl rfl (Nat.le_of_ble_eq_true rfl) (Nat.le_of_ble_eq_true rfl)
  · refine sh_Lk_lift (T := m.T) (I := m.I) (J := m.J) (s := m.s) (pc2 := 4) (lv2 := [(1, .ref 24), (2, .int x2), (3, .int x3)]) (st2 := [.int x2, .int x3]) (I2 := m.I) (J2 := m.J) (fun hT v kk => ?_) ?_
    · refine sh_w (i := (.iload_n 3)) (len := 1) (pc2 := 3) (lv2 := [(1, .ref 24), (2, .int x2), (3, .int x3)]) (st2 := [.int x3]) (h2 := (sh_rep m.T m.I m.J)) rfl rfl rfl ?_
      refine sh_w (i := (.iload_n 2)) (len := 1) (pc2 := 4) (lv2 := [(1, .ref 24), (2, .int x2), (3, .int x3)]) (st2 := [.int x2, .int x3]) (h2 := (sh_rep m.T m.I m.J)) rfl rfl rfl ?_
      exact kk
    rcases sh_ite e with ⟨c, e⟩ | ⟨c, e⟩
    · refine sh_Lk_lift (T := m.T) (I := m.I) (J := m.J) (s := m.s) (pc2 := 13) (lv2 := [(1, .ref 24), (2, .int x2), (3, .int x3)]) (st2 := [.int (x2 - x3), .int 64, .ref 24]) (I2 := m.I) (J2 := m.J) (fun hT v kk => ?_) ?_
      · refine sh_jc (c := .ge) (off := (21)) (pc2 := 7) false rfl (sh_Bgef c) rfl ?_
        refine sh_w (i := (.aload_n 1)) (len := 1) (pc2 := 8) (lv2 := [(1, .ref 24), (2, .int x2), (3, .int x3)]) (st2 := [.ref 24]) (h2 := (sh_rep m.T m.I m.J)) rfl rfl rfl ?_
        refine sh_w (i := (.bipush 64)) (len := 2) (pc2 := 10) (lv2 := [(1, .ref 24), (2, .int x2), (3, .int x3)]) (st2 := [.int 64, .ref 24]) (h2 := (sh_rep m.T m.I m.J)) rfl rfl rfl ?_
        refine sh_w (i := (.iload_n 2)) (len := 1) (pc2 := 11) (lv2 := [(1, .ref 24), (2, .int x2), (3, .int x3)]) (st2 := [.int x2, .int 64, .ref 24]) (h2 := (sh_rep m.T m.I m.J)) rfl rfl rfl ?_
        refine sh_w (i := (.iload_n 3)) (len := 1) (pc2 := 12) (lv2 := [(1, .ref 24), (2, .int x2), (3, .int x3)]) (st2 := [.int x3, .int x2, .int 64, .ref 24]) (h2 := (sh_rep m.T m.I m.J)) rfl rfl rfl ?_
        refine sh_w (i := .isub) (len := 1) (pc2 := 13) (lv2 := [(1, .ref 24), (2, .int x2), (3, .int x3)]) (st2 := [.int (x2 - x3), .int 64, .ref 24]) (h2 := (sh_rep m.T m.I m.J)) rfl rfl rfl ?_
        exact kk
      refine sh_Lk_cS (r := (some (.int (sf_21 64 (x2 - x3))))) (st2 := [.int (sf_21 64 (x2 - x3)), .ref 24]) (pc2 := 16) (k2 := 21) (as := [.int 64, .int (x2 - x3)]) (rest := [.ref 24]) rfl rfl (by decide) (Nat.le_of_ble_eq_true rfl) rfl rfl ⟨Nat.le_of_ble_eq_true rfl, Nat.le_of_ble_eq_true rfl⟩ (sl_21 (m := m) rfl ⟨rfl, rfl⟩) rfl rfl (Nat.le_of_ble_eq_true rfl) (Nat.le_of_ble_eq_true rfl) ?_
      obtain ⟨r2, m12, e2, e⟩ := sh_bn_e e
      refine sh_Lk_cV (r := none) (st2 := []) (pc2 := 19) (k2 := 102) (a := 23) (as := [.ref 24, .int (sf_21 64 (x2 - x3))]) (rest := []) rfl rfl rfl (fun hT => (sh_s23 hT.st)) rfl rfl ⟨Nat.le_of_ble_eq_true rfl, Nat.le_of_ble_eq_true rfl⟩ (sl_102 (by decide) e2 ⟨rfl, rfl⟩) rfl rfl (Nat.le_of_ble_eq_true rfl) (Nat.le_of_ble_eq_true rfl) ?_
      refine sh_Lk_lift (T := m12.T) (I := m12.I) (J := m12.J) (s := m12.s) (pc2 := 2) (lv2 := [(3, .int (x3 + 64)), (1, .ref 24), (2, .int x2)]) (st2 := []) (I2 := m12.I) (J2 := m12.J) (fun hT v kk => ?_) ?_
      · refine sh_w (i := (.iinc 3 64)) (len := 3) (pc2 := 22) (lv2 := [(3, .int (x3 + 64)), (1, .ref 24), (2, .int x2)]) (st2 := []) (h2 := (sh_rep m12.T m12.I m12.J)) rfl rfl rfl ?_
        refine sh_w (i := (.goto (-20))) (len := 3) (pc2 := 2) (lv2 := [(3, .int (x3 + 64)), (1, .ref 24), (2, .int x2)]) (st2 := []) (h2 := (sh_rep m12.T m12.I m12.J)) rfl rfl rfl ?_
        exact kk
      obtain rfl := Option.some.inj e
      exact sh_Lk_sub (sh_sub_c rfl (sh_sub_c rfl (sh_sub_c rfl (sh_sub_n)))) tg
    · refine sh_Lk_lift (T := m.T) (I := m.I) (J := m.J) (s := m.s) (pc2 := 25) (lv2 := [(1, .ref 24), (2, .int x2), (3, .int x3)]) (st2 := []) (I2 := m.I) (J2 := m.J) (fun hT v kk => ?_) ?_
      · refine sh_jc (c := .ge) (off := (21)) (pc2 := 25) true rfl (sh_Bget c) rfl ?_
        exact kk
      obtain rfl := Option.some.inj e
      obtain ⟨rfl, rfl⟩ := tg
      exact sh_Lk_ret (i := .return_) rfl rfl rfl (Nat.le_of_ble_eq_true rfl) (Nat.le_of_ble_eq_true rfl)
theorem sl_207_2 {x1 : Nat} {x2 : Int32} {x3 : Int32} {m m2 : sh_X} {o : Outcome} {z : (Unit × sh_X)} (hx1 : sh_isE x1) (e : sf_207_2 x1 x2 x3 m = some z) (tg : (sh_tV o m2) z) : sh_Lk 207 2 [(1, .ref (x1 + 1)), (2, .int x2), (3, .int x3)] [] m o m2 9 221 := by
  unfold sf_207_2 at e
  exact sh_while_lk (P := fun q => sh_Lk 207 2 [(1, .ref (x1 + 1)), (2, .int x2), (3, .int q.1)] [] q.2 o m2 9 221) (Q := (sh_tV o m2)) (fun q z e tg => sl_207_2s (x1 := x1) (x2 := x2) (x3 := q.1) (m := q.2) hx1 e tg) (s := (x3, m)) e tg
theorem sl_207 {x1 : Nat} {x2 : Int32} {m m2 : sh_X} {o : Outcome} {z : (Unit × sh_X)} (hx1 : sh_isE x1) (e : sf_207 x1 x2 m = some z) (tg : (sh_tV o m2) z) : sh_Lk 207 0 [(0, .ref 59), (1, .ref (x1 + 1)), (2, .int x2)] [] m o m2 9 221 := by
  unfold sf_207 at e
  rcases hx1 with rfl | rfl | rfl
  · refine sh_Lk_lift (T := m.T) (I := m.I) (J := m.J) (s := m.s) (pc2 := 2) (lv2 := [(3, .int 0), (0, .ref 59), (1, .ref 14), (2, .int x2)]) (st2 := []) (I2 := m.I) (J2 := m.J) (fun hT v kk => ?_) ?_
    · refine sh_w (i := (.iconst 0)) (len := 1) (pc2 := 1) (lv2 := [(0, .ref 59), (1, .ref 14), (2, .int x2)]) (st2 := [.int 0]) (h2 := (sh_rep m.T m.I m.J)) rfl rfl rfl ?_
      refine sh_w (i := (.istore_n 3)) (len := 1) (pc2 := 2) (lv2 := [(3, .int 0), (0, .ref 59), (1, .ref 14), (2, .int x2)]) (st2 := []) (h2 := (sh_rep m.T m.I m.J)) rfl rfl rfl ?_
      exact kk
    exact sh_Lk_sub (sh_sub_c rfl (sh_sub_c rfl (sh_sub_c rfl (sh_sub_n)))) (sl_207_2 (by decide) e tg)
  · refine sh_Lk_lift (T := m.T) (I := m.I) (J := m.J) (s := m.s) (pc2 := 2) (lv2 := [(3, .int 0), (0, .ref 59), (1, .ref 19), (2, .int x2)]) (st2 := []) (I2 := m.I) (J2 := m.J) (fun hT v kk => ?_) ?_
    · refine sh_w (i := (.iconst 0)) (len := 1) (pc2 := 1) (lv2 := [(0, .ref 59), (1, .ref 19), (2, .int x2)]) (st2 := [.int 0]) (h2 := (sh_rep m.T m.I m.J)) rfl rfl rfl ?_
      refine sh_w (i := (.istore_n 3)) (len := 1) (pc2 := 2) (lv2 := [(3, .int 0), (0, .ref 59), (1, .ref 19), (2, .int x2)]) (st2 := []) (h2 := (sh_rep m.T m.I m.J)) rfl rfl rfl ?_
      exact kk
    exact sh_Lk_sub (sh_sub_c rfl (sh_sub_c rfl (sh_sub_c rfl (sh_sub_n)))) (sl_207_2 (by decide) e tg)
  · refine sh_Lk_lift (T := m.T) (I := m.I) (J := m.J) (s := m.s) (pc2 := 2) (lv2 := [(3, .int 0), (0, .ref 59), (1, .ref 24), (2, .int x2)]) (st2 := []) (I2 := m.I) (J2 := m.J) (fun hT v kk => ?_) ?_
    · refine sh_w (i := (.iconst 0)) (len := 1) (pc2 := 1) (lv2 := [(0, .ref 59), (1, .ref 24), (2, .int x2)]) (st2 := [.int 0]) (h2 := (sh_rep m.T m.I m.J)) rfl rfl rfl ?_
      refine sh_w (i := (.istore_n 3)) (len := 1) (pc2 := 2) (lv2 := [(3, .int 0), (0, .ref 59), (1, .ref 24), (2, .int x2)]) (st2 := []) (h2 := (sh_rep m.T m.I m.J)) rfl rfl rfl ?_
      exact kk
    exact sh_Lk_sub (sh_sub_c rfl (sh_sub_c rfl (sh_sub_c rfl (sh_sub_n)))) (sl_207_2 (by decide) e tg)
theorem sl_206_9s {x1 : Nat} {x2 : Int32} {x3 : Int32} {x4 : Int32} {m m2 : sh_X} {o : Outcome} {z : ((Int32 × sh_X) ⊕ (Unit × sh_X))} (hx1 : sh_isE x1) (e : sf_206_9s x1 x2 x3 x4 m = some z) (tg : (sh_el (fun q => sh_Lk 206 9 [(0, .ref 59), (1, .ref (x1 + 1)), (2, .int x2), (3, .int x3), (4, .int q.1)] [] q.2 o m2 12 286) (sh_tV o m2)) z) : sh_Lk 206 9 [(0, .ref 59), (1, .ref (x1 + 1)), (2, .int x2), (3, .int x3), (4, .int x4)] [] m o m2 12 286 := by
  unfold sf_206_9s at e
  rcases hx1 with rfl | rfl | rfl
  · refine sh_Lk_lift (T := m.T) (I := m.I) (J := m.J) (s := m.s) (pc2 := 14) (lv2 := [(0, .ref 59), (1, .ref 14), (2, .int x2), (3, .int x3), (4, .int x4)]) (st2 := [.int (x2 + x3), .int x4]) (I2 := m.I) (J2 := m.J) (fun hT v kk => ?_) ?_
    · refine sh_w (i := (.iload 4)) (len := 2) (pc2 := 11) (lv2 := [(0, .ref 59), (1, .ref 14), (2, .int x2), (3, .int x3), (4, .int x4)]) (st2 := [.int x4]) (h2 := (sh_rep m.T m.I m.J)) rfl rfl rfl ?_
      refine sh_w (i := (.iload_n 2)) (len := 1) (pc2 := 12) (lv2 := [(0, .ref 59), (1, .ref 14), (2, .int x2), (3, .int x3), (4, .int x4)]) (st2 := [.int x2, .int x4]) (h2 := (sh_rep m.T m.I m.J)) rfl rfl rfl ?_
      refine sh_w (i := (.iload_n 3)) (len := 1) (pc2 := 13) (lv2 := [(0, .ref 59), (1, .ref 14), (2, .int x2), (3, .int x3), (4, .int x4)]) (st2 := [.int x3, .int x2, .int x4]) (h2 := (sh_rep m.T m.I m.J)) rfl rfl rfl ?_
      refine sh_w (i := .iadd) (len := 1) (pc2 := 14) (lv2 := [(0, .ref 59), (1, .ref 14), (2, .int x2), (3, .int x3), (4, .int x4)]) (st2 := [.int (x2 + x3), .int x4]) (h2 := (sh_rep m.T m.I m.J)) rfl rfl rfl ?_
      exact kk
    rcases sh_ite e with ⟨c, e⟩ | ⟨c, e⟩
    · refine sh_Lk_lift (T := m.T) (I := m.I) (J := m.J) (s := m.s) (pc2 := 22) (lv2 := [(0, .ref 59), (1, .ref 14), (2, .int x2), (3, .int x3), (4, .int x4)]) (st2 := [.int 4000, .int x4]) (I2 := m.I) (J2 := m.J) (fun hT v kk => ?_) ?_
      · refine sh_jc (c := .ge) (off := (42)) (pc2 := 17) false rfl (sh_Bgef c) rfl ?_
        refine sh_w (i := (.iload 4)) (len := 2) (pc2 := 19) (lv2 := [(0, .ref 59), (1, .ref 14), (2, .int x2), (3, .int x3), (4, .int x4)]) (st2 := [.int x4]) (h2 := (sh_rep m.T m.I m.J)) rfl rfl rfl ?_
        refine sh_w (i := (.sipush 4000)) (len := 3) (pc2 := 22) (lv2 := [(0, .ref 59), (1, .ref 14), (2, .int x2), (3, .int x3), (4, .int x4)]) (st2 := [.int 4000, .int x4]) (h2 := (sh_rep m.T m.I m.J)) rfl rfl rfl ?_
        exact kk
      rcases sh_ite e with ⟨c, e⟩ | ⟨c, e⟩
      · refine sh_Lk_lift (T := m.T) (I := m.I) (J := m.J) (s := m.s) (pc2 := 35) (lv2 := [(0, .ref 59), (1, .ref 14), (2, .int x2), (3, .int x3), (4, .int x4)]) (st2 := [.ref 10, .int x4, .ref 60]) (I2 := m.I) (J2 := m.J) (fun hT v kk => ?_) ?_
        · refine sh_jc (c := .ge) (off := (34)) (pc2 := 25) false rfl (sh_Bgef c) rfl ?_
          refine sh_w (i := (.aload_n 0)) (len := 1) (pc2 := 26) (lv2 := [(0, .ref 59), (1, .ref 14), (2, .int x2), (3, .int x3), (4, .int x4)]) (st2 := [.ref 59]) (h2 := (sh_rep m.T m.I m.J)) rfl rfl rfl ?_
          refine sh_gR1 (len := 3) (x := .ref 60) (pc2 := 29) rfl rfl hT.t58 rfl rfl ?_
          refine sh_w (i := (.iload 4)) (len := 2) (pc2 := 31) (lv2 := [(0, .ref 59), (1, .ref 14), (2, .int x2), (3, .int x3), (4, .int x4)]) (st2 := [.int x4, .ref 60]) (h2 := (sh_rep m.T m.I m.J)) rfl rfl rfl ?_
          refine sh_w (i := (.aload_n 0)) (len := 1) (pc2 := 32) (lv2 := [(0, .ref 59), (1, .ref 14), (2, .int x2), (3, .int x3), (4, .int x4)]) (st2 := [.ref 59, .int x4, .ref 60]) (h2 := (sh_rep m.T m.I m.J)) rfl rfl rfl ?_
          refine sh_gR1 (len := 3) (x := .ref 10) (pc2 := 35) rfl rfl hT.t58 rfl rfl ?_
          exact kk
        obtain ⟨r1, m11, e1, e⟩ := sh_bn_e e
        refine sh_Lk_cV (r := (some (.int r1))) (st2 := [.int r1, .int x4, .ref 60]) (pc2 := 38) (k2 := 99) (a := 9) (as := [.ref 10]) (rest := [.int x4, .ref 60]) rfl rfl rfl (fun hT => hT.t9) rfl rfl ⟨Nat.le_of_ble_eq_true rfl, Nat.le_of_ble_eq_true rfl⟩ (sl_99 e1 ⟨rfl, rfl⟩) rfl rfl (Nat.le_of_ble_eq_true rfl) (Nat.le_of_ble_eq_true rfl) ?_
        obtain ⟨c, e⟩ := sh_gd e
        refine sh_Lk_lift (T := m11.T) (I := m11.I) (J := m11.J) (s := m11.s) (pc2 := 46) (lv2 := [(0, .ref 59), (1, .ref 14), (2, .int x2), (3, .int x3), (4, .int x4)]) (st2 := [.int x4, .ref 60, .ref 14]) (I2 := sh_u2 m11.I 59 (Int32.toNatClampNeg x4) r1) (J2 := m11.J) (fun hT v kk => ?_) ?_
        · refine sh_is1 (x := r1) (i := x4) (pc2 := 39) rfl (sh_s59 hT.st) (sh_okb1 c) (sh_okb2 c) rfl ?_
          refine sh_w (i := (.aload_n 1)) (len := 1) (pc2 := 40) (lv2 := [(0, .ref 59), (1, .ref 14), (2, .int x2), (3, .int x3), (4, .int x4)]) (st2 := [.ref 14]) (h2 := (sh_rep m11.T (sh_u2 m11.I 59 (Int32.toNatClampNeg x4) r1) m11.J)) rfl rfl rfl ?_
          refine sh_w (i := (.aload_n 0)) (len := 1) (pc2 := 41) (lv2 := [(0, .ref 59), (1, .ref 14), (2, .int x2), (3, .int x3), (4, .int x4)]) (st2 := [.ref 59, .ref 14]) (h2 := (sh_rep m11.T (sh_u2 m11.I 59 (Int32.toNatClampNeg x4) r1) m11.J)) rfl rfl rfl ?_
          refine sh_gR1 (len := 3) (x := .ref 60) (pc2 := 44) rfl rfl hT.t58 rfl rfl ?_
          refine sh_w (i := (.iload 4)) (len := 2) (pc2 := 46) (lv2 := [(0, .ref 59), (1, .ref 14), (2, .int x2), (3, .int x3), (4, .int x4)]) (st2 := [.int x4, .ref 60, .ref 14]) (h2 := (sh_rep m11.T (sh_u2 m11.I 59 (Int32.toNatClampNeg x4) r1) m11.J)) rfl rfl rfl ?_
          exact kk
        obtain ⟨c, e⟩ := sh_gd e
        refine sh_Lk_lift (T := m11.T) (I := sh_u2 m11.I 59 (Int32.toNatClampNeg x4) r1) (J := m11.J) (s := m11.s) (pc2 := 47) (lv2 := [(0, .ref 59), (1, .ref 14), (2, .int x2), (3, .int x3), (4, .int x4)]) (st2 := [.int ((sh_u2 m11.I 59 (Int32.toNatClampNeg x4) r1) 59 (Int32.toNatClampNeg x4)), .ref 14]) (I2 := sh_u2 m11.I 59 (Int32.toNatClampNeg x4) r1) (J2 := m11.J) (fun hT v kk => ?_) ?_
        · refine sh_ia1 (x := (sh_u2 m11.I 59 (Int32.toNatClampNeg x4) r1) 59 (Int32.toNatClampNeg x4)) (pc2 := 47) rfl (sh_s59 hT.st) (sh_okb1 c) (sh_okb2 c) rfl rfl ?_
          exact kk
        obtain ⟨r2, m12, e2, e⟩ := sh_bn_e e
        refine sh_Lk_cV (r := none) (st2 := []) (pc2 := 50) (k2 := 104) (a := 13) (as := [.ref 14, .int ((sh_u2 m11.I 59 (Int32.toNatClampNeg x4) r1) 59 (Int32.toNatClampNeg x4))]) (rest := []) rfl rfl rfl (fun hT => (sh_s13 hT.st)) rfl rfl ⟨Nat.le_of_ble_eq_true rfl, Nat.le_of_ble_eq_true rfl⟩ (sl_104 (by decide) e2 ⟨rfl, rfl⟩) rfl rfl (Nat.le_of_ble_eq_true rfl) (Nat.le_of_ble_eq_true rfl) ?_
        refine sh_Lk_lift (T := m12.T) (I := m12.I) (J := m12.J) (s := m12.s) (pc2 := 9) (lv2 := [(4, .int (x4 + 1)), (0, .ref 59), (1, .ref 14), (2, .int x2), (3, .int x3)]) (st2 := []) (I2 := m12.I) (J2 := m12.J) (fun hT v kk => ?_) ?_
        · refine sh_w (i := (.iinc 4 1)) (len := 3) (pc2 := 53) (lv2 := [(4, .int (x4 + 1)), (0, .ref 59), (1, .ref 14), (2, .int x2), (3, .int x3)]) (st2 := []) (h2 := (sh_rep m12.T m12.I m12.J)) rfl rfl rfl ?_
          refine sh_w (i := (.goto (-44))) (len := 3) (pc2 := 9) (lv2 := [(4, .int (x4 + 1)), (0, .ref 59), (1, .ref 14), (2, .int x2), (3, .int x3)]) (st2 := []) (h2 := (sh_rep m12.T m12.I m12.J)) rfl rfl rfl ?_
          exact kk
        obtain rfl := Option.some.inj e
        exact sh_Lk_sub (sh_sub_c rfl (sh_sub_c rfl (sh_sub_c rfl (sh_sub_c rfl (sh_sub_c rfl (sh_sub_n)))))) tg
      · refine sh_Lk_lift (T := m.T) (I := m.I) (J := m.J) (s := m.s) (pc2 := 56) (lv2 := [(0, .ref 59), (1, .ref 14), (2, .int x2), (3, .int x3), (4, .int x4)]) (st2 := []) (I2 := m.I) (J2 := m.J) (fun hT v kk => ?_) ?_
        · refine sh_jc (c := .ge) (off := (34)) (pc2 := 56) true rfl (sh_Bget c) rfl ?_
          exact kk
        obtain rfl := Option.some.inj e
        obtain ⟨rfl, rfl⟩ := tg
        exact sh_Lk_ret (i := .return_) rfl rfl rfl (Nat.le_of_ble_eq_true rfl) (Nat.le_of_ble_eq_true rfl)
    · refine sh_Lk_lift (T := m.T) (I := m.I) (J := m.J) (s := m.s) (pc2 := 56) (lv2 := [(0, .ref 59), (1, .ref 14), (2, .int x2), (3, .int x3), (4, .int x4)]) (st2 := []) (I2 := m.I) (J2 := m.J) (fun hT v kk => ?_) ?_
      · refine sh_jc (c := .ge) (off := (42)) (pc2 := 56) true rfl (sh_Bget c) rfl ?_
        exact kk
      obtain rfl := Option.some.inj e
      obtain ⟨rfl, rfl⟩ := tg
      exact sh_Lk_ret (i := .return_) rfl rfl rfl (Nat.le_of_ble_eq_true rfl) (Nat.le_of_ble_eq_true rfl)
  · refine sh_Lk_lift (T := m.T) (I := m.I) (J := m.J) (s := m.s) (pc2 := 14) (lv2 := [(0, .ref 59), (1, .ref 19), (2, .int x2), (3, .int x3), (4, .int x4)]) (st2 := [.int (x2 + x3), .int x4]) (I2 := m.I) (J2 := m.J) (fun hT v kk => ?_) ?_
    · refine sh_w (i := (.iload 4)) (len := 2) (pc2 := 11) (lv2 := [(0, .ref 59), (1, .ref 19), (2, .int x2), (3, .int x3), (4, .int x4)]) (st2 := [.int x4]) (h2 := (sh_rep m.T m.I m.J)) rfl rfl rfl ?_
      refine sh_w (i := (.iload_n 2)) (len := 1) (pc2 := 12) (lv2 := [(0, .ref 59), (1, .ref 19), (2, .int x2), (3, .int x3), (4, .int x4)]) (st2 := [.int x2, .int x4]) (h2 := (sh_rep m.T m.I m.J)) rfl rfl rfl ?_
      refine sh_w (i := (.iload_n 3)) (len := 1) (pc2 := 13) (lv2 := [(0, .ref 59), (1, .ref 19), (2, .int x2), (3, .int x3), (4, .int x4)]) (st2 := [.int x3, .int x2, .int x4]) (h2 := (sh_rep m.T m.I m.J)) rfl rfl rfl ?_
      refine sh_w (i := .iadd) (len := 1) (pc2 := 14) (lv2 := [(0, .ref 59), (1, .ref 19), (2, .int x2), (3, .int x3), (4, .int x4)]) (st2 := [.int (x2 + x3), .int x4]) (h2 := (sh_rep m.T m.I m.J)) rfl rfl rfl ?_
      exact kk
    rcases sh_ite e with ⟨c, e⟩ | ⟨c, e⟩
    · refine sh_Lk_lift (T := m.T) (I := m.I) (J := m.J) (s := m.s) (pc2 := 22) (lv2 := [(0, .ref 59), (1, .ref 19), (2, .int x2), (3, .int x3), (4, .int x4)]) (st2 := [.int 4000, .int x4]) (I2 := m.I) (J2 := m.J) (fun hT v kk => ?_) ?_
      · refine sh_jc (c := .ge) (off := (42)) (pc2 := 17) false rfl (sh_Bgef c) rfl ?_
        refine sh_w (i := (.iload 4)) (len := 2) (pc2 := 19) (lv2 := [(0, .ref 59), (1, .ref 19), (2, .int x2), (3, .int x3), (4, .int x4)]) (st2 := [.int x4]) (h2 := (sh_rep m.T m.I m.J)) rfl rfl rfl ?_
        refine sh_w (i := (.sipush 4000)) (len := 3) (pc2 := 22) (lv2 := [(0, .ref 59), (1, .ref 19), (2, .int x2), (3, .int x3), (4, .int x4)]) (st2 := [.int 4000, .int x4]) (h2 := (sh_rep m.T m.I m.J)) rfl rfl rfl ?_
        exact kk
      rcases sh_ite e with ⟨c, e⟩ | ⟨c, e⟩
      · refine sh_Lk_lift (T := m.T) (I := m.I) (J := m.J) (s := m.s) (pc2 := 35) (lv2 := [(0, .ref 59), (1, .ref 19), (2, .int x2), (3, .int x3), (4, .int x4)]) (st2 := [.ref 10, .int x4, .ref 60]) (I2 := m.I) (J2 := m.J) (fun hT v kk => ?_) ?_
        · refine sh_jc (c := .ge) (off := (34)) (pc2 := 25) false rfl (sh_Bgef c) rfl ?_
          refine sh_w (i := (.aload_n 0)) (len := 1) (pc2 := 26) (lv2 := [(0, .ref 59), (1, .ref 19), (2, .int x2), (3, .int x3), (4, .int x4)]) (st2 := [.ref 59]) (h2 := (sh_rep m.T m.I m.J)) rfl rfl rfl ?_
          refine sh_gR1 (len := 3) (x := .ref 60) (pc2 := 29) rfl rfl hT.t58 rfl rfl ?_
          refine sh_w (i := (.iload 4)) (len := 2) (pc2 := 31) (lv2 := [(0, .ref 59), (1, .ref 19), (2, .int x2), (3, .int x3), (4, .int x4)]) (st2 := [.int x4, .ref 60]) (h2 := (sh_rep m.T m.I m.J)) rfl rfl rfl ?_
          refine sh_w (i := (.aload_n 0)) (len := 1) (pc2 := 32) (lv2 := [(0, .ref 59), (1, .ref 19), (2, .int x2), (3, .int x3), (4, .int x4)]) (st2 := [.ref 59, .int x4, .ref 60]) (h2 := (sh_rep m.T m.I m.J)) rfl rfl rfl ?_
          refine sh_gR1 (len := 3) (x := .ref 10) (pc2 := 35) rfl rfl hT.t58 rfl rfl ?_
          exact kk
        obtain ⟨r1, m11, e1, e⟩ := sh_bn_e e
        refine sh_Lk_cV (r := (some (.int r1))) (st2 := [.int r1, .int x4, .ref 60]) (pc2 := 38) (k2 := 99) (a := 9) (as := [.ref 10]) (rest := [.int x4, .ref 60]) rfl rfl rfl (fun hT => hT.t9) rfl rfl ⟨Nat.le_of_ble_eq_true rfl, Nat.le_of_ble_eq_true rfl⟩ (sl_99 e1 ⟨rfl, rfl⟩) rfl rfl (Nat.le_of_ble_eq_true rfl) (Nat.le_of_ble_eq_true rfl) ?_
        obtain ⟨c, e⟩ := sh_gd e
        refine sh_Lk_lift (T := m11.T) (I := m11.I) (J := m11.J) (s := m11.s) (pc2 := 46) (lv2 := [(0, .ref 59), (1, .ref 19), (2, .int x2), (3, .int x3), (4, .int x4)]) (st2 := [.int x4, .ref 60, .ref 19]) (I2 := sh_u2 m11.I 59 (Int32.toNatClampNeg x4) r1) (J2 := m11.J) (fun hT v kk => ?_) ?_
        · refine sh_is1 (x := r1) (i := x4) (pc2 := 39) rfl (sh_s59 hT.st) (sh_okb1 c) (sh_okb2 c) rfl ?_
          refine sh_w (i := (.aload_n 1)) (len := 1) (pc2 := 40) (lv2 := [(0, .ref 59), (1, .ref 19), (2, .int x2), (3, .int x3), (4, .int x4)]) (st2 := [.ref 19]) (h2 := (sh_rep m11.T (sh_u2 m11.I 59 (Int32.toNatClampNeg x4) r1) m11.J)) rfl rfl rfl ?_
          refine sh_w (i := (.aload_n 0)) (len := 1) (pc2 := 41) (lv2 := [(0, .ref 59), (1, .ref 19), (2, .int x2), (3, .int x3), (4, .int x4)]) (st2 := [.ref 59, .ref 19]) (h2 := (sh_rep m11.T (sh_u2 m11.I 59 (Int32.toNatClampNeg x4) r1) m11.J)) rfl rfl rfl ?_
          refine sh_gR1 (len := 3) (x := .ref 60) (pc2 := 44) rfl rfl hT.t58 rfl rfl ?_
          refine sh_w (i := (.iload 4)) (len := 2) (pc2 := 46) (lv2 := [(0, .ref 59), (1, .ref 19), (2, .int x2), (3, .int x3), (4, .int x4)]) (st2 := [.int x4, .ref 60, .ref 19]) (h2 := (sh_rep m11.T (sh_u2 m11.I 59 (Int32.toNatClampNeg x4) r1) m11.J)) rfl rfl rfl ?_
          exact kk
        obtain ⟨c, e⟩ := sh_gd e
        refine sh_Lk_lift (T := m11.T) (I := sh_u2 m11.I 59 (Int32.toNatClampNeg x4) r1) (J := m11.J) (s := m11.s) (pc2 := 47) (lv2 := [(0, .ref 59), (1, .ref 19), (2, .int x2), (3, .int x3), (4, .int x4)]) (st2 := [.int ((sh_u2 m11.I 59 (Int32.toNatClampNeg x4) r1) 59 (Int32.toNatClampNeg x4)), .ref 19]) (I2 := sh_u2 m11.I 59 (Int32.toNatClampNeg x4) r1) (J2 := m11.J) (fun hT v kk => ?_) ?_
        · refine sh_ia1 (x := (sh_u2 m11.I 59 (Int32.toNatClampNeg x4) r1) 59 (Int32.toNatClampNeg x4)) (pc2 := 47) rfl (sh_s59 hT.st) (sh_okb1 c) (sh_okb2 c) rfl rfl ?_
          exact kk
        obtain ⟨r2, m12, e2, e⟩ := sh_bn_e e
        refine sh_Lk_cV (r := none) (st2 := []) (pc2 := 50) (k2 := 104) (a := 18) (as := [.ref 19, .int ((sh_u2 m11.I 59 (Int32.toNatClampNeg x4) r1) 59 (Int32.toNatClampNeg x4))]) (rest := []) rfl rfl rfl (fun hT => (sh_s18 hT.st)) rfl rfl ⟨Nat.le_of_ble_eq_true rfl, Nat.le_of_ble_eq_true rfl⟩ (sl_104 (by decide) e2 ⟨rfl, rfl⟩) rfl rfl (Nat.le_of_ble_eq_true rfl) (Nat.le_of_ble_eq_true rfl) ?_
        refine sh_Lk_lift (T := m12.T) (I := m12.I) (J := m12.J) (s := m12.s) (pc2 := 9) (lv2 := [(4, .int (x4 + 1)), (0, .ref 59), (1, .ref 19), (2, .int x2), (3, .int x3)]) (st2 := []) (I2 := m12.I) (J2 := m12.J) (fun hT v kk => ?_) ?_
        · refine sh_w (i := (.iinc 4 1)) (len := 3) (pc2 := 53) (lv2 := [(4, .int (x4 + 1)), (0, .ref 59), (1, .ref 19), (2, .int x2), (3, .int x3)]) (st2 := []) (h2 := (sh_rep m12.T m12.I m12.J)) rfl rfl rfl ?_
          refine sh_w (i := (.goto (-44))) (len := 3) (pc2 := 9) (lv2 := [(4, .int (x4 + 1)), (0, .ref 59), (1, .ref 19), (2, .int x2), (3, .int x3)]) (st2 := []) (h2 := (sh_rep m12.T m12.I m12.J)) rfl rfl rfl ?_
          exact kk
        obtain rfl := Option.some.inj e
        exact sh_Lk_sub (sh_sub_c rfl (sh_sub_c rfl (sh_sub_c rfl (sh_sub_c rfl (sh_sub_c rfl (sh_sub_n)))))) tg
      · refine sh_Lk_lift (T := m.T) (I := m.I) (J := m.J) (s := m.s) (pc2 := 56) (lv2 := [(0, .ref 59), (1, .ref 19), (2, .int x2), (3, .int x3), (4, .int x4)]) (st2 := []) (I2 := m.I) (J2 := m.J) (fun hT v kk => ?_) ?_
        · refine sh_jc (c := .ge) (off := (34)) (pc2 := 56) true rfl (sh_Bget c) rfl ?_
          exact kk
        obtain rfl := Option.some.inj e
        obtain ⟨rfl, rfl⟩ := tg
        exact sh_Lk_ret (i := .return_) rfl rfl rfl (Nat.le_of_ble_eq_true rfl) (Nat.le_of_ble_eq_true rfl)
    · refine sh_Lk_lift (T := m.T) (I := m.I) (J := m.J) (s := m.s) (pc2 := 56) (lv2 := [(0, .ref 59), (1, .ref 19), (2, .int x2), (3, .int x3), (4, .int x4)]) (st2 := []) (I2 := m.I) (J2 := m.J) (fun hT v kk => ?_) ?_
      · refine sh_jc (c := .ge) (off := (42)) (pc2 := 56) true rfl (sh_Bget c) rfl ?_
        exact kk
      obtain rfl := Option.some.inj e
      obtain ⟨rfl, rfl⟩ := tg
      exact sh_Lk_ret (i := .return_) rfl rfl rfl (Nat.le_of_ble_eq_true rfl) (Nat.le_of_ble_eq_true rfl)
  · refine sh_Lk_lift (T := m.T) (I := m.I) (J := m.J) (s := m.s) (pc2 := 14) (lv2 := [(0, .ref 59), (1, .ref 24), (2, .int x2), (3, .int x3), (4, .int x4)]) (st2 := [.int (x2 + x3), .int x4]) (I2 := m.I) (J2 := m.J) (fun hT v kk => ?_) ?_
    · refine sh_w (i := (.iload 4)) (len := 2) (pc2 := 11) (lv2 := [(0, .ref 59), (1, .ref 24), (2, .int x2), (3, .int x3), (4, .int x4)]) (st2 := [.int x4]) (h2 := (sh_rep m.T m.I m.J)) rfl rfl rfl ?_
      refine sh_w (i := (.iload_n 2)) (len := 1) (pc2 := 12) (lv2 := [(0, .ref 59), (1, .ref 24), (2, .int x2), (3, .int x3), (4, .int x4)]) (st2 := [.int x2, .int x4]) (h2 := (sh_rep m.T m.I m.J)) rfl rfl rfl ?_
      refine sh_w (i := (.iload_n 3)) (len := 1) (pc2 := 13) (lv2 := [(0, .ref 59), (1, .ref 24), (2, .int x2), (3, .int x3), (4, .int x4)]) (st2 := [.int x3, .int x2, .int x4]) (h2 := (sh_rep m.T m.I m.J)) rfl rfl rfl ?_
      refine sh_w (i := .iadd) (len := 1) (pc2 := 14) (lv2 := [(0, .ref 59), (1, .ref 24), (2, .int x2), (3, .int x3), (4, .int x4)]) (st2 := [.int (x2 + x3), .int x4]) (h2 := (sh_rep m.T m.I m.J)) rfl rfl rfl ?_
      exact kk
    rcases sh_ite e with ⟨c, e⟩ | ⟨c, e⟩
    · refine sh_Lk_lift (T := m.T) (I := m.I) (J := m.J) (s := m.s) (pc2 := 22) (lv2 := [(0, .ref 59), (1, .ref 24), (2, .int x2), (3, .int x3), (4, .int x4)]) (st2 := [.int 4000, .int x4]) (I2 := m.I) (J2 := m.J) (fun hT v kk => ?_) ?_
      · refine sh_jc (c := .ge) (off := (42)) (pc2 := 17) false rfl (sh_Bgef c) rfl ?_
        refine sh_w (i := (.iload 4)) (len := 2) (pc2 := 19) (lv2 := [(0, .ref 59), (1, .ref 24), (2, .int x2), (3, .int x3), (4, .int x4)]) (st2 := [.int x4]) (h2 := (sh_rep m.T m.I m.J)) rfl rfl rfl ?_
        refine sh_w (i := (.sipush 4000)) (len := 3) (pc2 := 22) (lv2 := [(0, .ref 59), (1, .ref 24), (2, .int x2), (3, .int x3), (4, .int x4)]) (st2 := [.int 4000, .int x4]) (h2 := (sh_rep m.T m.I m.J)) rfl rfl rfl ?_
        exact kk
      rcases sh_ite e with ⟨c, e⟩ | ⟨c, e⟩
      · refine sh_Lk_lift (T := m.T) (I := m.I) (J := m.J) (s := m.s) (pc2 := 35) (lv2 := [(0, .ref 59), (1, .ref 24), (2, .int x2), (3, .int x3), (4, .int x4)]) (st2 := [.ref 10, .int x4, .ref 60]) (I2 := m.I) (J2 := m.J) (fun hT v kk => ?_) ?_
        · refine sh_jc (c := .ge) (off := (34)) (pc2 := 25) false rfl (sh_Bgef c) rfl ?_
          refine sh_w (i := (.aload_n 0)) (len := 1) (pc2 := 26) (lv2 := [(0, .ref 59), (1, .ref 24), (2, .int x2), (3, .int x3), (4, .int x4)]) (st2 := [.ref 59]) (h2 := (sh_rep m.T m.I m.J)) rfl rfl rfl ?_
          refine sh_gR1 (len := 3) (x := .ref 60) (pc2 := 29) rfl rfl hT.t58 rfl rfl ?_
          refine sh_w (i := (.iload 4)) (len := 2) (pc2 := 31) (lv2 := [(0, .ref 59), (1, .ref 24), (2, .int x2), (3, .int x3), (4, .int x4)]) (st2 := [.int x4, .ref 60]) (h2 := (sh_rep m.T m.I m.J)) rfl rfl rfl ?_
          refine sh_w (i := (.aload_n 0)) (len := 1) (pc2 := 32) (lv2 := [(0, .ref 59), (1, .ref 24), (2, .int x2), (3, .int x3), (4, .int x4)]) (st2 := [.ref 59, .int x4, .ref 60]) (h2 := (sh_rep m.T m.I m.J)) rfl rfl rfl ?_
          refine sh_gR1 (len := 3) (x := .ref 10) (pc2 := 35) rfl rfl hT.t58 rfl rfl ?_
          exact kk
        obtain ⟨r1, m11, e1, e⟩ := sh_bn_e e
        refine sh_Lk_cV (r := (some (.int r1))) (st2 := [.int r1, .int x4, .ref 60]) (pc2 := 38) (k2 := 99) (a := 9) (as := [.ref 10]) (rest := [.int x4, .ref 60]) rfl rfl rfl (fun hT => hT.t9) rfl rfl ⟨Nat.le_of_ble_eq_true rfl, Nat.le_of_ble_eq_true rfl⟩ (sl_99 e1 ⟨rfl, rfl⟩) rfl rfl (Nat.le_of_ble_eq_true rfl) (Nat.le_of_ble_eq_true rfl) ?_
        obtain ⟨c, e⟩ := sh_gd e
        refine sh_Lk_lift (T := m11.T) (I := m11.I) (J := m11.J) (s := m11.s) (pc2 := 46) (lv2 := [(0, .ref 59), (1, .ref 24), (2, .int x2), (3, .int x3), (4, .int x4)]) (st2 := [.int x4, .ref 60, .ref 24]) (I2 := sh_u2 m11.I 59 (Int32.toNatClampNeg x4) r1) (J2 := m11.J) (fun hT v kk => ?_) ?_
        · refine sh_is1 (x := r1) (i := x4) (pc2 := 39) rfl (sh_s59 hT.st) (sh_okb1 c) (sh_okb2 c) rfl ?_
          refine sh_w (i := (.aload_n 1)) (len := 1) (pc2 := 40) (lv2 := [(0, .ref 59), (1, .ref 24), (2, .int x2), (3, .int x3), (4, .int x4)]) (st2 := [.ref 24]) (h2 := (sh_rep m11.T (sh_u2 m11.I 59 (Int32.toNatClampNeg x4) r1) m11.J)) rfl rfl rfl ?_
          refine sh_w (i := (.aload_n 0)) (len := 1) (pc2 := 41) (lv2 := [(0, .ref 59), (1, .ref 24), (2, .int x2), (3, .int x3), (4, .int x4)]) (st2 := [.ref 59, .ref 24]) (h2 := (sh_rep m11.T (sh_u2 m11.I 59 (Int32.toNatClampNeg x4) r1) m11.J)) rfl rfl rfl ?_
          refine sh_gR1 (len := 3) (x := .ref 60) (pc2 := 44) rfl rfl hT.t58 rfl rfl ?_
          refine sh_w (i := (.iload 4)) (len := 2) (pc2 := 46) (lv2 := [(0, .ref 59), (1, .ref 24), (2, .int x2), (3, .int x3), (4, .int x4)]) (st2 := [.int x4, .ref 60, .ref 24]) (h2 := (sh_rep m11.T (sh_u2 m11.I 59 (Int32.toNatClampNeg x4) r1) m11.J)) rfl rfl rfl ?_
          exact kk
        obtain ⟨c, e⟩ := sh_gd e
        refine sh_Lk_lift (T := m11.T) (I := sh_u2 m11.I 59 (Int32.toNatClampNeg x4) r1) (J := m11.J) (s := m11.s) (pc2 := 47) (lv2 := [(0, .ref 59), (1, .ref 24), (2, .int x2), (3, .int x3), (4, .int x4)]) (st2 := [.int ((sh_u2 m11.I 59 (Int32.toNatClampNeg x4) r1) 59 (Int32.toNatClampNeg x4)), .ref 24]) (I2 := sh_u2 m11.I 59 (Int32.toNatClampNeg x4) r1) (J2 := m11.J) (fun hT v kk => ?_) ?_
        · refine sh_ia1 (x := (sh_u2 m11.I 59 (Int32.toNatClampNeg x4) r1) 59 (Int32.toNatClampNeg x4)) (pc2 := 47) rfl (sh_s59 hT.st) (sh_okb1 c) (sh_okb2 c) rfl rfl ?_
          exact kk
        obtain ⟨r2, m12, e2, e⟩ := sh_bn_e e
        refine sh_Lk_cV (r := none) (st2 := []) (pc2 := 50) (k2 := 104) (a := 23) (as := [.ref 24, .int ((sh_u2 m11.I 59 (Int32.toNatClampNeg x4) r1) 59 (Int32.toNatClampNeg x4))]) (rest := []) rfl rfl rfl (fun hT => (sh_s23 hT.st)) rfl rfl ⟨Nat.le_of_ble_eq_true rfl, Nat.le_of_ble_eq_true rfl⟩ (sl_104 (by decide) e2 ⟨rfl, rfl⟩) rfl rfl (Nat.le_of_ble_eq_true rfl) (Nat.le_of_ble_eq_true rfl) ?_
        refine sh_Lk_lift (T := m12.T) (I := m12.I) (J := m12.J) (s := m12.s) (pc2 := 9) (lv2 := [(4, .int (x4 + 1)), (0, .ref 59), (1, .ref 24), (2, .int x2), (3, .int x3)]) (st2 := []) (I2 := m12.I) (J2 := m12.J) (fun hT v kk => ?_) ?_
        · refine sh_w (i := (.iinc 4 1)) (len := 3) (pc2 := 53) (lv2 := [(4, .int (x4 + 1)), (0, .ref 59), (1, .ref 24), (2, .int x2), (3, .int x3)]) (st2 := []) (h2 := (sh_rep m12.T m12.I m12.J)) rfl rfl rfl ?_
          refine sh_w (i := (.goto (-44))) (len := 3) (pc2 := 9) (lv2 := [(4, .int (x4 + 1)), (0, .ref 59), (1, .ref 24), (2, .int x2), (3, .int x3)]) (st2 := []) (h2 := (sh_rep m12.T m12.I m12.J)) rfl rfl rfl ?_
          exact kk
        obtain rfl := Option.some.inj e
        exact sh_Lk_sub (sh_sub_c rfl (sh_sub_c rfl (sh_sub_c rfl (sh_sub_c rfl (sh_sub_c rfl (sh_sub_n)))))) tg
      · refine sh_Lk_lift (T := m.T) (I := m.I) (J := m.J) (s := m.s) (pc2 := 56) (lv2 := [(0, .ref 59), (1, .ref 24), (2, .int x2), (3, .int x3), (4, .int x4)]) (st2 := []) (I2 := m.I) (J2 := m.J) (fun hT v kk => ?_) ?_
        · refine sh_jc (c := .ge) (off := (34)) (pc2 := 56) true rfl (sh_Bget c) rfl ?_
          exact kk
        obtain rfl := Option.some.inj e
        obtain ⟨rfl, rfl⟩ := tg
        exact sh_Lk_ret (i := .return_) rfl rfl rfl (Nat.le_of_ble_eq_true rfl) (Nat.le_of_ble_eq_true rfl)
    · refine sh_Lk_lift (T := m.T) (I := m.I) (J := m.J) (s := m.s) (pc2 := 56) (lv2 := [(0, .ref 59), (1, .ref 24), (2, .int x2), (3, .int x3), (4, .int x4)]) (st2 := []) (I2 := m.I) (J2 := m.J) (fun hT v kk => ?_) ?_
      · refine sh_jc (c := .ge) (off := (42)) (pc2 := 56) true rfl (sh_Bget c) rfl ?_
        exact kk
      obtain rfl := Option.some.inj e
      obtain ⟨rfl, rfl⟩ := tg
      exact sh_Lk_ret (i := .return_) rfl rfl rfl (Nat.le_of_ble_eq_true rfl) (Nat.le_of_ble_eq_true rfl)
theorem sl_206_9 {x1 : Nat} {x2 : Int32} {x3 : Int32} {x4 : Int32} {m m2 : sh_X} {o : Outcome} {z : (Unit × sh_X)} (hx1 : sh_isE x1) (e : sf_206_9 x1 x2 x3 x4 m = some z) (tg : (sh_tV o m2) z) : sh_Lk 206 9 [(0, .ref 59), (1, .ref (x1 + 1)), (2, .int x2), (3, .int x3), (4, .int x4)] [] m o m2 12 286 := by
  unfold sf_206_9 at e
  exact sh_while_lk (P := fun q => sh_Lk 206 9 [(0, .ref 59), (1, .ref (x1 + 1)), (2, .int x2), (3, .int x3), (4, .int q.1)] [] q.2 o m2 12 286) (Q := (sh_tV o m2)) (fun q z e tg => sl_206_9s (x1 := x1) (x2 := x2) (x3 := x3) (x4 := q.1) (m := q.2) hx1 e tg) (s := (x4, m)) e tg
theorem sl_206 {x1 : Nat} {x2 : Int32} {x3 : Int32} {m m2 : sh_X} {o : Outcome} {z : (Unit × sh_X)} (hx1 : sh_isE x1) (e : sf_206 x1 x2 x3 m = some z) (tg : (sh_tV o m2) z) : sh_Lk 206 0 [(0, .ref 59), (1, .ref (x1 + 1)), (2, .int x2), (3, .int x3)] [] m o m2 12 286 := by
  unfold sf_206 at e
  rcases hx1 with rfl | rfl | rfl
  · refine sh_Lk_lift (T := m.T) (I := m.I) (J := m.J) (s := m.s) (pc2 := 3) (lv2 := [(0, .ref 59), (1, .ref 14), (2, .int x2), (3, .int x3)]) (st2 := [.int x3, .ref 14, .ref 59]) (I2 := m.I) (J2 := m.J) (fun hT v kk => ?_) ?_
    · refine sh_w (i := (.aload_n 0)) (len := 1) (pc2 := 1) (lv2 := [(0, .ref 59), (1, .ref 14), (2, .int x2), (3, .int x3)]) (st2 := [.ref 59]) (h2 := (sh_rep m.T m.I m.J)) rfl rfl rfl ?_
      refine sh_w (i := (.aload_n 1)) (len := 1) (pc2 := 2) (lv2 := [(0, .ref 59), (1, .ref 14), (2, .int x2), (3, .int x3)]) (st2 := [.ref 14, .ref 59]) (h2 := (sh_rep m.T m.I m.J)) rfl rfl rfl ?_
      refine sh_w (i := (.iload_n 3)) (len := 1) (pc2 := 3) (lv2 := [(0, .ref 59), (1, .ref 14), (2, .int x2), (3, .int x3)]) (st2 := [.int x3, .ref 14, .ref 59]) (h2 := (sh_rep m.T m.I m.J)) rfl rfl rfl ?_
      exact kk
    obtain ⟨r1, m11, e1, e⟩ := sh_bn_e e
    refine sh_Lk_cV (r := none) (st2 := []) (pc2 := 6) (k2 := 207) (a := 58) (as := [.ref 59, .ref 14, .int x3]) (rest := []) rfl rfl rfl (fun hT => hT.t58) rfl rfl ⟨Nat.le_of_ble_eq_true rfl, Nat.le_of_ble_eq_true rfl⟩ (sl_207 (by decide) e1 ⟨rfl, rfl⟩) rfl rfl (Nat.le_of_ble_eq_true rfl) (Nat.le_of_ble_eq_true rfl) ?_
    refine sh_Lk_lift (T := m11.T) (I := m11.I) (J := m11.J) (s := m11.s) (pc2 := 9) (lv2 := [(4, .int x2), (0, .ref 59), (1, .ref 14), (2, .int x2), (3, .int x3)]) (st2 := []) (I2 := m11.I) (J2 := m11.J) (fun hT v kk => ?_) ?_
    · refine sh_w (i := (.iload_n 2)) (len := 1) (pc2 := 7) (lv2 := [(0, .ref 59), (1, .ref 14), (2, .int x2), (3, .int x3)]) (st2 := [.int x2]) (h2 := (sh_rep m11.T m11.I m11.J)) rfl rfl rfl ?_
      refine sh_w (i := (.istore 4)) (len := 2) (pc2 := 9) (lv2 := [(4, .int x2), (0, .ref 59), (1, .ref 14), (2, .int x2), (3, .int x3)]) (st2 := []) (h2 := (sh_rep m11.T m11.I m11.J)) rfl rfl rfl ?_
      exact kk
    exact sh_Lk_sub (sh_sub_c rfl (sh_sub_c rfl (sh_sub_c rfl (sh_sub_c rfl (sh_sub_c rfl (sh_sub_n)))))) (sl_206_9 (by decide) e tg)
  · refine sh_Lk_lift (T := m.T) (I := m.I) (J := m.J) (s := m.s) (pc2 := 3) (lv2 := [(0, .ref 59), (1, .ref 19), (2, .int x2), (3, .int x3)]) (st2 := [.int x3, .ref 19, .ref 59]) (I2 := m.I) (J2 := m.J) (fun hT v kk => ?_) ?_
    · refine sh_w (i := (.aload_n 0)) (len := 1) (pc2 := 1) (lv2 := [(0, .ref 59), (1, .ref 19), (2, .int x2), (3, .int x3)]) (st2 := [.ref 59]) (h2 := (sh_rep m.T m.I m.J)) rfl rfl rfl ?_
      refine sh_w (i := (.aload_n 1)) (len := 1) (pc2 := 2) (lv2 := [(0, .ref 59), (1, .ref 19), (2, .int x2), (3, .int x3)]) (st2 := [.ref 19, .ref 59]) (h2 := (sh_rep m.T m.I m.J)) rfl rfl rfl ?_
      refine sh_w (i := (.iload_n 3)) (len := 1) (pc2 := 3) (lv2 := [(0, .ref 59), (1, .ref 19), (2, .int x2), (3, .int x3)]) (st2 := [.int x3, .ref 19, .ref 59]) (h2 := (sh_rep m.T m.I m.J)) rfl rfl rfl ?_
      exact kk
    obtain ⟨r1, m11, e1, e⟩ := sh_bn_e e
    refine sh_Lk_cV (r := none) (st2 := []) (pc2 := 6) (k2 := 207) (a := 58) (as := [.ref 59, .ref 19, .int x3]) (rest := []) rfl rfl rfl (fun hT => hT.t58) rfl rfl ⟨Nat.le_of_ble_eq_true rfl, Nat.le_of_ble_eq_true rfl⟩ (sl_207 (by decide) e1 ⟨rfl, rfl⟩) rfl rfl (Nat.le_of_ble_eq_true rfl) (Nat.le_of_ble_eq_true rfl) ?_
    refine sh_Lk_lift (T := m11.T) (I := m11.I) (J := m11.J) (s := m11.s) (pc2 := 9) (lv2 := [(4, .int x2), (0, .ref 59), (1, .ref 19), (2, .int x2), (3, .int x3)]) (st2 := []) (I2 := m11.I) (J2 := m11.J) (fun hT v kk => ?_) ?_
    · refine sh_w (i := (.iload_n 2)) (len := 1) (pc2 := 7) (lv2 := [(0, .ref 59), (1, .ref 19), (2, .int x2), (3, .int x3)]) (st2 := [.int x2]) (h2 := (sh_rep m11.T m11.I m11.J)) rfl rfl rfl ?_
      refine sh_w (i := (.istore 4)) (len := 2) (pc2 := 9) (lv2 := [(4, .int x2), (0, .ref 59), (1, .ref 19), (2, .int x2), (3, .int x3)]) (st2 := []) (h2 := (sh_rep m11.T m11.I m11.J)) rfl rfl rfl ?_
      exact kk
    exact sh_Lk_sub (sh_sub_c rfl (sh_sub_c rfl (sh_sub_c rfl (sh_sub_c rfl (sh_sub_c rfl (sh_sub_n)))))) (sl_206_9 (by decide) e tg)
  · refine sh_Lk_lift (T := m.T) (I := m.I) (J := m.J) (s := m.s) (pc2 := 3) (lv2 := [(0, .ref 59), (1, .ref 24), (2, .int x2), (3, .int x3)]) (st2 := [.int x3, .ref 24, .ref 59]) (I2 := m.I) (J2 := m.J) (fun hT v kk => ?_) ?_
    · refine sh_w (i := (.aload_n 0)) (len := 1) (pc2 := 1) (lv2 := [(0, .ref 59), (1, .ref 24), (2, .int x2), (3, .int x3)]) (st2 := [.ref 59]) (h2 := (sh_rep m.T m.I m.J)) rfl rfl rfl ?_
      refine sh_w (i := (.aload_n 1)) (len := 1) (pc2 := 2) (lv2 := [(0, .ref 59), (1, .ref 24), (2, .int x2), (3, .int x3)]) (st2 := [.ref 24, .ref 59]) (h2 := (sh_rep m.T m.I m.J)) rfl rfl rfl ?_
      refine sh_w (i := (.iload_n 3)) (len := 1) (pc2 := 3) (lv2 := [(0, .ref 59), (1, .ref 24), (2, .int x2), (3, .int x3)]) (st2 := [.int x3, .ref 24, .ref 59]) (h2 := (sh_rep m.T m.I m.J)) rfl rfl rfl ?_
      exact kk
    obtain ⟨r1, m11, e1, e⟩ := sh_bn_e e
    refine sh_Lk_cV (r := none) (st2 := []) (pc2 := 6) (k2 := 207) (a := 58) (as := [.ref 59, .ref 24, .int x3]) (rest := []) rfl rfl rfl (fun hT => hT.t58) rfl rfl ⟨Nat.le_of_ble_eq_true rfl, Nat.le_of_ble_eq_true rfl⟩ (sl_207 (by decide) e1 ⟨rfl, rfl⟩) rfl rfl (Nat.le_of_ble_eq_true rfl) (Nat.le_of_ble_eq_true rfl) ?_
    refine sh_Lk_lift (T := m11.T) (I := m11.I) (J := m11.J) (s := m11.s) (pc2 := 9) (lv2 := [(4, .int x2), (0, .ref 59), (1, .ref 24), (2, .int x2), (3, .int x3)]) (st2 := []) (I2 := m11.I) (J2 := m11.J) (fun hT v kk => ?_) ?_
    · refine sh_w (i := (.iload_n 2)) (len := 1) (pc2 := 7) (lv2 := [(0, .ref 59), (1, .ref 24), (2, .int x2), (3, .int x3)]) (st2 := [.int x2]) (h2 := (sh_rep m11.T m11.I m11.J)) rfl rfl rfl ?_
      refine sh_w (i := (.istore 4)) (len := 2) (pc2 := 9) (lv2 := [(4, .int x2), (0, .ref 59), (1, .ref 24), (2, .int x2), (3, .int x3)]) (st2 := []) (h2 := (sh_rep m11.T m11.I m11.J)) rfl rfl rfl ?_
      exact kk
    exact sh_Lk_sub (sh_sub_c rfl (sh_sub_c rfl (sh_sub_c rfl (sh_sub_c rfl (sh_sub_c rfl (sh_sub_n)))))) (sl_206_9 (by decide) e tg)
theorem sl_205 {m m2 : sh_X} {o : Outcome} {z : (Option Unit × sh_X)} (e : sf_205 m = some z) (tg : (sh_tVt o m2) z) : sh_Lk 205 0 [(0, .ref 59)] [] m o m2 13 310 := by
  unfold sf_205 at e
  refine sh_Lk_lift (T := m.T) (I := m.I) (J := m.J) (s := m.s) (pc2 := 3) (lv2 := [(0, .ref 59)]) (st2 := [.int 2, .int 2, .ref 59]) (I2 := m.I) (J2 := m.J) (fun hT v kk => ?_) ?_
  · refine sh_w (i := (.aload_n 0)) (len := 1) (pc2 := 1) (lv2 := [(0, .ref 59)]) (st2 := [.ref 59]) (h2 := (sh_rep m.T m.I m.J)) rfl rfl rfl ?_
    refine sh_w (i := (.iconst 2)) (len := 1) (pc2 := 2) (lv2 := [(0, .ref 59)]) (st2 := [.int 2, .ref 59]) (h2 := (sh_rep m.T m.I m.J)) rfl rfl rfl ?_
    refine sh_w (i := (.iconst 2)) (len := 1) (pc2 := 3) (lv2 := [(0, .ref 59)]) (st2 := [.int 2, .int 2, .ref 59]) (h2 := (sh_rep m.T m.I m.J)) rfl rfl rfl ?_
    exact kk
  rcases sh_bt_e e with ⟨m11, e1, rfl⟩ | ⟨r1, m11, e1, e⟩
  · obtain ⟨rfl, rfl⟩ := tg
    exact sh_Lk_tV (k2 := 201) (a := 58) (as := [.ref 59, .int 2, .int 2]) (rest := []) rfl rfl rfl (fun hT => hT.t58) rfl rfl ⟨Nat.le_of_ble_eq_true rfl, Nat.le_of_ble_eq_true rfl⟩ (sl_201 e1 ⟨rfl, rfl⟩) rfl (Nat.le_of_ble_eq_true rfl) (Nat.le_of_ble_eq_true rfl) (Nat.le_of_ble_eq_true rfl) (Nat.le_of_ble_eq_true rfl) rfl
  refine sh_Lk_cV (r := (some (.int r1))) (st2 := [.int r1]) (pc2 := 6) (k2 := 201) (a := 58) (as := [.ref 59, .int 2, .int 2]) (rest := []) rfl rfl rfl (fun hT => hT.t58) rfl rfl ⟨Nat.le_of_ble_eq_true rfl, Nat.le_of_ble_eq_true rfl⟩ (sl_201 e1 ⟨rfl, rfl⟩) rfl rfl (Nat.le_of_ble_eq_true rfl) (Nat.le_of_ble_eq_true rfl) ?_
  refine sh_Lk_lift (T := m11.T) (I := m11.I) (J := m11.J) (s := m11.s) (pc2 := 10) (lv2 := [(0, .ref 59)]) (st2 := [.int 32, .ref 59]) (I2 := m11.I) (J2 := m11.J) (fun hT v kk => ?_) ?_
  · refine sh_w (i := .pop) (len := 1) (pc2 := 7) (lv2 := [(0, .ref 59)]) (st2 := []) (h2 := (sh_rep m11.T m11.I m11.J)) rfl rfl rfl ?_
    refine sh_w (i := (.aload_n 0)) (len := 1) (pc2 := 8) (lv2 := [(0, .ref 59)]) (st2 := [.ref 59]) (h2 := (sh_rep m11.T m11.I m11.J)) rfl rfl rfl ?_
    refine sh_w (i := (.bipush 32)) (len := 2) (pc2 := 10) (lv2 := [(0, .ref 59)]) (st2 := [.int 32, .ref 59]) (h2 := (sh_rep m11.T m11.I m11.J)) rfl rfl rfl ?_
    exact kk
  rcases sh_bt_e e with ⟨m12, e2, rfl⟩ | ⟨r2, m12, e2, e⟩
  · obtain ⟨rfl, rfl⟩ := tg
    exact sh_Lk_tV (k2 := 204) (a := 58) (as := [.ref 59, .int 32]) (rest := []) rfl rfl rfl (fun hT => hT.t58) rfl rfl ⟨Nat.le_of_ble_eq_true rfl, Nat.le_of_ble_eq_true rfl⟩ (sl_204 e2 ⟨rfl, rfl⟩) rfl (Nat.le_of_ble_eq_true rfl) (Nat.le_of_ble_eq_true rfl) (Nat.le_of_ble_eq_true rfl) (Nat.le_of_ble_eq_true rfl) rfl
  refine sh_Lk_cV (r := none) (st2 := []) (pc2 := 13) (k2 := 204) (a := 58) (as := [.ref 59, .int 32]) (rest := []) rfl rfl rfl (fun hT => hT.t58) rfl rfl ⟨Nat.le_of_ble_eq_true rfl, Nat.le_of_ble_eq_true rfl⟩ (sl_204 e2 ⟨rfl, rfl⟩) rfl rfl (Nat.le_of_ble_eq_true rfl) (Nat.le_of_ble_eq_true rfl) ?_
  refine sh_Lk_lift (T := m12.T) (I := m12.I) (J := m12.J) (s := m12.s) (pc2 := 18) (lv2 := [(0, .ref 59)]) (st2 := [.int 500, .int 1, .ref 59]) (I2 := m12.I) (J2 := m12.J) (fun hT v kk => ?_) ?_
  · refine sh_w (i := (.aload_n 0)) (len := 1) (pc2 := 14) (lv2 := [(0, .ref 59)]) (st2 := [.ref 59]) (h2 := (sh_rep m12.T m12.I m12.J)) rfl rfl rfl ?_
    refine sh_w (i := (.iconst 1)) (len := 1) (pc2 := 15) (lv2 := [(0, .ref 59)]) (st2 := [.int 1, .ref 59]) (h2 := (sh_rep m12.T m12.I m12.J)) rfl rfl rfl ?_
    refine sh_w (i := (.sipush 500)) (len := 3) (pc2 := 18) (lv2 := [(0, .ref 59)]) (st2 := [.int 500, .int 1, .ref 59]) (h2 := (sh_rep m12.T m12.I m12.J)) rfl rfl rfl ?_
    exact kk
  rcases sh_bt_e e with ⟨m13, e3, rfl⟩ | ⟨r3, m13, e3, e⟩
  · obtain ⟨rfl, rfl⟩ := tg
    exact sh_Lk_tV (k2 := 201) (a := 58) (as := [.ref 59, .int 1, .int 500]) (rest := []) rfl rfl rfl (fun hT => hT.t58) rfl rfl ⟨Nat.le_of_ble_eq_true rfl, Nat.le_of_ble_eq_true rfl⟩ (sl_201 e3 ⟨rfl, rfl⟩) rfl (Nat.le_of_ble_eq_true rfl) (Nat.le_of_ble_eq_true rfl) (Nat.le_of_ble_eq_true rfl) (Nat.le_of_ble_eq_true rfl) rfl
  refine sh_Lk_cV (r := (some (.int r3))) (st2 := [.int r3]) (pc2 := 21) (k2 := 201) (a := 58) (as := [.ref 59, .int 1, .int 500]) (rest := []) rfl rfl rfl (fun hT => hT.t58) rfl rfl ⟨Nat.le_of_ble_eq_true rfl, Nat.le_of_ble_eq_true rfl⟩ (sl_201 e3 ⟨rfl, rfl⟩) rfl rfl (Nat.le_of_ble_eq_true rfl) (Nat.le_of_ble_eq_true rfl) ?_
  refine sh_Lk_lift (T := m13.T) (I := m13.I) (J := m13.J) (s := m13.s) (pc2 := 25) (lv2 := [(1, .int r3), (0, .ref 59)]) (st2 := [.int 32, .ref 59]) (I2 := m13.I) (J2 := m13.J) (fun hT v kk => ?_) ?_
  · refine sh_w (i := (.istore_n 1)) (len := 1) (pc2 := 22) (lv2 := [(1, .int r3), (0, .ref 59)]) (st2 := []) (h2 := (sh_rep m13.T m13.I m13.J)) rfl rfl rfl ?_
    refine sh_w (i := (.aload_n 0)) (len := 1) (pc2 := 23) (lv2 := [(1, .int r3), (0, .ref 59)]) (st2 := [.ref 59]) (h2 := (sh_rep m13.T m13.I m13.J)) rfl rfl rfl ?_
    refine sh_w (i := (.bipush 32)) (len := 2) (pc2 := 25) (lv2 := [(1, .int r3), (0, .ref 59)]) (st2 := [.int 32, .ref 59]) (h2 := (sh_rep m13.T m13.I m13.J)) rfl rfl rfl ?_
    exact kk
  rcases sh_bt_e e with ⟨m14, e4, rfl⟩ | ⟨r4, m14, e4, e⟩
  · obtain ⟨rfl, rfl⟩ := tg
    exact sh_Lk_tV (k2 := 204) (a := 58) (as := [.ref 59, .int 32]) (rest := []) rfl rfl rfl (fun hT => hT.t58) rfl rfl ⟨Nat.le_of_ble_eq_true rfl, Nat.le_of_ble_eq_true rfl⟩ (sl_204 e4 ⟨rfl, rfl⟩) rfl (Nat.le_of_ble_eq_true rfl) (Nat.le_of_ble_eq_true rfl) (Nat.le_of_ble_eq_true rfl) (Nat.le_of_ble_eq_true rfl) rfl
  refine sh_Lk_cV (r := none) (st2 := []) (pc2 := 28) (k2 := 204) (a := 58) (as := [.ref 59, .int 32]) (rest := []) rfl rfl rfl (fun hT => hT.t58) rfl rfl ⟨Nat.le_of_ble_eq_true rfl, Nat.le_of_ble_eq_true rfl⟩ (sl_204 e4 ⟨rfl, rfl⟩) rfl rfl (Nat.le_of_ble_eq_true rfl) (Nat.le_of_ble_eq_true rfl) ?_
  refine sh_Lk_lift (T := m14.T) (I := m14.I) (J := m14.J) (s := m14.s) (pc2 := 39) (lv2 := [(1, .int r3), (0, .ref 59)]) (st2 := [.int ((m14.I 58 8) - r3), .int 500, .int 1, .ref 59]) (I2 := m14.I) (J2 := m14.J) (fun hT v kk => ?_) ?_
  · refine sh_w (i := (.aload_n 0)) (len := 1) (pc2 := 29) (lv2 := [(1, .int r3), (0, .ref 59)]) (st2 := [.ref 59]) (h2 := (sh_rep m14.T m14.I m14.J)) rfl rfl rfl ?_
    refine sh_w (i := (.iconst 1)) (len := 1) (pc2 := 30) (lv2 := [(1, .int r3), (0, .ref 59)]) (st2 := [.int 1, .ref 59]) (h2 := (sh_rep m14.T m14.I m14.J)) rfl rfl rfl ?_
    refine sh_w (i := (.sipush 500)) (len := 3) (pc2 := 33) (lv2 := [(1, .int r3), (0, .ref 59)]) (st2 := [.int 500, .int 1, .ref 59]) (h2 := (sh_rep m14.T m14.I m14.J)) rfl rfl rfl ?_
    refine sh_w (i := (.aload_n 0)) (len := 1) (pc2 := 34) (lv2 := [(1, .int r3), (0, .ref 59)]) (st2 := [.ref 59, .int 500, .int 1, .ref 59]) (h2 := (sh_rep m14.T m14.I m14.J)) rfl rfl rfl ?_
    refine sh_gI1 (len := 3) (x := m14.I 58 8) (pc2 := 37) rfl rfl hT.t58 rfl rfl rfl ?_
    refine sh_w (i := (.iload_n 1)) (len := 1) (pc2 := 38) (lv2 := [(1, .int r3), (0, .ref 59)]) (st2 := [.int r3, .int (m14.I 58 8), .int 500, .int 1, .ref 59]) (h2 := (sh_rep m14.T m14.I m14.J)) rfl rfl rfl ?_
    refine sh_w (i := .isub) (len := 1) (pc2 := 39) (lv2 := [(1, .int r3), (0, .ref 59)]) (st2 := [.int ((m14.I 58 8) - r3), .int 500, .int 1, .ref 59]) (h2 := (sh_rep m14.T m14.I m14.J)) rfl rfl rfl ?_
    exact kk
  refine sh_Lk_cS (r := (some (.int (sf_21 500 ((m14.I 58 8) - r3))))) (st2 := [.int (sf_21 500 ((m14.I 58 8) - r3)), .int 1, .ref 59]) (pc2 := 42) (k2 := 21) (as := [.int 500, .int ((m14.I 58 8) - r3)]) (rest := [.int 1, .ref 59]) rfl rfl (by decide) (Nat.le_of_ble_eq_true rfl) rfl rfl ⟨Nat.le_of_ble_eq_true rfl, Nat.le_of_ble_eq_true rfl⟩ (sl_21 (m := m14) rfl ⟨rfl, rfl⟩) rfl rfl (Nat.le_of_ble_eq_true rfl) (Nat.le_of_ble_eq_true rfl) ?_
  rcases sh_bt_e e with ⟨m16, e6, rfl⟩ | ⟨r6, m16, e6, e⟩
  · obtain ⟨rfl, rfl⟩ := tg
    exact sh_Lk_tV (k2 := 201) (a := 58) (as := [.ref 59, .int 1, .int (sf_21 500 ((m14.I 58 8) - r3))]) (rest := []) rfl rfl rfl (fun hT => hT.t58) rfl rfl ⟨Nat.le_of_ble_eq_true rfl, Nat.le_of_ble_eq_true rfl⟩ (sl_201 e6 ⟨rfl, rfl⟩) rfl (Nat.le_of_ble_eq_true rfl) (Nat.le_of_ble_eq_true rfl) (Nat.le_of_ble_eq_true rfl) (Nat.le_of_ble_eq_true rfl) rfl
  refine sh_Lk_cV (r := (some (.int r6))) (st2 := [.int r6]) (pc2 := 45) (k2 := 201) (a := 58) (as := [.ref 59, .int 1, .int (sf_21 500 ((m14.I 58 8) - r3))]) (rest := []) rfl rfl rfl (fun hT => hT.t58) rfl rfl ⟨Nat.le_of_ble_eq_true rfl, Nat.le_of_ble_eq_true rfl⟩ (sl_201 e6 ⟨rfl, rfl⟩) rfl rfl (Nat.le_of_ble_eq_true rfl) (Nat.le_of_ble_eq_true rfl) ?_
  refine sh_Lk_lift (T := m16.T) (I := m16.I) (J := m16.J) (s := m16.s) (pc2 := 49) (lv2 := [(2, .int r6), (1, .int r3), (0, .ref 59)]) (st2 := [.int 10, .ref 59]) (I2 := m16.I) (J2 := m16.J) (fun hT v kk => ?_) ?_
  · refine sh_w (i := (.istore_n 2)) (len := 1) (pc2 := 46) (lv2 := [(2, .int r6), (1, .int r3), (0, .ref 59)]) (st2 := []) (h2 := (sh_rep m16.T m16.I m16.J)) rfl rfl rfl ?_
    refine sh_w (i := (.aload_n 0)) (len := 1) (pc2 := 47) (lv2 := [(2, .int r6), (1, .int r3), (0, .ref 59)]) (st2 := [.ref 59]) (h2 := (sh_rep m16.T m16.I m16.J)) rfl rfl rfl ?_
    refine sh_w (i := (.bipush 10)) (len := 2) (pc2 := 49) (lv2 := [(2, .int r6), (1, .int r3), (0, .ref 59)]) (st2 := [.int 10, .ref 59]) (h2 := (sh_rep m16.T m16.I m16.J)) rfl rfl rfl ?_
    exact kk
  rcases sh_bt_e e with ⟨m17, e7, rfl⟩ | ⟨r7, m17, e7, e⟩
  · obtain ⟨rfl, rfl⟩ := tg
    exact sh_Lk_tV (k2 := 204) (a := 58) (as := [.ref 59, .int 10]) (rest := []) rfl rfl rfl (fun hT => hT.t58) rfl rfl ⟨Nat.le_of_ble_eq_true rfl, Nat.le_of_ble_eq_true rfl⟩ (sl_204 e7 ⟨rfl, rfl⟩) rfl (Nat.le_of_ble_eq_true rfl) (Nat.le_of_ble_eq_true rfl) (Nat.le_of_ble_eq_true rfl) (Nat.le_of_ble_eq_true rfl) rfl
  refine sh_Lk_cV (r := none) (st2 := []) (pc2 := 52) (k2 := 204) (a := 58) (as := [.ref 59, .int 10]) (rest := []) rfl rfl rfl (fun hT => hT.t58) rfl rfl ⟨Nat.le_of_ble_eq_true rfl, Nat.le_of_ble_eq_true rfl⟩ (sl_204 e7 ⟨rfl, rfl⟩) rfl rfl (Nat.le_of_ble_eq_true rfl) (Nat.le_of_ble_eq_true rfl) ?_
  refine sh_Lk_lift (T := m17.T) (I := m17.I) (J := m17.J) (s := m17.s) (pc2 := 59) (lv2 := [(2, .int r6), (1, .int r3), (0, .ref 59)]) (st2 := [.int r3, .int 0, .ref 14, .ref 59]) (I2 := m17.I) (J2 := m17.J) (fun hT v kk => ?_) ?_
  · refine sh_w (i := (.aload_n 0)) (len := 1) (pc2 := 53) (lv2 := [(2, .int r6), (1, .int r3), (0, .ref 59)]) (st2 := [.ref 59]) (h2 := (sh_rep m17.T m17.I m17.J)) rfl rfl rfl ?_
    refine sh_w (i := (.aload_n 0)) (len := 1) (pc2 := 54) (lv2 := [(2, .int r6), (1, .int r3), (0, .ref 59)]) (st2 := [.ref 59, .ref 59]) (h2 := (sh_rep m17.T m17.I m17.J)) rfl rfl rfl ?_
    refine sh_gR1 (len := 3) (x := .ref 14) (pc2 := 57) rfl rfl hT.t58 rfl rfl ?_
    refine sh_w (i := (.iconst 0)) (len := 1) (pc2 := 58) (lv2 := [(2, .int r6), (1, .int r3), (0, .ref 59)]) (st2 := [.int 0, .ref 14, .ref 59]) (h2 := (sh_rep m17.T m17.I m17.J)) rfl rfl rfl ?_
    refine sh_w (i := (.iload_n 1)) (len := 1) (pc2 := 59) (lv2 := [(2, .int r6), (1, .int r3), (0, .ref 59)]) (st2 := [.int r3, .int 0, .ref 14, .ref 59]) (h2 := (sh_rep m17.T m17.I m17.J)) rfl rfl rfl ?_
    exact kk
  obtain ⟨r8, m18, e8, e⟩ := sh_bn_e e
  refine sh_Lk_cV (r := none) (st2 := []) (pc2 := 62) (k2 := 206) (a := 58) (as := [.ref 59, .ref 14, .int 0, .int r3]) (rest := []) rfl rfl rfl (fun hT => hT.t58) rfl rfl ⟨Nat.le_of_ble_eq_true rfl, Nat.le_of_ble_eq_true rfl⟩ (sl_206 (by decide) e8 ⟨rfl, rfl⟩) rfl rfl (Nat.le_of_ble_eq_true rfl) (Nat.le_of_ble_eq_true rfl) ?_
  refine sh_Lk_lift (T := m18.T) (I := m18.I) (J := m18.J) (s := m18.s) (pc2 := 69) (lv2 := [(2, .int r6), (1, .int r3), (0, .ref 59)]) (st2 := [.int r6, .int r3, .ref 19, .ref 59]) (I2 := m18.I) (J2 := m18.J) (fun hT v kk => ?_) ?_
  · refine sh_w (i := (.aload_n 0)) (len := 1) (pc2 := 63) (lv2 := [(2, .int r6), (1, .int r3), (0, .ref 59)]) (st2 := [.ref 59]) (h2 := (sh_rep m18.T m18.I m18.J)) rfl rfl rfl ?_
    refine sh_w (i := (.aload_n 0)) (len := 1) (pc2 := 64) (lv2 := [(2, .int r6), (1, .int r3), (0, .ref 59)]) (st2 := [.ref 59, .ref 59]) (h2 := (sh_rep m18.T m18.I m18.J)) rfl rfl rfl ?_
    refine sh_gR1 (len := 3) (x := .ref 19) (pc2 := 67) rfl rfl hT.t58 rfl rfl ?_
    refine sh_w (i := (.iload_n 1)) (len := 1) (pc2 := 68) (lv2 := [(2, .int r6), (1, .int r3), (0, .ref 59)]) (st2 := [.int r3, .ref 19, .ref 59]) (h2 := (sh_rep m18.T m18.I m18.J)) rfl rfl rfl ?_
    refine sh_w (i := (.iload_n 2)) (len := 1) (pc2 := 69) (lv2 := [(2, .int r6), (1, .int r3), (0, .ref 59)]) (st2 := [.int r6, .int r3, .ref 19, .ref 59]) (h2 := (sh_rep m18.T m18.I m18.J)) rfl rfl rfl ?_
    exact kk
  obtain ⟨r9, m19, e9, e⟩ := sh_bn_e e
  refine sh_Lk_cV (r := none) (st2 := []) (pc2 := 72) (k2 := 206) (a := 58) (as := [.ref 59, .ref 19, .int r3, .int r6]) (rest := []) rfl rfl rfl (fun hT => hT.t58) rfl rfl ⟨Nat.le_of_ble_eq_true rfl, Nat.le_of_ble_eq_true rfl⟩ (sl_206 (by decide) e9 ⟨rfl, rfl⟩) rfl rfl (Nat.le_of_ble_eq_true rfl) (Nat.le_of_ble_eq_true rfl) ?_
  obtain rfl := Option.some.inj e
  obtain ⟨rfl, rfl⟩ := tg
  exact sh_Lk_ret (i := .return_) rfl rfl rfl (Nat.le_of_ble_eq_true rfl) (Nat.le_of_ble_eq_true rfl)
theorem sl_209_39 {x2 : Int32} {m m2 : sh_X} {o : Outcome} {z : (Option Int32 × sh_X)} (e : sf_209_39 x2 m = some z) (tg : (sh_tIt o m2) z) : sh_Lk 209 39 [(0, .ref 59), (2, .int x2)] [] m o m2 10 246 := by
  unfold sf_209_39 at e
  refine sh_Lk_lift (T := m.T) (I := m.I) (J := m.J) (s := m.s) (pc2 := 42) (lv2 := [(0, .ref 59), (2, .int x2)]) (st2 := [.int 32, .ref 59]) (I2 := m.I) (J2 := m.J) (fun hT v kk => ?_) ?_
  · refine sh_w (i := (.aload_n 0)) (len := 1) (pc2 := 40) (lv2 := [(0, .ref 59), (2, .int x2)]) (st2 := [.ref 59]) (h2 := (sh_rep m.T m.I m.J)) rfl rfl rfl ?_
    refine sh_w (i := (.bipush 32)) (len := 2) (pc2 := 42) (lv2 := [(0, .ref 59), (2, .int x2)]) (st2 := [.int 32, .ref 59]) (h2 := (sh_rep m.T m.I m.J)) rfl rfl rfl ?_
    exact kk
  rcases sh_bt_e e with ⟨m11, e1, rfl⟩ | ⟨r1, m11, e1, e⟩
  · obtain ⟨rfl, rfl⟩ := tg
    exact sh_Lk_tV (k2 := 204) (a := 58) (as := [.ref 59, .int 32]) (rest := []) rfl rfl rfl (fun hT => hT.t58) rfl rfl ⟨Nat.le_of_ble_eq_true rfl, Nat.le_of_ble_eq_true rfl⟩ (sl_204 e1 ⟨rfl, rfl⟩) rfl (Nat.le_of_ble_eq_true rfl) (Nat.le_of_ble_eq_true rfl) (Nat.le_of_ble_eq_true rfl) (Nat.le_of_ble_eq_true rfl) rfl
  refine sh_Lk_cV (r := none) (st2 := []) (pc2 := 45) (k2 := 204) (a := 58) (as := [.ref 59, .int 32]) (rest := []) rfl rfl rfl (fun hT => hT.t58) rfl rfl ⟨Nat.le_of_ble_eq_true rfl, Nat.le_of_ble_eq_true rfl⟩ (sl_204 e1 ⟨rfl, rfl⟩) rfl rfl (Nat.le_of_ble_eq_true rfl) (Nat.le_of_ble_eq_true rfl) ?_
  refine sh_Lk_lift (T := m11.T) (I := m11.I) (J := m11.J) (s := m11.s) (pc2 := 50) (lv2 := [(0, .ref 59), (2, .int x2)]) (st2 := [.int x2, .ref 60]) (I2 := m11.I) (J2 := m11.J) (fun hT v kk => ?_) ?_
  · refine sh_w (i := (.aload_n 0)) (len := 1) (pc2 := 46) (lv2 := [(0, .ref 59), (2, .int x2)]) (st2 := [.ref 59]) (h2 := (sh_rep m11.T m11.I m11.J)) rfl rfl rfl ?_
    refine sh_gR1 (len := 3) (x := .ref 60) (pc2 := 49) rfl rfl hT.t58 rfl rfl ?_
    refine sh_w (i := (.iload_n 2)) (len := 1) (pc2 := 50) (lv2 := [(0, .ref 59), (2, .int x2)]) (st2 := [.int x2, .ref 60]) (h2 := (sh_rep m11.T m11.I m11.J)) rfl rfl rfl ?_
    exact kk
  obtain ⟨c, e⟩ := sh_gd e
  refine sh_Lk_lift (T := m11.T) (I := m11.I) (J := m11.J) (s := m11.s) (pc2 := 51) (lv2 := [(0, .ref 59), (2, .int x2)]) (st2 := [.int (m11.I 59 (Int32.toNatClampNeg x2))]) (I2 := m11.I) (J2 := m11.J) (fun hT v kk => ?_) ?_
  · refine sh_ia1 (x := m11.I 59 (Int32.toNatClampNeg x2)) (pc2 := 51) rfl (sh_s59 hT.st) (sh_okb1 c) (sh_okb2 c) rfl rfl ?_
    exact kk
  obtain rfl := Option.some.inj e
  obtain ⟨rfl, rfl⟩ := tg
  exact sh_Lk_ret (i := .ireturn) rfl rfl rfl (Nat.le_of_ble_eq_true rfl) (Nat.le_of_ble_eq_true rfl)
theorem sl_209_34 {x1 : Int32} {x2 : Int32} {m m2 : sh_X} {o : Outcome} {z : (Option Int32 × sh_X)} (e : sf_209_34 x1 x2 m = some z) (tg : (sh_tIt o m2) z) : sh_Lk 209 34 [(0, .ref 59), (1, .int x1), (2, .int x2)] [] m o m2 10 246 := by
  unfold sf_209_34 at e
  refine sh_Lk_lift (T := m.T) (I := m.I) (J := m.J) (s := m.s) (pc2 := 36) (lv2 := [(0, .ref 59), (1, .int x1), (2, .int x2)]) (st2 := [.int x1, .ref 59]) (I2 := m.I) (J2 := m.J) (fun hT v kk => ?_) ?_
  · refine sh_w (i := (.aload_n 0)) (len := 1) (pc2 := 35) (lv2 := [(0, .ref 59), (1, .int x1), (2, .int x2)]) (st2 := [.ref 59]) (h2 := (sh_rep m.T m.I m.J)) rfl rfl rfl ?_
    refine sh_w (i := (.iload_n 1)) (len := 1) (pc2 := 36) (lv2 := [(0, .ref 59), (1, .int x1), (2, .int x2)]) (st2 := [.int x1, .ref 59]) (h2 := (sh_rep m.T m.I m.J)) rfl rfl rfl ?_
    exact kk
  rcases sh_bt_e e with ⟨m11, e1, rfl⟩ | ⟨r1, m11, e1, e⟩
  · obtain ⟨rfl, rfl⟩ := tg
    exact sh_Lk_tV (k2 := 203) (a := 58) (as := [.ref 59, .int x1]) (rest := []) rfl rfl rfl (fun hT => hT.t58) rfl rfl ⟨Nat.le_of_ble_eq_true rfl, Nat.le_of_ble_eq_true rfl⟩ (sl_203 e1 ⟨rfl, rfl⟩) rfl (Nat.le_of_ble_eq_true rfl) (Nat.le_of_ble_eq_true rfl) (Nat.le_of_ble_eq_true rfl) (Nat.le_of_ble_eq_true rfl) rfl
  refine sh_Lk_cV (r := none) (st2 := []) (pc2 := 39) (k2 := 203) (a := 58) (as := [.ref 59, .int x1]) (rest := []) rfl rfl rfl (fun hT => hT.t58) rfl rfl ⟨Nat.le_of_ble_eq_true rfl, Nat.le_of_ble_eq_true rfl⟩ (sl_203 e1 ⟨rfl, rfl⟩) rfl rfl (Nat.le_of_ble_eq_true rfl) (Nat.le_of_ble_eq_true rfl) ?_
  exact sh_Lk_sub (sh_sub_c rfl (sh_sub_c rfl (sh_sub_n))) (sl_209_39 e tg)
theorem sl_209 {m m2 : sh_X} {o : Outcome} {z : (Option Int32 × sh_X)} (e : sf_209 m = some z) (tg : (sh_tIt o m2) z) : sh_Lk 209 0 [(0, .ref 59)] [] m o m2 10 246 := by
  unfold sf_209 at e
  refine sh_Lk_lift (T := m.T) (I := m.I) (J := m.J) (s := m.s) (pc2 := 13) (lv2 := [(1, .int (m.I 58 7)), (0, .ref 59)]) (st2 := [.int ((m.I 58 8) - 1), .int 0, .ref 59]) (I2 := m.I) (J2 := m.J) (fun hT v kk => ?_) ?_
  · refine sh_w (i := (.aload_n 0)) (len := 1) (pc2 := 1) (lv2 := [(0, .ref 59)]) (st2 := [.ref 59]) (h2 := (sh_rep m.T m.I m.J)) rfl rfl rfl ?_
    refine sh_gI1 (len := 3) (x := m.I 58 7) (pc2 := 4) rfl rfl hT.t58 rfl rfl rfl ?_
    refine sh_w (i := (.istore_n 1)) (len := 1) (pc2 := 5) (lv2 := [(1, .int (m.I 58 7)), (0, .ref 59)]) (st2 := []) (h2 := (sh_rep m.T m.I m.J)) rfl rfl rfl ?_
    refine sh_w (i := (.aload_n 0)) (len := 1) (pc2 := 6) (lv2 := [(1, .int (m.I 58 7)), (0, .ref 59)]) (st2 := [.ref 59]) (h2 := (sh_rep m.T m.I m.J)) rfl rfl rfl ?_
    refine sh_w (i := (.iconst 0)) (len := 1) (pc2 := 7) (lv2 := [(1, .int (m.I 58 7)), (0, .ref 59)]) (st2 := [.int 0, .ref 59]) (h2 := (sh_rep m.T m.I m.J)) rfl rfl rfl ?_
    refine sh_w (i := (.aload_n 0)) (len := 1) (pc2 := 8) (lv2 := [(1, .int (m.I 58 7)), (0, .ref 59)]) (st2 := [.ref 59, .int 0, .ref 59]) (h2 := (sh_rep m.T m.I m.J)) rfl rfl rfl ?_
    refine sh_gI1 (len := 3) (x := m.I 58 8) (pc2 := 11) rfl rfl hT.t58 rfl rfl rfl ?_
    refine sh_w (i := (.iconst 1)) (len := 1) (pc2 := 12) (lv2 := [(1, .int (m.I 58 7)), (0, .ref 59)]) (st2 := [.int 1, .int (m.I 58 8), .int 0, .ref 59]) (h2 := (sh_rep m.T m.I m.J)) rfl rfl rfl ?_
    refine sh_w (i := .isub) (len := 1) (pc2 := 13) (lv2 := [(1, .int (m.I 58 7)), (0, .ref 59)]) (st2 := [.int ((m.I 58 8) - 1), .int 0, .ref 59]) (h2 := (sh_rep m.T m.I m.J)) rfl rfl rfl ?_
    exact kk
  rcases sh_bt_e e with ⟨m11, e1, rfl⟩ | ⟨r1, m11, e1, e⟩
  · obtain ⟨rfl, rfl⟩ := tg
    exact sh_Lk_tV (k2 := 201) (a := 58) (as := [.ref 59, .int 0, .int ((m.I 58 8) - 1)]) (rest := []) rfl rfl rfl (fun hT => hT.t58) rfl rfl ⟨Nat.le_of_ble_eq_true rfl, Nat.le_of_ble_eq_true rfl⟩ (sl_201 e1 ⟨rfl, rfl⟩) rfl (Nat.le_of_ble_eq_true rfl) (Nat.le_of_ble_eq_true rfl) (Nat.le_of_ble_eq_true rfl) (Nat.le_of_ble_eq_true rfl) rfl
  refine sh_Lk_cV (r := (some (.int r1))) (st2 := [.int r1]) (pc2 := 16) (k2 := 201) (a := 58) (as := [.ref 59, .int 0, .int ((m.I 58 8) - 1)]) (rest := []) rfl rfl rfl (fun hT => hT.t58) rfl rfl ⟨Nat.le_of_ble_eq_true rfl, Nat.le_of_ble_eq_true rfl⟩ (sl_201 e1 ⟨rfl, rfl⟩) rfl rfl (Nat.le_of_ble_eq_true rfl) (Nat.le_of_ble_eq_true rfl) ?_
  refine sh_Lk_lift (T := m11.T) (I := m11.I) (J := m11.J) (s := m11.s) (pc2 := 21) (lv2 := [(2, .int r1), (1, .int (m.I 58 7)), (0, .ref 59)]) (st2 := [.int 4000, .int r1]) (I2 := m11.I) (J2 := m11.J) (fun hT v kk => ?_) ?_
  · refine sh_w (i := (.istore_n 2)) (len := 1) (pc2 := 17) (lv2 := [(2, .int r1), (1, .int (m.I 58 7)), (0, .ref 59)]) (st2 := []) (h2 := (sh_rep m11.T m11.I m11.J)) rfl rfl rfl ?_
    refine sh_w (i := (.iload_n 2)) (len := 1) (pc2 := 18) (lv2 := [(2, .int r1), (1, .int (m.I 58 7)), (0, .ref 59)]) (st2 := [.int r1]) (h2 := (sh_rep m11.T m11.I m11.J)) rfl rfl rfl ?_
    refine sh_w (i := (.sipush 4000)) (len := 3) (pc2 := 21) (lv2 := [(2, .int r1), (1, .int (m.I 58 7)), (0, .ref 59)]) (st2 := [.int 4000, .int r1]) (h2 := (sh_rep m11.T m11.I m11.J)) rfl rfl rfl ?_
    exact kk
  rcases sh_ite e with ⟨c, e⟩ | ⟨c, e⟩
  · refine sh_Lk_lift (T := m11.T) (I := m11.I) (J := m11.J) (s := m11.s) (pc2 := 29) (lv2 := [(2, .int r1), (1, .int (m.I 58 7)), (0, .ref 59)]) (st2 := [.int r1, .ref 60]) (I2 := m11.I) (J2 := m11.J) (fun hT v kk => ?_) ?_
    · refine sh_jc (c := .ge) (off := (13)) (pc2 := 24) false rfl (sh_Bgef c) rfl ?_
      refine sh_w (i := (.aload_n 0)) (len := 1) (pc2 := 25) (lv2 := [(2, .int r1), (1, .int (m.I 58 7)), (0, .ref 59)]) (st2 := [.ref 59]) (h2 := (sh_rep m11.T m11.I m11.J)) rfl rfl rfl ?_
      refine sh_gR1 (len := 3) (x := .ref 60) (pc2 := 28) rfl rfl hT.t58 rfl rfl ?_
      refine sh_w (i := (.iload_n 2)) (len := 1) (pc2 := 29) (lv2 := [(2, .int r1), (1, .int (m.I 58 7)), (0, .ref 59)]) (st2 := [.int r1, .ref 60]) (h2 := (sh_rep m11.T m11.I m11.J)) rfl rfl rfl ?_
      exact kk
    obtain ⟨c, e⟩ := sh_gd e
    refine sh_Lk_lift (T := m11.T) (I := m11.I) (J := m11.J) (s := m11.s) (pc2 := 31) (lv2 := [(2, .int r1), (1, .int (m.I 58 7)), (0, .ref 59)]) (st2 := [.int (-1), .int (m11.I 59 (Int32.toNatClampNeg r1))]) (I2 := m11.I) (J2 := m11.J) (fun hT v kk => ?_) ?_
    · refine sh_ia1 (x := m11.I 59 (Int32.toNatClampNeg r1)) (pc2 := 30) rfl (sh_s59 hT.st) (sh_okb1 c) (sh_okb2 c) rfl rfl ?_
      refine sh_w (i := (.iconst (-1))) (len := 1) (pc2 := 31) (lv2 := [(2, .int r1), (1, .int (m.I 58 7)), (0, .ref 59)]) (st2 := [.int (-1), .int (m11.I 59 (Int32.toNatClampNeg r1))]) (h2 := (sh_rep m11.T m11.I m11.J)) rfl rfl rfl ?_
      exact kk
    rcases sh_ite e with ⟨c, e⟩ | ⟨c, e⟩
    · refine sh_Lk_lift (T := m11.T) (I := m11.I) (J := m11.J) (s := m11.s) (pc2 := 34) (lv2 := [(2, .int r1), (1, .int (m.I 58 7)), (0, .ref 59)]) (st2 := []) (I2 := m11.I) (J2 := m11.J) (fun hT v kk => ?_) ?_
      · refine sh_jc (c := .ne) (off := (8)) (pc2 := 34) false rfl (sh_Bnef c) rfl ?_
        exact kk
      exact sh_Lk_sub (sh_sub_c rfl (sh_sub_c rfl (sh_sub_c rfl (sh_sub_n)))) (sl_209_34 e tg)
    · refine sh_Lk_lift (T := m11.T) (I := m11.I) (J := m11.J) (s := m11.s) (pc2 := 39) (lv2 := [(2, .int r1), (1, .int (m.I 58 7)), (0, .ref 59)]) (st2 := []) (I2 := m11.I) (J2 := m11.J) (fun hT v kk => ?_) ?_
      · refine sh_jc (c := .ne) (off := (8)) (pc2 := 39) true rfl (sh_Bnet c) rfl ?_
        exact kk
      exact sh_Lk_sub (sh_sub_c rfl (sh_sub_c rfl (sh_sub_n))) (sl_209_39 e tg)
  · refine sh_Lk_lift (T := m11.T) (I := m11.I) (J := m11.J) (s := m11.s) (pc2 := 34) (lv2 := [(2, .int r1), (1, .int (m.I 58 7)), (0, .ref 59)]) (st2 := []) (I2 := m11.I) (J2 := m11.J) (fun hT v kk => ?_) ?_
    · refine sh_jc (c := .ge) (off := (13)) (pc2 := 34) true rfl (sh_Bget c) rfl ?_
      exact kk
    exact sh_Lk_sub (sh_sub_c rfl (sh_sub_c rfl (sh_sub_c rfl (sh_sub_n)))) (sl_209_34 e tg)
theorem sl_210_39 {x2 : Int32} {m m2 : sh_X} {o : Outcome} {z : (Option Int32 × sh_X)} (e : sf_210_39 x2 m = some z) (tg : (sh_tIt o m2) z) : sh_Lk 210 39 [(0, .ref 59), (2, .int x2)] [] m o m2 10 246 := by
  unfold sf_210_39 at e
  refine sh_Lk_lift (T := m.T) (I := m.I) (J := m.J) (s := m.s) (pc2 := 42) (lv2 := [(0, .ref 59), (2, .int x2)]) (st2 := [.int 32, .ref 59]) (I2 := m.I) (J2 := m.J) (fun hT v kk => ?_) ?_
  · refine sh_w (i := (.aload_n 0)) (len := 1) (pc2 := 40) (lv2 := [(0, .ref 59), (2, .int x2)]) (st2 := [.ref 59]) (h2 := (sh_rep m.T m.I m.J)) rfl rfl rfl ?_
    refine sh_w (i := (.bipush 32)) (len := 2) (pc2 := 42) (lv2 := [(0, .ref 59), (2, .int x2)]) (st2 := [.int 32, .ref 59]) (h2 := (sh_rep m.T m.I m.J)) rfl rfl rfl ?_
    exact kk
  rcases sh_bt_e e with ⟨m11, e1, rfl⟩ | ⟨r1, m11, e1, e⟩
  · obtain ⟨rfl, rfl⟩ := tg
    exact sh_Lk_tV (k2 := 204) (a := 58) (as := [.ref 59, .int 32]) (rest := []) rfl rfl rfl (fun hT => hT.t58) rfl rfl ⟨Nat.le_of_ble_eq_true rfl, Nat.le_of_ble_eq_true rfl⟩ (sl_204 e1 ⟨rfl, rfl⟩) rfl (Nat.le_of_ble_eq_true rfl) (Nat.le_of_ble_eq_true rfl) (Nat.le_of_ble_eq_true rfl) (Nat.le_of_ble_eq_true rfl) rfl
  refine sh_Lk_cV (r := none) (st2 := []) (pc2 := 45) (k2 := 204) (a := 58) (as := [.ref 59, .int 32]) (rest := []) rfl rfl rfl (fun hT => hT.t58) rfl rfl ⟨Nat.le_of_ble_eq_true rfl, Nat.le_of_ble_eq_true rfl⟩ (sl_204 e1 ⟨rfl, rfl⟩) rfl rfl (Nat.le_of_ble_eq_true rfl) (Nat.le_of_ble_eq_true rfl) ?_
  refine sh_Lk_lift (T := m11.T) (I := m11.I) (J := m11.J) (s := m11.s) (pc2 := 46) (lv2 := [(0, .ref 59), (2, .int x2)]) (st2 := [.int x2]) (I2 := m11.I) (J2 := m11.J) (fun hT v kk => ?_) ?_
  · refine sh_w (i := (.iload_n 2)) (len := 1) (pc2 := 46) (lv2 := [(0, .ref 59), (2, .int x2)]) (st2 := [.int x2]) (h2 := (sh_rep m11.T m11.I m11.J)) rfl rfl rfl ?_
    exact kk
  obtain rfl := Option.some.inj e
  obtain ⟨rfl, rfl⟩ := tg
  exact sh_Lk_ret (i := .ireturn) rfl rfl rfl (Nat.le_of_ble_eq_true rfl) (Nat.le_of_ble_eq_true rfl)
theorem sl_210_34 {x1 : Int32} {x2 : Int32} {m m2 : sh_X} {o : Outcome} {z : (Option Int32 × sh_X)} (e : sf_210_34 x1 x2 m = some z) (tg : (sh_tIt o m2) z) : sh_Lk 210 34 [(0, .ref 59), (1, .int x1), (2, .int x2)] [] m o m2 10 246 := by
  unfold sf_210_34 at e
  refine sh_Lk_lift (T := m.T) (I := m.I) (J := m.J) (s := m.s) (pc2 := 36) (lv2 := [(0, .ref 59), (1, .int x1), (2, .int x2)]) (st2 := [.int x1, .ref 59]) (I2 := m.I) (J2 := m.J) (fun hT v kk => ?_) ?_
  · refine sh_w (i := (.aload_n 0)) (len := 1) (pc2 := 35) (lv2 := [(0, .ref 59), (1, .int x1), (2, .int x2)]) (st2 := [.ref 59]) (h2 := (sh_rep m.T m.I m.J)) rfl rfl rfl ?_
    refine sh_w (i := (.iload_n 1)) (len := 1) (pc2 := 36) (lv2 := [(0, .ref 59), (1, .int x1), (2, .int x2)]) (st2 := [.int x1, .ref 59]) (h2 := (sh_rep m.T m.I m.J)) rfl rfl rfl ?_
    exact kk
  rcases sh_bt_e e with ⟨m11, e1, rfl⟩ | ⟨r1, m11, e1, e⟩
  · obtain ⟨rfl, rfl⟩ := tg
    exact sh_Lk_tV (k2 := 203) (a := 58) (as := [.ref 59, .int x1]) (rest := []) rfl rfl rfl (fun hT => hT.t58) rfl rfl ⟨Nat.le_of_ble_eq_true rfl, Nat.le_of_ble_eq_true rfl⟩ (sl_203 e1 ⟨rfl, rfl⟩) rfl (Nat.le_of_ble_eq_true rfl) (Nat.le_of_ble_eq_true rfl) (Nat.le_of_ble_eq_true rfl) (Nat.le_of_ble_eq_true rfl) rfl
  refine sh_Lk_cV (r := none) (st2 := []) (pc2 := 39) (k2 := 203) (a := 58) (as := [.ref 59, .int x1]) (rest := []) rfl rfl rfl (fun hT => hT.t58) rfl rfl ⟨Nat.le_of_ble_eq_true rfl, Nat.le_of_ble_eq_true rfl⟩ (sl_203 e1 ⟨rfl, rfl⟩) rfl rfl (Nat.le_of_ble_eq_true rfl) (Nat.le_of_ble_eq_true rfl) ?_
  exact sh_Lk_sub (sh_sub_c rfl (sh_sub_c rfl (sh_sub_n))) (sl_210_39 e tg)
theorem sl_210 {m m2 : sh_X} {o : Outcome} {z : (Option Int32 × sh_X)} (e : sf_210 m = some z) (tg : (sh_tIt o m2) z) : sh_Lk 210 0 [(0, .ref 59)] [] m o m2 10 246 := by
  unfold sf_210 at e
  refine sh_Lk_lift (T := m.T) (I := m.I) (J := m.J) (s := m.s) (pc2 := 13) (lv2 := [(1, .int (m.I 58 7)), (0, .ref 59)]) (st2 := [.int ((m.I 58 8) - 1), .int 0, .ref 59]) (I2 := m.I) (J2 := m.J) (fun hT v kk => ?_) ?_
  · refine sh_w (i := (.aload_n 0)) (len := 1) (pc2 := 1) (lv2 := [(0, .ref 59)]) (st2 := [.ref 59]) (h2 := (sh_rep m.T m.I m.J)) rfl rfl rfl ?_
    refine sh_gI1 (len := 3) (x := m.I 58 7) (pc2 := 4) rfl rfl hT.t58 rfl rfl rfl ?_
    refine sh_w (i := (.istore_n 1)) (len := 1) (pc2 := 5) (lv2 := [(1, .int (m.I 58 7)), (0, .ref 59)]) (st2 := []) (h2 := (sh_rep m.T m.I m.J)) rfl rfl rfl ?_
    refine sh_w (i := (.aload_n 0)) (len := 1) (pc2 := 6) (lv2 := [(1, .int (m.I 58 7)), (0, .ref 59)]) (st2 := [.ref 59]) (h2 := (sh_rep m.T m.I m.J)) rfl rfl rfl ?_
    refine sh_w (i := (.iconst 0)) (len := 1) (pc2 := 7) (lv2 := [(1, .int (m.I 58 7)), (0, .ref 59)]) (st2 := [.int 0, .ref 59]) (h2 := (sh_rep m.T m.I m.J)) rfl rfl rfl ?_
    refine sh_w (i := (.aload_n 0)) (len := 1) (pc2 := 8) (lv2 := [(1, .int (m.I 58 7)), (0, .ref 59)]) (st2 := [.ref 59, .int 0, .ref 59]) (h2 := (sh_rep m.T m.I m.J)) rfl rfl rfl ?_
    refine sh_gI1 (len := 3) (x := m.I 58 8) (pc2 := 11) rfl rfl hT.t58 rfl rfl rfl ?_
    refine sh_w (i := (.iconst 1)) (len := 1) (pc2 := 12) (lv2 := [(1, .int (m.I 58 7)), (0, .ref 59)]) (st2 := [.int 1, .int (m.I 58 8), .int 0, .ref 59]) (h2 := (sh_rep m.T m.I m.J)) rfl rfl rfl ?_
    refine sh_w (i := .isub) (len := 1) (pc2 := 13) (lv2 := [(1, .int (m.I 58 7)), (0, .ref 59)]) (st2 := [.int ((m.I 58 8) - 1), .int 0, .ref 59]) (h2 := (sh_rep m.T m.I m.J)) rfl rfl rfl ?_
    exact kk
  rcases sh_bt_e e with ⟨m11, e1, rfl⟩ | ⟨r1, m11, e1, e⟩
  · obtain ⟨rfl, rfl⟩ := tg
    exact sh_Lk_tV (k2 := 201) (a := 58) (as := [.ref 59, .int 0, .int ((m.I 58 8) - 1)]) (rest := []) rfl rfl rfl (fun hT => hT.t58) rfl rfl ⟨Nat.le_of_ble_eq_true rfl, Nat.le_of_ble_eq_true rfl⟩ (sl_201 e1 ⟨rfl, rfl⟩) rfl (Nat.le_of_ble_eq_true rfl) (Nat.le_of_ble_eq_true rfl) (Nat.le_of_ble_eq_true rfl) (Nat.le_of_ble_eq_true rfl) rfl
  refine sh_Lk_cV (r := (some (.int r1))) (st2 := [.int r1]) (pc2 := 16) (k2 := 201) (a := 58) (as := [.ref 59, .int 0, .int ((m.I 58 8) - 1)]) (rest := []) rfl rfl rfl (fun hT => hT.t58) rfl rfl ⟨Nat.le_of_ble_eq_true rfl, Nat.le_of_ble_eq_true rfl⟩ (sl_201 e1 ⟨rfl, rfl⟩) rfl rfl (Nat.le_of_ble_eq_true rfl) (Nat.le_of_ble_eq_true rfl) ?_
  refine sh_Lk_lift (T := m11.T) (I := m11.I) (J := m11.J) (s := m11.s) (pc2 := 21) (lv2 := [(2, .int r1), (1, .int (m.I 58 7)), (0, .ref 59)]) (st2 := [.int 4000, .int r1]) (I2 := m11.I) (J2 := m11.J) (fun hT v kk => ?_) ?_
  · refine sh_w (i := (.istore_n 2)) (len := 1) (pc2 := 17) (lv2 := [(2, .int r1), (1, .int (m.I 58 7)), (0, .ref 59)]) (st2 := []) (h2 := (sh_rep m11.T m11.I m11.J)) rfl rfl rfl ?_
    refine sh_w (i := (.iload_n 2)) (len := 1) (pc2 := 18) (lv2 := [(2, .int r1), (1, .int (m.I 58 7)), (0, .ref 59)]) (st2 := [.int r1]) (h2 := (sh_rep m11.T m11.I m11.J)) rfl rfl rfl ?_
    refine sh_w (i := (.sipush 4000)) (len := 3) (pc2 := 21) (lv2 := [(2, .int r1), (1, .int (m.I 58 7)), (0, .ref 59)]) (st2 := [.int 4000, .int r1]) (h2 := (sh_rep m11.T m11.I m11.J)) rfl rfl rfl ?_
    exact kk
  rcases sh_ite e with ⟨c, e⟩ | ⟨c, e⟩
  · refine sh_Lk_lift (T := m11.T) (I := m11.I) (J := m11.J) (s := m11.s) (pc2 := 29) (lv2 := [(2, .int r1), (1, .int (m.I 58 7)), (0, .ref 59)]) (st2 := [.int r1, .ref 60]) (I2 := m11.I) (J2 := m11.J) (fun hT v kk => ?_) ?_
    · refine sh_jc (c := .ge) (off := (13)) (pc2 := 24) false rfl (sh_Bgef c) rfl ?_
      refine sh_w (i := (.aload_n 0)) (len := 1) (pc2 := 25) (lv2 := [(2, .int r1), (1, .int (m.I 58 7)), (0, .ref 59)]) (st2 := [.ref 59]) (h2 := (sh_rep m11.T m11.I m11.J)) rfl rfl rfl ?_
      refine sh_gR1 (len := 3) (x := .ref 60) (pc2 := 28) rfl rfl hT.t58 rfl rfl ?_
      refine sh_w (i := (.iload_n 2)) (len := 1) (pc2 := 29) (lv2 := [(2, .int r1), (1, .int (m.I 58 7)), (0, .ref 59)]) (st2 := [.int r1, .ref 60]) (h2 := (sh_rep m11.T m11.I m11.J)) rfl rfl rfl ?_
      exact kk
    obtain ⟨c, e⟩ := sh_gd e
    refine sh_Lk_lift (T := m11.T) (I := m11.I) (J := m11.J) (s := m11.s) (pc2 := 31) (lv2 := [(2, .int r1), (1, .int (m.I 58 7)), (0, .ref 59)]) (st2 := [.int (-1), .int (m11.I 59 (Int32.toNatClampNeg r1))]) (I2 := m11.I) (J2 := m11.J) (fun hT v kk => ?_) ?_
    · refine sh_ia1 (x := m11.I 59 (Int32.toNatClampNeg r1)) (pc2 := 30) rfl (sh_s59 hT.st) (sh_okb1 c) (sh_okb2 c) rfl rfl ?_
      refine sh_w (i := (.iconst (-1))) (len := 1) (pc2 := 31) (lv2 := [(2, .int r1), (1, .int (m.I 58 7)), (0, .ref 59)]) (st2 := [.int (-1), .int (m11.I 59 (Int32.toNatClampNeg r1))]) (h2 := (sh_rep m11.T m11.I m11.J)) rfl rfl rfl ?_
      exact kk
    rcases sh_ite e with ⟨c, e⟩ | ⟨c, e⟩
    · refine sh_Lk_lift (T := m11.T) (I := m11.I) (J := m11.J) (s := m11.s) (pc2 := 39) (lv2 := [(2, .int r1), (1, .int (m.I 58 7)), (0, .ref 59)]) (st2 := []) (I2 := m11.I) (J2 := m11.J) (fun hT v kk => ?_) ?_
      · refine sh_jc (c := .eq) (off := (8)) (pc2 := 39) true rfl (sh_Beqt c) rfl ?_
        exact kk
      exact sh_Lk_sub (sh_sub_c rfl (sh_sub_c rfl (sh_sub_n))) (sl_210_39 e tg)
    · refine sh_Lk_lift (T := m11.T) (I := m11.I) (J := m11.J) (s := m11.s) (pc2 := 34) (lv2 := [(2, .int r1), (1, .int (m.I 58 7)), (0, .ref 59)]) (st2 := []) (I2 := m11.I) (J2 := m11.J) (fun hT v kk => ?_) ?_
      · refine sh_jc (c := .eq) (off := (8)) (pc2 := 34) false rfl (sh_Beqf c) rfl ?_
        exact kk
      exact sh_Lk_sub (sh_sub_c rfl (sh_sub_c rfl (sh_sub_c rfl (sh_sub_n)))) (sl_210_34 e tg)
  · refine sh_Lk_lift (T := m11.T) (I := m11.I) (J := m11.J) (s := m11.s) (pc2 := 34) (lv2 := [(2, .int r1), (1, .int (m.I 58 7)), (0, .ref 59)]) (st2 := []) (I2 := m11.I) (J2 := m11.J) (fun hT v kk => ?_) ?_
    · refine sh_jc (c := .ge) (off := (13)) (pc2 := 34) true rfl (sh_Bget c) rfl ?_
      exact kk
    exact sh_Lk_sub (sh_sub_c rfl (sh_sub_c rfl (sh_sub_c rfl (sh_sub_n)))) (sl_210_34 e tg)
theorem sl_211_2s {x1 : Nat} {x2 : Int32} {m m2 : sh_X} {o : Outcome} {z : ((Int32 × sh_X) ⊕ (Option Unit × sh_X))} (e : sf_211_2s x1 x2 m = some z) (tg : (sh_el (fun q => sh_Lk 211 2 [(0, .ref 59), (1, .ref (1000001 + x1)), (2, .int q.1)] [] q.2 o m2 30 600) (sh_tVt o m2)) z) : sh_Lk 211 2 [(0, .ref 59), (1, .ref (1000001 + x1)), (2, .int x2)] [] m o m2 30 600 := by
  unfold sf_211_2s at e
  refine sh_Lk_lift (T := m.T) (I := m.I) (J := m.J) (s := m.s) (pc2 := 4) (lv2 := [(0, .ref 59), (1, .ref (1000001 + x1)), (2, .int x2)]) (st2 := [.ref (1000001 + x1), .int x2]) (I2 := m.I) (J2 := m.J) (fun hT v kk => ?_) ?_
  · refine sh_w (i := (.iload_n 2)) (len := 1) (pc2 := 3) (lv2 := [(0, .ref 59), (1, .ref (1000001 + x1)), (2, .int x2)]) (st2 := [.int x2]) (h2 := (sh_rep m.T m.I m.J)) rfl rfl rfl ?_
    refine sh_w (i := (.aload_n 1)) (len := 1) (pc2 := 4) (lv2 := [(0, .ref 59), (1, .ref (1000001 + x1)), (2, .int x2)]) (st2 := [.ref (1000001 + x1), .int x2]) (h2 := (sh_rep m.T m.I m.J)) rfl rfl rfl ?_
    exact kk
  obtain ⟨c, e⟩ := sh_gd e
  refine sh_Lk_tl (j := x1) (pc2 := 7) rfl rfl rfl c (Nat.le_of_ble_eq_true rfl) rfl (Nat.le_of_ble_eq_true rfl) (Nat.le_of_ble_eq_true rfl) ?_
  rcases sh_ite e with ⟨c, e⟩ | ⟨c, e⟩
  · refine sh_Lk_lift (T := m.T) (I := m.I) (J := m.J) (s := m.s) (pc2 := 13) (lv2 := [(0, .ref 59), (1, .ref (1000001 + x1)), (2, .int x2)]) (st2 := [.int x2, .ref (1000001 + x1), .ref 59]) (I2 := m.I) (J2 := m.J) (fun hT v kk => ?_) ?_
    · refine sh_jc (c := .ge) (off := (18)) (pc2 := 10) false rfl (sh_Bgef c) rfl ?_
      refine sh_w (i := (.aload_n 0)) (len := 1) (pc2 := 11) (lv2 := [(0, .ref 59), (1, .ref (1000001 + x1)), (2, .int x2)]) (st2 := [.ref 59]) (h2 := (sh_rep m.T m.I m.J)) rfl rfl rfl ?_
      refine sh_w (i := (.aload_n 1)) (len := 1) (pc2 := 12) (lv2 := [(0, .ref 59), (1, .ref (1000001 + x1)), (2, .int x2)]) (st2 := [.ref (1000001 + x1), .ref 59]) (h2 := (sh_rep m.T m.I m.J)) rfl rfl rfl ?_
      refine sh_w (i := (.iload_n 2)) (len := 1) (pc2 := 13) (lv2 := [(0, .ref 59), (1, .ref (1000001 + x1)), (2, .int x2)]) (st2 := [.int x2, .ref (1000001 + x1), .ref 59]) (h2 := (sh_rep m.T m.I m.J)) rfl rfl rfl ?_
      exact kk
    obtain ⟨c, e⟩ := sh_gd e
    refine sh_Lk_tc (j := x1) (pc2 := 16) rfl rfl rfl c (Nat.le_of_ble_eq_true rfl) rfl (Nat.le_of_ble_eq_true rfl) (Nat.le_of_ble_eq_true rfl) ?_
    rcases sh_bt_e e with ⟨m11, e1, rfl⟩ | ⟨r1, m11, e1, e⟩
    · obtain ⟨rfl, rfl⟩ := tg
      exact sh_Lk_tV (k2 := 204) (a := 58) (as := [.ref 59, .int (sh_txc x1 x2)]) (rest := []) rfl rfl rfl (fun hT => hT.t58) rfl rfl ⟨Nat.le_of_ble_eq_true rfl, Nat.le_of_ble_eq_true rfl⟩ (sl_204 e1 ⟨rfl, rfl⟩) rfl (Nat.le_of_ble_eq_true rfl) (Nat.le_of_ble_eq_true rfl) (Nat.le_of_ble_eq_true rfl) (Nat.le_of_ble_eq_true rfl) rfl
    refine sh_Lk_cV (r := none) (st2 := []) (pc2 := 19) (k2 := 204) (a := 58) (as := [.ref 59, .int (sh_txc x1 x2)]) (rest := []) rfl rfl rfl (fun hT => hT.t58) rfl rfl ⟨Nat.le_of_ble_eq_true rfl, Nat.le_of_ble_eq_true rfl⟩ (sl_204 e1 ⟨rfl, rfl⟩) rfl rfl (Nat.le_of_ble_eq_true rfl) (Nat.le_of_ble_eq_true rfl) ?_
    refine sh_Lk_lift (T := m11.T) (I := m11.I) (J := m11.J) (s := m11.s) (pc2 := 2) (lv2 := [(2, .int (x2 + 1)), (0, .ref 59), (1, .ref (1000001 + x1))]) (st2 := []) (I2 := m11.I) (J2 := m11.J) (fun hT v kk => ?_) ?_
    · refine sh_w (i := (.iinc 2 1)) (len := 3) (pc2 := 22) (lv2 := [(2, .int (x2 + 1)), (0, .ref 59), (1, .ref (1000001 + x1))]) (st2 := []) (h2 := (sh_rep m11.T m11.I m11.J)) rfl rfl rfl ?_
      refine sh_w (i := (.goto (-20))) (len := 3) (pc2 := 2) (lv2 := [(2, .int (x2 + 1)), (0, .ref 59), (1, .ref (1000001 + x1))]) (st2 := []) (h2 := (sh_rep m11.T m11.I m11.J)) rfl rfl rfl ?_
      exact kk
    obtain rfl := Option.some.inj e
    exact sh_Lk_sub (sh_sub_c rfl (sh_sub_c rfl (sh_sub_c rfl (sh_sub_n)))) tg
  · refine sh_Lk_lift (T := m.T) (I := m.I) (J := m.J) (s := m.s) (pc2 := 25) (lv2 := [(0, .ref 59), (1, .ref (1000001 + x1)), (2, .int x2)]) (st2 := []) (I2 := m.I) (J2 := m.J) (fun hT v kk => ?_) ?_
    · refine sh_jc (c := .ge) (off := (18)) (pc2 := 25) true rfl (sh_Bget c) rfl ?_
      exact kk
    obtain rfl := Option.some.inj e
    obtain ⟨rfl, rfl⟩ := tg
    exact sh_Lk_ret (i := .return_) rfl rfl rfl (Nat.le_of_ble_eq_true rfl) (Nat.le_of_ble_eq_true rfl)
theorem sl_211_2 {x1 : Nat} {x2 : Int32} {m m2 : sh_X} {o : Outcome} {z : (Option Unit × sh_X)} (e : sf_211_2 x1 x2 m = some z) (tg : (sh_tVt o m2) z) : sh_Lk 211 2 [(0, .ref 59), (1, .ref (1000001 + x1)), (2, .int x2)] [] m o m2 30 600 := by
  unfold sf_211_2 at e
  exact sh_while_lk (P := fun q => sh_Lk 211 2 [(0, .ref 59), (1, .ref (1000001 + x1)), (2, .int q.1)] [] q.2 o m2 30 600) (Q := (sh_tVt o m2)) (fun q z e tg => sl_211_2s (x1 := x1) (x2 := q.1) (m := q.2) e tg) (s := (x2, m)) e tg
theorem sl_211 {x1 : Nat} {m m2 : sh_X} {o : Outcome} {z : (Option Unit × sh_X)} (e : sf_211 x1 m = some z) (tg : (sh_tVt o m2) z) : sh_Lk 211 0 [(0, .ref 59), (1, .ref (1000001 + x1))] [] m o m2 30 600 := by
  unfold sf_211 at e
  refine sh_Lk_lift (T := m.T) (I := m.I) (J := m.J) (s := m.s) (pc2 := 2) (lv2 := [(2, .int 0), (0, .ref 59), (1, .ref (1000001 + x1))]) (st2 := []) (I2 := m.I) (J2 := m.J) (fun hT v kk => ?_) ?_
  · refine sh_w (i := (.iconst 0)) (len := 1) (pc2 := 1) (lv2 := [(0, .ref 59), (1, .ref (1000001 + x1))]) (st2 := [.int 0]) (h2 := (sh_rep m.T m.I m.J)) rfl rfl rfl ?_
    refine sh_w (i := (.istore_n 2)) (len := 1) (pc2 := 2) (lv2 := [(2, .int 0), (0, .ref 59), (1, .ref (1000001 + x1))]) (st2 := []) (h2 := (sh_rep m.T m.I m.J)) rfl rfl rfl ?_
    exact kk
  exact sh_Lk_sub (sh_sub_c rfl (sh_sub_c rfl (sh_sub_c rfl (sh_sub_n)))) (sl_211_2 e tg)
theorem sl_208_185 {m m2 : sh_X} {o : Outcome} {z : (Option Unit × sh_X)} (e : sf_208_185 m = some z) (tg : (sh_tVt o m2) z) : sh_Lk 208 185 [(0, .ref 59)] [] m o m2 31 622 := by
  unfold sf_208_185 at e
  refine sh_Lk_lift (T := m.T) (I := m.I) (J := m.J) (s := m.s) (pc2 := 188) (lv2 := [(0, .ref 59)]) (st2 := [.int 10, .ref 59]) (I2 := m.I) (J2 := m.J) (fun hT v kk => ?_) ?_
  · refine sh_w (i := (.aload_n 0)) (len := 1) (pc2 := 186) (lv2 := [(0, .ref 59)]) (st2 := [.ref 59]) (h2 := (sh_rep m.T m.I m.J)) rfl rfl rfl ?_
    refine sh_w (i := (.bipush 10)) (len := 2) (pc2 := 188) (lv2 := [(0, .ref 59)]) (st2 := [.int 10, .ref 59]) (h2 := (sh_rep m.T m.I m.J)) rfl rfl rfl ?_
    exact kk
  rcases sh_bt_e e with ⟨m11, e1, rfl⟩ | ⟨r1, m11, e1, e⟩
  · obtain ⟨rfl, rfl⟩ := tg
    exact sh_Lk_tV (k2 := 204) (a := 58) (as := [.ref 59, .int 10]) (rest := []) rfl rfl rfl (fun hT => hT.t58) rfl rfl ⟨Nat.le_of_ble_eq_true rfl, Nat.le_of_ble_eq_true rfl⟩ (sl_204 e1 ⟨rfl, rfl⟩) rfl (Nat.le_of_ble_eq_true rfl) (Nat.le_of_ble_eq_true rfl) (Nat.le_of_ble_eq_true rfl) (Nat.le_of_ble_eq_true rfl) rfl
  refine sh_Lk_cV (r := none) (st2 := []) (pc2 := 191) (k2 := 204) (a := 58) (as := [.ref 59, .int 10]) (rest := []) rfl rfl rfl (fun hT => hT.t58) rfl rfl ⟨Nat.le_of_ble_eq_true rfl, Nat.le_of_ble_eq_true rfl⟩ (sl_204 e1 ⟨rfl, rfl⟩) rfl rfl (Nat.le_of_ble_eq_true rfl) (Nat.le_of_ble_eq_true rfl) ?_
  obtain rfl := Option.some.inj e
  obtain ⟨rfl, rfl⟩ := tg
  exact sh_Lk_ret (i := .return_) rfl rfl rfl (Nat.le_of_ble_eq_true rfl) (Nat.le_of_ble_eq_true rfl)
theorem sl_208_94 {x1 : Int32} {x2 : Int32} {x3 : Int32} {x4 : Int32} {m m2 : sh_X} {o : Outcome} {z : (Option Unit × sh_X)} (e : sf_208_94 x1 x2 x3 x4 m = some z) (tg : (sh_tVt o m2) z) : sh_Lk 208 94 [(0, .ref 59), (1, .int x1), (2, .int x2), (3, .int x3), (4, .int x4)] [] m o m2 31 622 := by
  unfold sf_208_94 at e
  refine sh_Lk_lift (T := m.T) (I := m.I) (J := m.J) (s := m.s) (pc2 := 96) (lv2 := [(0, .ref 59), (1, .int x1), (2, .int x2), (3, .int x3), (4, .int x4)]) (st2 := [.int 2, .int x1]) (I2 := m.I) (J2 := m.J) (fun hT v kk => ?_) ?_
  · refine sh_w (i := (.iload_n 1)) (len := 1) (pc2 := 95) (lv2 := [(0, .ref 59), (1, .int x1), (2, .int x2), (3, .int x3), (4, .int x4)]) (st2 := [.int x1]) (h2 := (sh_rep m.T m.I m.J)) rfl rfl rfl ?_
    refine sh_w (i := (.iconst 2)) (len := 1) (pc2 := 96) (lv2 := [(0, .ref 59), (1, .int x1), (2, .int x2), (3, .int x3), (4, .int x4)]) (st2 := [.int 2, .int x1]) (h2 := (sh_rep m.T m.I m.J)) rfl rfl rfl ?_
    exact kk
  rcases sh_ite e with ⟨c, e⟩ | ⟨c, e⟩
  · refine sh_Lk_lift (T := m.T) (I := m.I) (J := m.J) (s := m.s) (pc2 := 102) (lv2 := [(0, .ref 59), (1, .int x1), (2, .int x2), (3, .int x3), (4, .int x4)]) (st2 := [.ref 1000004, .ref 59]) (I2 := m.I) (J2 := m.J) (fun hT v kk => ?_) ?_
    · refine sh_jc (c := .ne) (off := (38)) (pc2 := 99) false rfl (sh_Bnef c) rfl ?_
      refine sh_w (i := (.aload_n 0)) (len := 1) (pc2 := 100) (lv2 := [(0, .ref 59), (1, .int x1), (2, .int x2), (3, .int x3), (4, .int x4)]) (st2 := [.ref 59]) (h2 := (sh_rep m.T m.I m.J)) rfl rfl rfl ?_
      refine sh_w (i := (.ldc 124)) (len := 2) (pc2 := 102) (lv2 := [(0, .ref 59), (1, .int x1), (2, .int x2), (3, .int x3), (4, .int x4)]) (st2 := [.ref 1000004, .ref 59]) (h2 := (sh_rep m.T m.I m.J)) rfl rfl rfl ?_
      exact kk
    rcases sh_bt_e e with ⟨m11, e1, rfl⟩ | ⟨r1, m11, e1, e⟩
    · obtain ⟨rfl, rfl⟩ := tg
      exact sh_Lk_tV (k2 := 211) (a := 58) (as := [.ref 59, .ref 1000004]) (rest := []) rfl rfl rfl (fun hT => hT.t58) rfl rfl ⟨Nat.le_of_ble_eq_true rfl, Nat.le_of_ble_eq_true rfl⟩ (sl_211 e1 ⟨rfl, rfl⟩) rfl (Nat.le_of_ble_eq_true rfl) (Nat.le_of_ble_eq_true rfl) (Nat.le_of_ble_eq_true rfl) (Nat.le_of_ble_eq_true rfl) rfl
    refine sh_Lk_cV (r := none) (st2 := []) (pc2 := 105) (k2 := 211) (a := 58) (as := [.ref 59, .ref 1000004]) (rest := []) rfl rfl rfl (fun hT => hT.t58) rfl rfl ⟨Nat.le_of_ble_eq_true rfl, Nat.le_of_ble_eq_true rfl⟩ (sl_211 e1 ⟨rfl, rfl⟩) rfl rfl (Nat.le_of_ble_eq_true rfl) (Nat.le_of_ble_eq_true rfl) ?_
    refine sh_Lk_lift (T := m11.T) (I := m11.I) (J := m11.J) (s := m11.s) (pc2 := 117) (lv2 := [(0, .ref 59), (1, .int x1), (2, .int x2), (3, .int x3), (4, .int x4)]) (st2 := [.int x3, .int x2, .ref 10, .int x4, .ref 60]) (I2 := m11.I) (J2 := m11.J) (fun hT v kk => ?_) ?_
    · refine sh_w (i := (.aload_n 0)) (len := 1) (pc2 := 106) (lv2 := [(0, .ref 59), (1, .int x1), (2, .int x2), (3, .int x3), (4, .int x4)]) (st2 := [.ref 59]) (h2 := (sh_rep m11.T m11.I m11.J)) rfl rfl rfl ?_
      refine sh_gR1 (len := 3) (x := .ref 60) (pc2 := 109) rfl rfl hT.t58 rfl rfl ?_
      refine sh_w (i := (.iload 4)) (len := 2) (pc2 := 111) (lv2 := [(0, .ref 59), (1, .int x1), (2, .int x2), (3, .int x3), (4, .int x4)]) (st2 := [.int x4, .ref 60]) (h2 := (sh_rep m11.T m11.I m11.J)) rfl rfl rfl ?_
      refine sh_w (i := (.aload_n 0)) (len := 1) (pc2 := 112) (lv2 := [(0, .ref 59), (1, .int x1), (2, .int x2), (3, .int x3), (4, .int x4)]) (st2 := [.ref 59, .int x4, .ref 60]) (h2 := (sh_rep m11.T m11.I m11.J)) rfl rfl rfl ?_
      refine sh_gR1 (len := 3) (x := .ref 10) (pc2 := 115) rfl rfl hT.t58 rfl rfl ?_
      refine sh_w (i := (.iload_n 2)) (len := 1) (pc2 := 116) (lv2 := [(0, .ref 59), (1, .int x1), (2, .int x2), (3, .int x3), (4, .int x4)]) (st2 := [.int x2, .ref 10, .int x4, .ref 60]) (h2 := (sh_rep m11.T m11.I m11.J)) rfl rfl rfl ?_
      refine sh_w (i := (.iload_n 3)) (len := 1) (pc2 := 117) (lv2 := [(0, .ref 59), (1, .int x1), (2, .int x2), (3, .int x3), (4, .int x4)]) (st2 := [.int x3, .int x2, .ref 10, .int x4, .ref 60]) (h2 := (sh_rep m11.T m11.I m11.J)) rfl rfl rfl ?_
      exact kk
    obtain ⟨r2, m12, e2, e⟩ := sh_bn_e e
    refine sh_Lk_cV (r := (some (.int r2))) (st2 := [.int r2, .int x4, .ref 60]) (pc2 := 120) (k2 := 132) (a := 9) (as := [.ref 10, .int x2, .int x3]) (rest := [.int x4, .ref 60]) rfl rfl rfl (fun hT => hT.t9) rfl rfl ⟨Nat.le_of_ble_eq_true rfl, Nat.le_of_ble_eq_true rfl⟩ (sl_132 e2 ⟨rfl, rfl⟩) rfl rfl (Nat.le_of_ble_eq_true rfl) (Nat.le_of_ble_eq_true rfl) ?_
    obtain ⟨c, e⟩ := sh_gd e
    refine sh_Lk_lift (T := m12.T) (I := m12.I) (J := m12.J) (s := m12.s) (pc2 := 185) (lv2 := [(0, .ref 59), (1, .int x1), (2, .int x2), (3, .int x3), (4, .int x4)]) (st2 := []) (I2 := sh_u2 (sh_u2 m12.I 59 (Int32.toNatClampNeg x4) r2) 58 10 ((m12.I 58 10) + 1)) (J2 := m12.J) (fun hT v kk => ?_) ?_
    · refine sh_is1 (x := r2) (i := x4) (pc2 := 121) rfl (sh_s59 hT.st) (sh_okb1 c) (sh_okb2 c) rfl ?_
      refine sh_w (i := (.aload_n 0)) (len := 1) (pc2 := 122) (lv2 := [(0, .ref 59), (1, .int x1), (2, .int x2), (3, .int x3), (4, .int x4)]) (st2 := [.ref 59]) (h2 := (sh_rep m12.T (sh_u2 m12.I 59 (Int32.toNatClampNeg x4) r2) m12.J)) rfl rfl rfl ?_
      refine sh_w (i := .dup) (len := 1) (pc2 := 123) (lv2 := [(0, .ref 59), (1, .int x1), (2, .int x2), (3, .int x3), (4, .int x4)]) (st2 := [.ref 59, .ref 59]) (h2 := (sh_rep m12.T (sh_u2 m12.I 59 (Int32.toNatClampNeg x4) r2) m12.J)) rfl rfl rfl ?_
      refine sh_gI1 (len := 3) (x := m12.I 58 10) (pc2 := 126) rfl rfl hT.t58 rfl rfl rfl ?_
      refine sh_w (i := (.iconst 1)) (len := 1) (pc2 := 127) (lv2 := [(0, .ref 59), (1, .int x1), (2, .int x2), (3, .int x3), (4, .int x4)]) (st2 := [.int 1, .int (m12.I 58 10), .ref 59]) (h2 := (sh_rep m12.T (sh_u2 m12.I 59 (Int32.toNatClampNeg x4) r2) m12.J)) rfl rfl rfl ?_
      refine sh_w (i := .iadd) (len := 1) (pc2 := 128) (lv2 := [(0, .ref 59), (1, .int x1), (2, .int x2), (3, .int x3), (4, .int x4)]) (st2 := [.int ((m12.I 58 10) + 1), .ref 59]) (h2 := (sh_rep m12.T (sh_u2 m12.I 59 (Int32.toNatClampNeg x4) r2) m12.J)) rfl rfl rfl ?_
      refine sh_pI1 (x := (m12.I 58 10) + 1) (pc2 := 131) rfl rfl hT.t58 rfl rfl rfl rfl ?_
      refine sh_w (i := (.goto 54)) (len := 3) (pc2 := 185) (lv2 := [(0, .ref 59), (1, .int x1), (2, .int x2), (3, .int x3), (4, .int x4)]) (st2 := []) (h2 := (sh_rep m12.T (sh_u2 (sh_u2 m12.I 59 (Int32.toNatClampNeg x4) r2) 58 10 ((m12.I 58 10) + 1)) m12.J)) rfl rfl rfl ?_
      exact kk
    exact sh_Lk_sub (sh_sub_c rfl (sh_sub_n)) (sl_208_185 e tg)
  · refine sh_Lk_lift (T := m.T) (I := m.I) (J := m.J) (s := m.s) (pc2 := 139) (lv2 := [(0, .ref 59), (1, .int x1), (2, .int x2), (3, .int x3), (4, .int x4)]) (st2 := [.int (m.I 58 7), .ref 59]) (I2 := m.I) (J2 := m.J) (fun hT v kk => ?_) ?_
    · refine sh_jc (c := .ne) (off := (38)) (pc2 := 134) true rfl (sh_Bnet c) rfl ?_
      refine sh_w (i := (.aload_n 0)) (len := 1) (pc2 := 135) (lv2 := [(0, .ref 59), (1, .int x1), (2, .int x2), (3, .int x3), (4, .int x4)]) (st2 := [.ref 59]) (h2 := (sh_rep m.T m.I m.J)) rfl rfl rfl ?_
      refine sh_w (i := (.aload_n 0)) (len := 1) (pc2 := 136) (lv2 := [(0, .ref 59), (1, .int x1), (2, .int x2), (3, .int x3), (4, .int x4)]) (st2 := [.ref 59, .ref 59]) (h2 := (sh_rep m.T m.I m.J)) rfl rfl rfl ?_
      refine sh_gI1 (len := 3) (x := m.I 58 7) (pc2 := 139) rfl rfl hT.t58 rfl rfl rfl ?_
      exact kk
    obtain ⟨r3, e3, e⟩ := sh_bc_e e
    refine sh_Lk_cV (r := (some (.int r3))) (st2 := [.int r3]) (pc2 := 142) (k2 := 202) (a := 58) (as := [.ref 59, .int (m.I 58 7)]) (rest := []) rfl rfl rfl (fun hT => hT.t58) rfl rfl ⟨Nat.le_of_ble_eq_true rfl, Nat.le_of_ble_eq_true rfl⟩ (sl_202 e3 ⟨rfl, rfl⟩) rfl rfl (Nat.le_of_ble_eq_true rfl) (Nat.le_of_ble_eq_true rfl) ?_
    refine sh_Lk_lift (T := m.T) (I := m.I) (J := m.J) (s := m.s) (pc2 := 144) (lv2 := [(0, .ref 59), (1, .int x1), (2, .int x2), (3, .int x3), (4, .int x4)]) (st2 := [.int 73, .int r3]) (I2 := m.I) (J2 := m.J) (fun hT v kk => ?_) ?_
    · refine sh_w (i := (.bipush 73)) (len := 2) (pc2 := 144) (lv2 := [(0, .ref 59), (1, .int x1), (2, .int x2), (3, .int x3), (4, .int x4)]) (st2 := [.int 73, .int r3]) (h2 := (sh_rep m.T m.I m.J)) rfl rfl rfl ?_
      exact kk
    rcases sh_ite e with ⟨c, e⟩ | ⟨c, e⟩
    · refine sh_Lk_lift (T := m.T) (I := m.I) (J := m.J) (s := m.s) (pc2 := 150) (lv2 := [(0, .ref 59), (1, .int x1), (2, .int x2), (3, .int x3), (4, .int x4)]) (st2 := [.ref 1000005, .ref 59]) (I2 := m.I) (J2 := m.J) (fun hT v kk => ?_) ?_
      · refine sh_jc (c := .ne) (off := (27)) (pc2 := 147) false rfl (sh_Bnef c) rfl ?_
        refine sh_w (i := (.aload_n 0)) (len := 1) (pc2 := 148) (lv2 := [(0, .ref 59), (1, .int x1), (2, .int x2), (3, .int x3), (4, .int x4)]) (st2 := [.ref 59]) (h2 := (sh_rep m.T m.I m.J)) rfl rfl rfl ?_
        refine sh_w (i := (.ldc 129)) (len := 2) (pc2 := 150) (lv2 := [(0, .ref 59), (1, .int x1), (2, .int x2), (3, .int x3), (4, .int x4)]) (st2 := [.ref 1000005, .ref 59]) (h2 := (sh_rep m.T m.I m.J)) rfl rfl rfl ?_
        exact kk
      rcases sh_bt_e e with ⟨m14, e4, rfl⟩ | ⟨r4, m14, e4, e⟩
      · obtain ⟨rfl, rfl⟩ := tg
        exact sh_Lk_tV (k2 := 211) (a := 58) (as := [.ref 59, .ref 1000005]) (rest := []) rfl rfl rfl (fun hT => hT.t58) rfl rfl ⟨Nat.le_of_ble_eq_true rfl, Nat.le_of_ble_eq_true rfl⟩ (sl_211 e4 ⟨rfl, rfl⟩) rfl (Nat.le_of_ble_eq_true rfl) (Nat.le_of_ble_eq_true rfl) (Nat.le_of_ble_eq_true rfl) (Nat.le_of_ble_eq_true rfl) rfl
      refine sh_Lk_cV (r := none) (st2 := []) (pc2 := 153) (k2 := 211) (a := 58) (as := [.ref 59, .ref 1000005]) (rest := []) rfl rfl rfl (fun hT => hT.t58) rfl rfl ⟨Nat.le_of_ble_eq_true rfl, Nat.le_of_ble_eq_true rfl⟩ (sl_211 e4 ⟨rfl, rfl⟩) rfl rfl (Nat.le_of_ble_eq_true rfl) (Nat.le_of_ble_eq_true rfl) ?_
      refine sh_Lk_lift (T := m14.T) (I := m14.I) (J := m14.J) (s := m14.s) (pc2 := 164) (lv2 := [(0, .ref 59), (1, .int x1), (2, .int x2), (3, .int x3), (4, .int x4)]) (st2 := [.int x2, .ref 10, .int x4, .ref 60]) (I2 := m14.I) (J2 := m14.J) (fun hT v kk => ?_) ?_
      · refine sh_w (i := (.aload_n 0)) (len := 1) (pc2 := 154) (lv2 := [(0, .ref 59), (1, .int x1), (2, .int x2), (3, .int x3), (4, .int x4)]) (st2 := [.ref 59]) (h2 := (sh_rep m14.T m14.I m14.J)) rfl rfl rfl ?_
        refine sh_gR1 (len := 3) (x := .ref 60) (pc2 := 157) rfl rfl hT.t58 rfl rfl ?_
        refine sh_w (i := (.iload 4)) (len := 2) (pc2 := 159) (lv2 := [(0, .ref 59), (1, .int x1), (2, .int x2), (3, .int x3), (4, .int x4)]) (st2 := [.int x4, .ref 60]) (h2 := (sh_rep m14.T m14.I m14.J)) rfl rfl rfl ?_
        refine sh_w (i := (.aload_n 0)) (len := 1) (pc2 := 160) (lv2 := [(0, .ref 59), (1, .int x1), (2, .int x2), (3, .int x3), (4, .int x4)]) (st2 := [.ref 59, .int x4, .ref 60]) (h2 := (sh_rep m14.T m14.I m14.J)) rfl rfl rfl ?_
        refine sh_gR1 (len := 3) (x := .ref 10) (pc2 := 163) rfl rfl hT.t58 rfl rfl ?_
        refine sh_w (i := (.iload_n 2)) (len := 1) (pc2 := 164) (lv2 := [(0, .ref 59), (1, .int x1), (2, .int x2), (3, .int x3), (4, .int x4)]) (st2 := [.int x2, .ref 10, .int x4, .ref 60]) (h2 := (sh_rep m14.T m14.I m14.J)) rfl rfl rfl ?_
        exact kk
      obtain ⟨r5, m15, e5, e⟩ := sh_bn_e e
      refine sh_Lk_cV (r := (some (.int r5))) (st2 := [.int r5, .int x4, .ref 60]) (pc2 := 167) (k2 := 141) (a := 9) (as := [.ref 10, .int x2]) (rest := [.int x4, .ref 60]) rfl rfl rfl (fun hT => hT.t9) rfl rfl ⟨Nat.le_of_ble_eq_true rfl, Nat.le_of_ble_eq_true rfl⟩ (sl_141 e5 ⟨rfl, rfl⟩) rfl rfl (Nat.le_of_ble_eq_true rfl) (Nat.le_of_ble_eq_true rfl) ?_
      obtain ⟨c, e⟩ := sh_gd e
      refine sh_Lk_lift (T := m15.T) (I := m15.I) (J := m15.J) (s := m15.s) (pc2 := 185) (lv2 := [(0, .ref 59), (1, .int x1), (2, .int x2), (3, .int x3), (4, .int x4)]) (st2 := []) (I2 := sh_u2 m15.I 59 (Int32.toNatClampNeg x4) r5) (J2 := m15.J) (fun hT v kk => ?_) ?_
      · refine sh_is1 (x := r5) (i := x4) (pc2 := 168) rfl (sh_s59 hT.st) (sh_okb1 c) (sh_okb2 c) rfl ?_
        refine sh_w (i := (.goto 17)) (len := 3) (pc2 := 185) (lv2 := [(0, .ref 59), (1, .int x1), (2, .int x2), (3, .int x3), (4, .int x4)]) (st2 := []) (h2 := (sh_rep m15.T (sh_u2 m15.I 59 (Int32.toNatClampNeg x4) r5) m15.J)) rfl rfl rfl ?_
        exact kk
      exact sh_Lk_sub (sh_sub_c rfl (sh_sub_n)) (sl_208_185 e tg)
    · refine sh_Lk_lift (T := m.T) (I := m.I) (J := m.J) (s := m.s) (pc2 := 174) (lv2 := [(0, .ref 59), (1, .int x1), (2, .int x2), (3, .int x3), (4, .int x4)]) (st2 := [.ref 1000006, .ref 59]) (I2 := m.I) (J2 := m.J) (fun hT v kk => ?_) ?_
      · refine sh_jc (c := .ne) (off := (27)) (pc2 := 171) true rfl (sh_Bnet c) rfl ?_
        refine sh_w (i := (.aload_n 0)) (len := 1) (pc2 := 172) (lv2 := [(0, .ref 59), (1, .int x1), (2, .int x2), (3, .int x3), (4, .int x4)]) (st2 := [.ref 59]) (h2 := (sh_rep m.T m.I m.J)) rfl rfl rfl ?_
        refine sh_w (i := (.ldc 134)) (len := 2) (pc2 := 174) (lv2 := [(0, .ref 59), (1, .int x1), (2, .int x2), (3, .int x3), (4, .int x4)]) (st2 := [.ref 1000006, .ref 59]) (h2 := (sh_rep m.T m.I m.J)) rfl rfl rfl ?_
        exact kk
      rcases sh_bt_e e with ⟨m16, e6, rfl⟩ | ⟨r6, m16, e6, e⟩
      · obtain ⟨rfl, rfl⟩ := tg
        exact sh_Lk_tV (k2 := 211) (a := 58) (as := [.ref 59, .ref 1000006]) (rest := []) rfl rfl rfl (fun hT => hT.t58) rfl rfl ⟨Nat.le_of_ble_eq_true rfl, Nat.le_of_ble_eq_true rfl⟩ (sl_211 e6 ⟨rfl, rfl⟩) rfl (Nat.le_of_ble_eq_true rfl) (Nat.le_of_ble_eq_true rfl) (Nat.le_of_ble_eq_true rfl) (Nat.le_of_ble_eq_true rfl) rfl
      refine sh_Lk_cV (r := none) (st2 := []) (pc2 := 177) (k2 := 211) (a := 58) (as := [.ref 59, .ref 1000006]) (rest := []) rfl rfl rfl (fun hT => hT.t58) rfl rfl ⟨Nat.le_of_ble_eq_true rfl, Nat.le_of_ble_eq_true rfl⟩ (sl_211 e6 ⟨rfl, rfl⟩) rfl rfl (Nat.le_of_ble_eq_true rfl) (Nat.le_of_ble_eq_true rfl) ?_
      refine sh_Lk_lift (T := m16.T) (I := m16.I) (J := m16.J) (s := m16.s) (pc2 := 184) (lv2 := [(0, .ref 59), (1, .int x1), (2, .int x2), (3, .int x3), (4, .int x4)]) (st2 := [.int x2, .int x4, .ref 60]) (I2 := m16.I) (J2 := m16.J) (fun hT v kk => ?_) ?_
      · refine sh_w (i := (.aload_n 0)) (len := 1) (pc2 := 178) (lv2 := [(0, .ref 59), (1, .int x1), (2, .int x2), (3, .int x3), (4, .int x4)]) (st2 := [.ref 59]) (h2 := (sh_rep m16.T m16.I m16.J)) rfl rfl rfl ?_
        refine sh_gR1 (len := 3) (x := .ref 60) (pc2 := 181) rfl rfl hT.t58 rfl rfl ?_
        refine sh_w (i := (.iload 4)) (len := 2) (pc2 := 183) (lv2 := [(0, .ref 59), (1, .int x1), (2, .int x2), (3, .int x3), (4, .int x4)]) (st2 := [.int x4, .ref 60]) (h2 := (sh_rep m16.T m16.I m16.J)) rfl rfl rfl ?_
        refine sh_w (i := (.iload_n 2)) (len := 1) (pc2 := 184) (lv2 := [(0, .ref 59), (1, .int x1), (2, .int x2), (3, .int x3), (4, .int x4)]) (st2 := [.int x2, .int x4, .ref 60]) (h2 := (sh_rep m16.T m16.I m16.J)) rfl rfl rfl ?_
        exact kk
      obtain ⟨c, e⟩ := sh_gd e
      refine sh_Lk_lift (T := m16.T) (I := m16.I) (J := m16.J) (s := m16.s) (pc2 := 185) (lv2 := [(0, .ref 59), (1, .int x1), (2, .int x2), (3, .int x3), (4, .int x4)]) (st2 := []) (I2 := sh_u2 m16.I 59 (Int32.toNatClampNeg x4) x2) (J2 := m16.J) (fun hT v kk => ?_) ?_
      · refine sh_is1 (x := x2) (i := x4) (pc2 := 185) rfl (sh_s59 hT.st) (sh_okb1 c) (sh_okb2 c) rfl ?_
        exact kk
      exact sh_Lk_sub (sh_sub_c rfl (sh_sub_n)) (sl_208_185 e tg)
theorem sl_208_44 {x1 : Int32} {x2 : Int32} {y0 : Int32} {m m2 : sh_X} {o : Outcome} {z : (Option Unit × sh_X)} (e : sf_208_44 x1 x2 y0 m = some z) (tg : (sh_tVt o m2) z) : sh_Lk 208 44 [(0, .ref 59), (1, .int x1), (2, .int x2)] [.int y0] m o m2 31 622 := by
  unfold sf_208_44 at e
  refine sh_Lk_lift (T := m.T) (I := m.I) (J := m.J) (s := m.s) (pc2 := 46) (lv2 := [(3, .int y0), (0, .ref 59), (1, .int x1), (2, .int x2)]) (st2 := [.ref 59]) (I2 := m.I) (J2 := m.J) (fun hT v kk => ?_) ?_
  · refine sh_w (i := (.istore_n 3)) (len := 1) (pc2 := 45) (lv2 := [(3, .int y0), (0, .ref 59), (1, .int x1), (2, .int x2)]) (st2 := []) (h2 := (sh_rep m.T m.I m.J)) rfl rfl rfl ?_
    refine sh_w (i := (.aload_n 0)) (len := 1) (pc2 := 46) (lv2 := [(3, .int y0), (0, .ref 59), (1, .int x1), (2, .int x2)]) (st2 := [.ref 59]) (h2 := (sh_rep m.T m.I m.J)) rfl rfl rfl ?_
    exact kk
  rcases sh_bt_e e with ⟨m11, e1, rfl⟩ | ⟨r1, m11, e1, e⟩
  · obtain ⟨rfl, rfl⟩ := tg
    exact sh_Lk_tV (k2 := 210) (a := 58) (as := [.ref 59]) (rest := []) rfl rfl rfl (fun hT => hT.t58) rfl rfl ⟨Nat.le_of_ble_eq_true rfl, Nat.le_of_ble_eq_true rfl⟩ (sl_210 e1 ⟨rfl, rfl⟩) rfl (Nat.le_of_ble_eq_true rfl) (Nat.le_of_ble_eq_true rfl) (Nat.le_of_ble_eq_true rfl) (Nat.le_of_ble_eq_true rfl) rfl
  refine sh_Lk_cV (r := (some (.int r1))) (st2 := [.int r1]) (pc2 := 49) (k2 := 210) (a := 58) (as := [.ref 59]) (rest := []) rfl rfl rfl (fun hT => hT.t58) rfl rfl ⟨Nat.le_of_ble_eq_true rfl, Nat.le_of_ble_eq_true rfl⟩ (sl_210 e1 ⟨rfl, rfl⟩) rfl rfl (Nat.le_of_ble_eq_true rfl) (Nat.le_of_ble_eq_true rfl) ?_
  refine sh_Lk_lift (T := m11.T) (I := m11.I) (J := m11.J) (s := m11.s) (pc2 := 53) (lv2 := [(4, .int r1), (3, .int y0), (0, .ref 59), (1, .int x1), (2, .int x2)]) (st2 := [.int 2, .int x1]) (I2 := m11.I) (J2 := m11.J) (fun hT v kk => ?_) ?_
  · refine sh_w (i := (.istore 4)) (len := 2) (pc2 := 51) (lv2 := [(4, .int r1), (3, .int y0), (0, .ref 59), (1, .int x1), (2, .int x2)]) (st2 := []) (h2 := (sh_rep m11.T m11.I m11.J)) rfl rfl rfl ?_
    refine sh_w (i := (.iload_n 1)) (len := 1) (pc2 := 52) (lv2 := [(4, .int r1), (3, .int y0), (0, .ref 59), (1, .int x1), (2, .int x2)]) (st2 := [.int x1]) (h2 := (sh_rep m11.T m11.I m11.J)) rfl rfl rfl ?_
    refine sh_w (i := (.iconst 2)) (len := 1) (pc2 := 53) (lv2 := [(4, .int r1), (3, .int y0), (0, .ref 59), (1, .int x1), (2, .int x2)]) (st2 := [.int 2, .int x1]) (h2 := (sh_rep m11.T m11.I m11.J)) rfl rfl rfl ?_
    exact kk
  rcases sh_ite e with ⟨c, e⟩ | ⟨c, e⟩
  · refine sh_Lk_lift (T := m11.T) (I := m11.I) (J := m11.J) (s := m11.s) (pc2 := 61) (lv2 := [(4, .int r1), (3, .int y0), (0, .ref 59), (1, .int x1), (2, .int x2)]) (st2 := [.int (m11.I 58 7), .ref 59]) (I2 := m11.I) (J2 := m11.J) (fun hT v kk => ?_) ?_
    · refine sh_jc (c := .ne) (off := (41)) (pc2 := 56) false rfl (sh_Bnef c) rfl ?_
      refine sh_w (i := (.aload_n 0)) (len := 1) (pc2 := 57) (lv2 := [(4, .int r1), (3, .int y0), (0, .ref 59), (1, .int x1), (2, .int x2)]) (st2 := [.ref 59]) (h2 := (sh_rep m11.T m11.I m11.J)) rfl rfl rfl ?_
      refine sh_w (i := (.aload_n 0)) (len := 1) (pc2 := 58) (lv2 := [(4, .int r1), (3, .int y0), (0, .ref 59), (1, .int x1), (2, .int x2)]) (st2 := [.ref 59, .ref 59]) (h2 := (sh_rep m11.T m11.I m11.J)) rfl rfl rfl ?_
      refine sh_gI1 (len := 3) (x := m11.I 58 7) (pc2 := 61) rfl rfl hT.t58 rfl rfl rfl ?_
      exact kk
    obtain ⟨r2, e2, e⟩ := sh_bc_e e
    refine sh_Lk_cV (r := (some (.int r2))) (st2 := [.int r2]) (pc2 := 64) (k2 := 202) (a := 58) (as := [.ref 59, .int (m11.I 58 7)]) (rest := []) rfl rfl rfl (fun hT => hT.t58) rfl rfl ⟨Nat.le_of_ble_eq_true rfl, Nat.le_of_ble_eq_true rfl⟩ (sl_202 e2 ⟨rfl, rfl⟩) rfl rfl (Nat.le_of_ble_eq_true rfl) (Nat.le_of_ble_eq_true rfl) ?_
    refine sh_Lk_lift (T := m11.T) (I := m11.I) (J := m11.J) (s := m11.s) (pc2 := 66) (lv2 := [(4, .int r1), (3, .int y0), (0, .ref 59), (1, .int x1), (2, .int x2)]) (st2 := [.int 88, .int r2]) (I2 := m11.I) (J2 := m11.J) (fun hT v kk => ?_) ?_
    · refine sh_w (i := (.bipush 88)) (len := 2) (pc2 := 66) (lv2 := [(4, .int r1), (3, .int y0), (0, .ref 59), (1, .int x1), (2, .int x2)]) (st2 := [.int 88, .int r2]) (h2 := (sh_rep m11.T m11.I m11.J)) rfl rfl rfl ?_
      exact kk
    rcases sh_ite e with ⟨c, e⟩ | ⟨c, e⟩
    · refine sh_Lk_lift (T := m11.T) (I := m11.I) (J := m11.J) (s := m11.s) (pc2 := 72) (lv2 := [(4, .int r1), (3, .int y0), (0, .ref 59), (1, .int x1), (2, .int x2)]) (st2 := [.ref 1000003, .ref 59]) (I2 := m11.I) (J2 := m11.J) (fun hT v kk => ?_) ?_
      · refine sh_jc (c := .ne) (off := (28)) (pc2 := 69) false rfl (sh_Bnef c) rfl ?_
        refine sh_w (i := (.aload_n 0)) (len := 1) (pc2 := 70) (lv2 := [(4, .int r1), (3, .int y0), (0, .ref 59), (1, .int x1), (2, .int x2)]) (st2 := [.ref 59]) (h2 := (sh_rep m11.T m11.I m11.J)) rfl rfl rfl ?_
        refine sh_w (i := (.ldc 115)) (len := 2) (pc2 := 72) (lv2 := [(4, .int r1), (3, .int y0), (0, .ref 59), (1, .int x1), (2, .int x2)]) (st2 := [.ref 1000003, .ref 59]) (h2 := (sh_rep m11.T m11.I m11.J)) rfl rfl rfl ?_
        exact kk
      rcases sh_bt_e e with ⟨m13, e3, rfl⟩ | ⟨r3, m13, e3, e⟩
      · obtain ⟨rfl, rfl⟩ := tg
        exact sh_Lk_tV (k2 := 211) (a := 58) (as := [.ref 59, .ref 1000003]) (rest := []) rfl rfl rfl (fun hT => hT.t58) rfl rfl ⟨Nat.le_of_ble_eq_true rfl, Nat.le_of_ble_eq_true rfl⟩ (sl_211 e3 ⟨rfl, rfl⟩) rfl (Nat.le_of_ble_eq_true rfl) (Nat.le_of_ble_eq_true rfl) (Nat.le_of_ble_eq_true rfl) (Nat.le_of_ble_eq_true rfl) rfl
      refine sh_Lk_cV (r := none) (st2 := []) (pc2 := 75) (k2 := 211) (a := 58) (as := [.ref 59, .ref 1000003]) (rest := []) rfl rfl rfl (fun hT => hT.t58) rfl rfl ⟨Nat.le_of_ble_eq_true rfl, Nat.le_of_ble_eq_true rfl⟩ (sl_211 e3 ⟨rfl, rfl⟩) rfl rfl (Nat.le_of_ble_eq_true rfl) (Nat.le_of_ble_eq_true rfl) ?_
      refine sh_Lk_lift (T := m13.T) (I := m13.I) (J := m13.J) (s := m13.s) (pc2 := 87) (lv2 := [(4, .int r1), (3, .int y0), (0, .ref 59), (1, .int x1), (2, .int x2)]) (st2 := [.int y0, .int x2, .ref 10, .int r1, .ref 60]) (I2 := m13.I) (J2 := m13.J) (fun hT v kk => ?_) ?_
      · refine sh_w (i := (.aload_n 0)) (len := 1) (pc2 := 76) (lv2 := [(4, .int r1), (3, .int y0), (0, .ref 59), (1, .int x1), (2, .int x2)]) (st2 := [.ref 59]) (h2 := (sh_rep m13.T m13.I m13.J)) rfl rfl rfl ?_
        refine sh_gR1 (len := 3) (x := .ref 60) (pc2 := 79) rfl rfl hT.t58 rfl rfl ?_
        refine sh_w (i := (.iload 4)) (len := 2) (pc2 := 81) (lv2 := [(4, .int r1), (3, .int y0), (0, .ref 59), (1, .int x1), (2, .int x2)]) (st2 := [.int r1, .ref 60]) (h2 := (sh_rep m13.T m13.I m13.J)) rfl rfl rfl ?_
        refine sh_w (i := (.aload_n 0)) (len := 1) (pc2 := 82) (lv2 := [(4, .int r1), (3, .int y0), (0, .ref 59), (1, .int x1), (2, .int x2)]) (st2 := [.ref 59, .int r1, .ref 60]) (h2 := (sh_rep m13.T m13.I m13.J)) rfl rfl rfl ?_
        refine sh_gR1 (len := 3) (x := .ref 10) (pc2 := 85) rfl rfl hT.t58 rfl rfl ?_
        refine sh_w (i := (.iload_n 2)) (len := 1) (pc2 := 86) (lv2 := [(4, .int r1), (3, .int y0), (0, .ref 59), (1, .int x1), (2, .int x2)]) (st2 := [.int x2, .ref 10, .int r1, .ref 60]) (h2 := (sh_rep m13.T m13.I m13.J)) rfl rfl rfl ?_
        refine sh_w (i := (.iload_n 3)) (len := 1) (pc2 := 87) (lv2 := [(4, .int r1), (3, .int y0), (0, .ref 59), (1, .int x1), (2, .int x2)]) (st2 := [.int y0, .int x2, .ref 10, .int r1, .ref 60]) (h2 := (sh_rep m13.T m13.I m13.J)) rfl rfl rfl ?_
        exact kk
      obtain ⟨r4, m14, e4, e⟩ := sh_bn_e e
      refine sh_Lk_cV (r := (some (.int r4))) (st2 := [.int r4, .int r1, .ref 60]) (pc2 := 90) (k2 := 130) (a := 9) (as := [.ref 10, .int x2, .int y0]) (rest := [.int r1, .ref 60]) rfl rfl rfl (fun hT => hT.t9) rfl rfl ⟨Nat.le_of_ble_eq_true rfl, Nat.le_of_ble_eq_true rfl⟩ (sl_130 e4 ⟨rfl, rfl⟩) rfl rfl (Nat.le_of_ble_eq_true rfl) (Nat.le_of_ble_eq_true rfl) ?_
      obtain ⟨c, e⟩ := sh_gd e
      refine sh_Lk_lift (T := m14.T) (I := m14.I) (J := m14.J) (s := m14.s) (pc2 := 185) (lv2 := [(4, .int r1), (3, .int y0), (0, .ref 59), (1, .int x1), (2, .int x2)]) (st2 := []) (I2 := sh_u2 m14.I 59 (Int32.toNatClampNeg r1) r4) (J2 := m14.J) (fun hT v kk => ?_) ?_
      · refine sh_is1 (x := r4) (i := r1) (pc2 := 91) rfl (sh_s59 hT.st) (sh_okb1 c) (sh_okb2 c) rfl ?_
        refine sh_w (i := (.goto 94)) (len := 3) (pc2 := 185) (lv2 := [(4, .int r1), (3, .int y0), (0, .ref 59), (1, .int x1), (2, .int x2)]) (st2 := []) (h2 := (sh_rep m14.T (sh_u2 m14.I 59 (Int32.toNatClampNeg r1) r4) m14.J)) rfl rfl rfl ?_
        exact kk
      exact sh_Lk_sub (sh_sub_c rfl (sh_sub_n)) (sl_208_185 e tg)
    · refine sh_Lk_lift (T := m11.T) (I := m11.I) (J := m11.J) (s := m11.s) (pc2 := 94) (lv2 := [(4, .int r1), (3, .int y0), (0, .ref 59), (1, .int x1), (2, .int x2)]) (st2 := []) (I2 := m11.I) (J2 := m11.J) (fun hT v kk => ?_) ?_
      · refine sh_jc (c := .ne) (off := (28)) (pc2 := 94) true rfl (sh_Bnet c) rfl ?_
        exact kk
      exact sh_Lk_sub (sh_sub_c rfl (sh_sub_c rfl (sh_sub_c rfl (sh_sub_c rfl (sh_sub_c rfl (sh_sub_n)))))) (sl_208_94 e tg)
  · refine sh_Lk_lift (T := m11.T) (I := m11.I) (J := m11.J) (s := m11.s) (pc2 := 94) (lv2 := [(4, .int r1), (3, .int y0), (0, .ref 59), (1, .int x1), (2, .int x2)]) (st2 := []) (I2 := m11.I) (J2 := m11.J) (fun hT v kk => ?_) ?_
    · refine sh_jc (c := .ne) (off := (41)) (pc2 := 94) true rfl (sh_Bnet c) rfl ?_
      exact kk
    exact sh_Lk_sub (sh_sub_c rfl (sh_sub_c rfl (sh_sub_c rfl (sh_sub_c rfl (sh_sub_c rfl (sh_sub_n)))))) (sl_208_94 e tg)
theorem sl_208 {m m2 : sh_X} {o : Outcome} {z : (Option Unit × sh_X)} (e : sf_208 m = some z) (tg : (sh_tVt o m2) z) : sh_Lk 208 0 [(0, .ref 59)] [] m o m2 31 622 := by
  unfold sf_208 at e
  refine sh_Lk_lift (T := m.T) (I := m.I) (J := m.J) (s := m.s) (pc2 := 3) (lv2 := [(0, .ref 59)]) (st2 := [.int 2, .int 1, .ref 59]) (I2 := m.I) (J2 := m.J) (fun hT v kk => ?_) ?_
  · refine sh_w (i := (.aload_n 0)) (len := 1) (pc2 := 1) (lv2 := [(0, .ref 59)]) (st2 := [.ref 59]) (h2 := (sh_rep m.T m.I m.J)) rfl rfl rfl ?_
    refine sh_w (i := (.iconst 1)) (len := 1) (pc2 := 2) (lv2 := [(0, .ref 59)]) (st2 := [.int 1, .ref 59]) (h2 := (sh_rep m.T m.I m.J)) rfl rfl rfl ?_
    refine sh_w (i := (.iconst 2)) (len := 1) (pc2 := 3) (lv2 := [(0, .ref 59)]) (st2 := [.int 2, .int 1, .ref 59]) (h2 := (sh_rep m.T m.I m.J)) rfl rfl rfl ?_
    exact kk
  rcases sh_bt_e e with ⟨m11, e1, rfl⟩ | ⟨r1, m11, e1, e⟩
  · obtain ⟨rfl, rfl⟩ := tg
    exact sh_Lk_tV (k2 := 201) (a := 58) (as := [.ref 59, .int 1, .int 2]) (rest := []) rfl rfl rfl (fun hT => hT.t58) rfl rfl ⟨Nat.le_of_ble_eq_true rfl, Nat.le_of_ble_eq_true rfl⟩ (sl_201 e1 ⟨rfl, rfl⟩) rfl (Nat.le_of_ble_eq_true rfl) (Nat.le_of_ble_eq_true rfl) (Nat.le_of_ble_eq_true rfl) (Nat.le_of_ble_eq_true rfl) rfl
  refine sh_Lk_cV (r := (some (.int r1))) (st2 := [.int r1]) (pc2 := 6) (k2 := 201) (a := 58) (as := [.ref 59, .int 1, .int 2]) (rest := []) rfl rfl rfl (fun hT => hT.t58) rfl rfl ⟨Nat.le_of_ble_eq_true rfl, Nat.le_of_ble_eq_true rfl⟩ (sl_201 e1 ⟨rfl, rfl⟩) rfl rfl (Nat.le_of_ble_eq_true rfl) (Nat.le_of_ble_eq_true rfl) ?_
  refine sh_Lk_lift (T := m11.T) (I := m11.I) (J := m11.J) (s := m11.s) (pc2 := 10) (lv2 := [(1, .int r1), (0, .ref 59)]) (st2 := [.int 32, .ref 59]) (I2 := m11.I) (J2 := m11.J) (fun hT v kk => ?_) ?_
  · refine sh_w (i := (.istore_n 1)) (len := 1) (pc2 := 7) (lv2 := [(1, .int r1), (0, .ref 59)]) (st2 := []) (h2 := (sh_rep m11.T m11.I m11.J)) rfl rfl rfl ?_
    refine sh_w (i := (.aload_n 0)) (len := 1) (pc2 := 8) (lv2 := [(1, .int r1), (0, .ref 59)]) (st2 := [.ref 59]) (h2 := (sh_rep m11.T m11.I m11.J)) rfl rfl rfl ?_
    refine sh_w (i := (.bipush 32)) (len := 2) (pc2 := 10) (lv2 := [(1, .int r1), (0, .ref 59)]) (st2 := [.int 32, .ref 59]) (h2 := (sh_rep m11.T m11.I m11.J)) rfl rfl rfl ?_
    exact kk
  rcases sh_bt_e e with ⟨m12, e2, rfl⟩ | ⟨r2, m12, e2, e⟩
  · obtain ⟨rfl, rfl⟩ := tg
    exact sh_Lk_tV (k2 := 204) (a := 58) (as := [.ref 59, .int 32]) (rest := []) rfl rfl rfl (fun hT => hT.t58) rfl rfl ⟨Nat.le_of_ble_eq_true rfl, Nat.le_of_ble_eq_true rfl⟩ (sl_204 e2 ⟨rfl, rfl⟩) rfl (Nat.le_of_ble_eq_true rfl) (Nat.le_of_ble_eq_true rfl) (Nat.le_of_ble_eq_true rfl) (Nat.le_of_ble_eq_true rfl) rfl
  refine sh_Lk_cV (r := none) (st2 := []) (pc2 := 13) (k2 := 204) (a := 58) (as := [.ref 59, .int 32]) (rest := []) rfl rfl rfl (fun hT => hT.t58) rfl rfl ⟨Nat.le_of_ble_eq_true rfl, Nat.le_of_ble_eq_true rfl⟩ (sl_204 e2 ⟨rfl, rfl⟩) rfl rfl (Nat.le_of_ble_eq_true rfl) (Nat.le_of_ble_eq_true rfl) ?_
  refine sh_Lk_lift (T := m12.T) (I := m12.I) (J := m12.J) (s := m12.s) (pc2 := 16) (lv2 := [(1, .int r1), (0, .ref 59)]) (st2 := [.int 1, .int 1, .ref 59]) (I2 := m12.I) (J2 := m12.J) (fun hT v kk => ?_) ?_
  · refine sh_w (i := (.aload_n 0)) (len := 1) (pc2 := 14) (lv2 := [(1, .int r1), (0, .ref 59)]) (st2 := [.ref 59]) (h2 := (sh_rep m12.T m12.I m12.J)) rfl rfl rfl ?_
    refine sh_w (i := (.iconst 1)) (len := 1) (pc2 := 15) (lv2 := [(1, .int r1), (0, .ref 59)]) (st2 := [.int 1, .ref 59]) (h2 := (sh_rep m12.T m12.I m12.J)) rfl rfl rfl ?_
    refine sh_w (i := (.iconst 1)) (len := 1) (pc2 := 16) (lv2 := [(1, .int r1), (0, .ref 59)]) (st2 := [.int 1, .int 1, .ref 59]) (h2 := (sh_rep m12.T m12.I m12.J)) rfl rfl rfl ?_
    exact kk
  rcases sh_bt_e e with ⟨m13, e3, rfl⟩ | ⟨r3, m13, e3, e⟩
  · obtain ⟨rfl, rfl⟩ := tg
    exact sh_Lk_tV (k2 := 201) (a := 58) (as := [.ref 59, .int 1, .int 1]) (rest := []) rfl rfl rfl (fun hT => hT.t58) rfl rfl ⟨Nat.le_of_ble_eq_true rfl, Nat.le_of_ble_eq_true rfl⟩ (sl_201 e3 ⟨rfl, rfl⟩) rfl (Nat.le_of_ble_eq_true rfl) (Nat.le_of_ble_eq_true rfl) (Nat.le_of_ble_eq_true rfl) (Nat.le_of_ble_eq_true rfl) rfl
  refine sh_Lk_cV (r := (some (.int r3))) (st2 := [.int r3]) (pc2 := 19) (k2 := 201) (a := 58) (as := [.ref 59, .int 1, .int 1]) (rest := []) rfl rfl rfl (fun hT => hT.t58) rfl rfl ⟨Nat.le_of_ble_eq_true rfl, Nat.le_of_ble_eq_true rfl⟩ (sl_201 e3 ⟨rfl, rfl⟩) rfl rfl (Nat.le_of_ble_eq_true rfl) (Nat.le_of_ble_eq_true rfl) ?_
  refine sh_Lk_lift (T := m13.T) (I := m13.I) (J := m13.J) (s := m13.s) (pc2 := 23) (lv2 := [(1, .int r1), (0, .ref 59)]) (st2 := [.int 32, .ref 59]) (I2 := m13.I) (J2 := m13.J) (fun hT v kk => ?_) ?_
  · refine sh_w (i := .pop) (len := 1) (pc2 := 20) (lv2 := [(1, .int r1), (0, .ref 59)]) (st2 := []) (h2 := (sh_rep m13.T m13.I m13.J)) rfl rfl rfl ?_
    refine sh_w (i := (.aload_n 0)) (len := 1) (pc2 := 21) (lv2 := [(1, .int r1), (0, .ref 59)]) (st2 := [.ref 59]) (h2 := (sh_rep m13.T m13.I m13.J)) rfl rfl rfl ?_
    refine sh_w (i := (.bipush 32)) (len := 2) (pc2 := 23) (lv2 := [(1, .int r1), (0, .ref 59)]) (st2 := [.int 32, .ref 59]) (h2 := (sh_rep m13.T m13.I m13.J)) rfl rfl rfl ?_
    exact kk
  rcases sh_bt_e e with ⟨m14, e4, rfl⟩ | ⟨r4, m14, e4, e⟩
  · obtain ⟨rfl, rfl⟩ := tg
    exact sh_Lk_tV (k2 := 204) (a := 58) (as := [.ref 59, .int 32]) (rest := []) rfl rfl rfl (fun hT => hT.t58) rfl rfl ⟨Nat.le_of_ble_eq_true rfl, Nat.le_of_ble_eq_true rfl⟩ (sl_204 e4 ⟨rfl, rfl⟩) rfl (Nat.le_of_ble_eq_true rfl) (Nat.le_of_ble_eq_true rfl) (Nat.le_of_ble_eq_true rfl) (Nat.le_of_ble_eq_true rfl) rfl
  refine sh_Lk_cV (r := none) (st2 := []) (pc2 := 26) (k2 := 204) (a := 58) (as := [.ref 59, .int 32]) (rest := []) rfl rfl rfl (fun hT => hT.t58) rfl rfl ⟨Nat.le_of_ble_eq_true rfl, Nat.le_of_ble_eq_true rfl⟩ (sl_204 e4 ⟨rfl, rfl⟩) rfl rfl (Nat.le_of_ble_eq_true rfl) (Nat.le_of_ble_eq_true rfl) ?_
  refine sh_Lk_lift (T := m14.T) (I := m14.I) (J := m14.J) (s := m14.s) (pc2 := 27) (lv2 := [(1, .int r1), (0, .ref 59)]) (st2 := [.ref 59]) (I2 := m14.I) (J2 := m14.J) (fun hT v kk => ?_) ?_
  · refine sh_w (i := (.aload_n 0)) (len := 1) (pc2 := 27) (lv2 := [(1, .int r1), (0, .ref 59)]) (st2 := [.ref 59]) (h2 := (sh_rep m14.T m14.I m14.J)) rfl rfl rfl ?_
    exact kk
  rcases sh_bt_e e with ⟨m15, e5, rfl⟩ | ⟨r5, m15, e5, e⟩
  · obtain ⟨rfl, rfl⟩ := tg
    exact sh_Lk_tV (k2 := 209) (a := 58) (as := [.ref 59]) (rest := []) rfl rfl rfl (fun hT => hT.t58) rfl rfl ⟨Nat.le_of_ble_eq_true rfl, Nat.le_of_ble_eq_true rfl⟩ (sl_209 e5 ⟨rfl, rfl⟩) rfl (Nat.le_of_ble_eq_true rfl) (Nat.le_of_ble_eq_true rfl) (Nat.le_of_ble_eq_true rfl) (Nat.le_of_ble_eq_true rfl) rfl
  refine sh_Lk_cV (r := (some (.int r5))) (st2 := [.int r5]) (pc2 := 30) (k2 := 209) (a := 58) (as := [.ref 59]) (rest := []) rfl rfl rfl (fun hT => hT.t58) rfl rfl ⟨Nat.le_of_ble_eq_true rfl, Nat.le_of_ble_eq_true rfl⟩ (sl_209 e5 ⟨rfl, rfl⟩) rfl rfl (Nat.le_of_ble_eq_true rfl) (Nat.le_of_ble_eq_true rfl) ?_
  refine sh_Lk_lift (T := m15.T) (I := m15.I) (J := m15.J) (s := m15.s) (pc2 := 33) (lv2 := [(2, .int r5), (1, .int r1), (0, .ref 59)]) (st2 := [.int 2, .int r1]) (I2 := m15.I) (J2 := m15.J) (fun hT v kk => ?_) ?_
  · refine sh_w (i := (.istore_n 2)) (len := 1) (pc2 := 31) (lv2 := [(2, .int r5), (1, .int r1), (0, .ref 59)]) (st2 := []) (h2 := (sh_rep m15.T m15.I m15.J)) rfl rfl rfl ?_
    refine sh_w (i := (.iload_n 1)) (len := 1) (pc2 := 32) (lv2 := [(2, .int r5), (1, .int r1), (0, .ref 59)]) (st2 := [.int r1]) (h2 := (sh_rep m15.T m15.I m15.J)) rfl rfl rfl ?_
    refine sh_w (i := (.iconst 2)) (len := 1) (pc2 := 33) (lv2 := [(2, .int r5), (1, .int r1), (0, .ref 59)]) (st2 := [.int 2, .int r1]) (h2 := (sh_rep m15.T m15.I m15.J)) rfl rfl rfl ?_
    exact kk
  rcases sh_ite e with ⟨c, e⟩ | ⟨c, e⟩
  · refine sh_Lk_lift (T := m15.T) (I := m15.I) (J := m15.J) (s := m15.s) (pc2 := 37) (lv2 := [(2, .int r5), (1, .int r1), (0, .ref 59)]) (st2 := [.ref 59]) (I2 := m15.I) (J2 := m15.J) (fun hT v kk => ?_) ?_
    · refine sh_jc (c := .ne) (off := (10)) (pc2 := 36) false rfl (sh_Bnef c) rfl ?_
      refine sh_w (i := (.aload_n 0)) (len := 1) (pc2 := 37) (lv2 := [(2, .int r5), (1, .int r1), (0, .ref 59)]) (st2 := [.ref 59]) (h2 := (sh_rep m15.T m15.I m15.J)) rfl rfl rfl ?_
      exact kk
    rcases sh_bt_e e with ⟨m16, e6, rfl⟩ | ⟨r6, m16, e6, e⟩
    · obtain ⟨rfl, rfl⟩ := tg
      exact sh_Lk_tV (k2 := 209) (a := 58) (as := [.ref 59]) (rest := []) rfl rfl rfl (fun hT => hT.t58) rfl rfl ⟨Nat.le_of_ble_eq_true rfl, Nat.le_of_ble_eq_true rfl⟩ (sl_209 e6 ⟨rfl, rfl⟩) rfl (Nat.le_of_ble_eq_true rfl) (Nat.le_of_ble_eq_true rfl) (Nat.le_of_ble_eq_true rfl) (Nat.le_of_ble_eq_true rfl) rfl
    refine sh_Lk_cV (r := (some (.int r6))) (st2 := [.int r6]) (pc2 := 40) (k2 := 209) (a := 58) (as := [.ref 59]) (rest := []) rfl rfl rfl (fun hT => hT.t58) rfl rfl ⟨Nat.le_of_ble_eq_true rfl, Nat.le_of_ble_eq_true rfl⟩ (sl_209 e6 ⟨rfl, rfl⟩) rfl rfl (Nat.le_of_ble_eq_true rfl) (Nat.le_of_ble_eq_true rfl) ?_
    refine sh_Lk_lift (T := m16.T) (I := m16.I) (J := m16.J) (s := m16.s) (pc2 := 44) (lv2 := [(2, .int r5), (1, .int r1), (0, .ref 59)]) (st2 := [.int r6]) (I2 := m16.I) (J2 := m16.J) (fun hT v kk => ?_) ?_
    · refine sh_w (i := (.goto 4)) (len := 3) (pc2 := 44) (lv2 := [(2, .int r5), (1, .int r1), (0, .ref 59)]) (st2 := [.int r6]) (h2 := (sh_rep m16.T m16.I m16.J)) rfl rfl rfl ?_
      exact kk
    exact sh_Lk_sub (sh_sub_c rfl (sh_sub_c rfl (sh_sub_c rfl (sh_sub_n)))) (sl_208_44 e tg)
  · refine sh_Lk_lift (T := m15.T) (I := m15.I) (J := m15.J) (s := m15.s) (pc2 := 44) (lv2 := [(2, .int r5), (1, .int r1), (0, .ref 59)]) (st2 := [.int r5]) (I2 := m15.I) (J2 := m15.J) (fun hT v kk => ?_) ?_
    · refine sh_jc (c := .ne) (off := (10)) (pc2 := 43) true rfl (sh_Bnet c) rfl ?_
      refine sh_w (i := (.iload_n 2)) (len := 1) (pc2 := 44) (lv2 := [(2, .int r5), (1, .int r1), (0, .ref 59)]) (st2 := [.int r5]) (h2 := (sh_rep m15.T m15.I m15.J)) rfl rfl rfl ?_
      exact kk
    exact sh_Lk_sub (sh_sub_c rfl (sh_sub_c rfl (sh_sub_c rfl (sh_sub_n)))) (sl_208_44 e tg)
theorem sl_212_53 {x2 : Int32} {m m2 : sh_X} {o : Outcome} {z : ((Int32 × sh_X) ⊕ (Option Unit × sh_X))} (e : sf_212_53 x2 m = some z) (tg : (sh_el (fun q => sh_Lk 212 20 [(0, .ref 59), (2, .int q.1)] [] q.2 o m2 10 244) (sh_tVt o m2)) z) : sh_Lk 212 53 [(0, .ref 59), (2, .int x2)] [] m o m2 10 244 := by
  unfold sf_212_53 at e
  refine sh_Lk_lift (T := m.T) (I := m.I) (J := m.J) (s := m.s) (pc2 := 62) (lv2 := [(0, .ref 59), (2, .int x2)]) (st2 := [.int x2, .ref 60, .ref 24]) (I2 := m.I) (J2 := m.J) (fun hT v kk => ?_) ?_
  · refine sh_w (i := (.aload_n 0)) (len := 1) (pc2 := 54) (lv2 := [(0, .ref 59), (2, .int x2)]) (st2 := [.ref 59]) (h2 := (sh_rep m.T m.I m.J)) rfl rfl rfl ?_
    refine sh_gR1 (len := 3) (x := .ref 24) (pc2 := 57) rfl rfl hT.t58 rfl rfl ?_
    refine sh_w (i := (.aload_n 0)) (len := 1) (pc2 := 58) (lv2 := [(0, .ref 59), (2, .int x2)]) (st2 := [.ref 59, .ref 24]) (h2 := (sh_rep m.T m.I m.J)) rfl rfl rfl ?_
    refine sh_gR1 (len := 3) (x := .ref 60) (pc2 := 61) rfl rfl hT.t58 rfl rfl ?_
    refine sh_w (i := (.iload_n 2)) (len := 1) (pc2 := 62) (lv2 := [(0, .ref 59), (2, .int x2)]) (st2 := [.int x2, .ref 60, .ref 24]) (h2 := (sh_rep m.T m.I m.J)) rfl rfl rfl ?_
    exact kk
  obtain ⟨c, e⟩ := sh_gd e
  refine sh_Lk_lift (T := m.T) (I := m.I) (J := m.J) (s := m.s) (pc2 := 63) (lv2 := [(0, .ref 59), (2, .int x2)]) (st2 := [.int (m.I 59 (Int32.toNatClampNeg x2)), .ref 24]) (I2 := m.I) (J2 := m.J) (fun hT v kk => ?_) ?_
  · refine sh_ia1 (x := m.I 59 (Int32.toNatClampNeg x2)) (pc2 := 63) rfl (sh_s59 hT.st) (sh_okb1 c) (sh_okb2 c) rfl rfl ?_
    exact kk
  obtain ⟨r1, m11, e1, e⟩ := sh_bn_e e
  refine sh_Lk_cV (r := none) (st2 := []) (pc2 := 66) (k2 := 104) (a := 23) (as := [.ref 24, .int (m.I 59 (Int32.toNatClampNeg x2))]) (rest := []) rfl rfl rfl (fun hT => (sh_s23 hT.st)) rfl rfl ⟨Nat.le_of_ble_eq_true rfl, Nat.le_of_ble_eq_true rfl⟩ (sl_104 (by decide) e1 ⟨rfl, rfl⟩) rfl rfl (Nat.le_of_ble_eq_true rfl) (Nat.le_of_ble_eq_true rfl) ?_
  refine sh_Lk_lift (T := m11.T) (I := m11.I) (J := m11.J) (s := m11.s) (pc2 := 20) (lv2 := [(2, .int (x2 + 1)), (0, .ref 59)]) (st2 := []) (I2 := m11.I) (J2 := m11.J) (fun hT v kk => ?_) ?_
  · refine sh_w (i := (.iinc 2 1)) (len := 3) (pc2 := 69) (lv2 := [(2, .int (x2 + 1)), (0, .ref 59)]) (st2 := []) (h2 := (sh_rep m11.T m11.I m11.J)) rfl rfl rfl ?_
    refine sh_w (i := (.goto (-49))) (len := 3) (pc2 := 20) (lv2 := [(2, .int (x2 + 1)), (0, .ref 59)]) (st2 := []) (h2 := (sh_rep m11.T m11.I m11.J)) rfl rfl rfl ?_
    exact kk
  obtain rfl := Option.some.inj e
  exact sh_Lk_sub (sh_sub_c rfl (sh_sub_c rfl (sh_sub_n))) tg
theorem sl_212_20s {x2 : Int32} {m m2 : sh_X} {o : Outcome} {z : ((Int32 × sh_X) ⊕ (Option Unit × sh_X))} (e : sf_212_20s x2 m = some z) (tg : (sh_el (fun q => sh_Lk 212 20 [(0, .ref 59), (2, .int q.1)] [] q.2 o m2 10 244) (sh_tVt o m2)) z) : sh_Lk 212 20 [(0, .ref 59), (2, .int x2)] [] m o m2 10 244 := by
  unfold sf_212_20s at e
  refine sh_Lk_lift (T := m.T) (I := m.I) (J := m.J) (s := m.s) (pc2 := 25) (lv2 := [(0, .ref 59), (2, .int x2)]) (st2 := [.int (m.I 58 8), .int x2]) (I2 := m.I) (J2 := m.J) (fun hT v kk => ?_) ?_
  · refine sh_w (i := (.iload_n 2)) (len := 1) (pc2 := 21) (lv2 := [(0, .ref 59), (2, .int x2)]) (st2 := [.int x2]) (h2 := (sh_rep m.T m.I m.J)) rfl rfl rfl ?_
    refine sh_w (i := (.aload_n 0)) (len := 1) (pc2 := 22) (lv2 := [(0, .ref 59), (2, .int x2)]) (st2 := [.ref 59, .int x2]) (h2 := (sh_rep m.T m.I m.J)) rfl rfl rfl ?_
    refine sh_gI1 (len := 3) (x := m.I 58 8) (pc2 := 25) rfl rfl hT.t58 rfl rfl rfl ?_
    exact kk
  rcases sh_ite e with ⟨c, e⟩ | ⟨c, e⟩
  · refine sh_Lk_lift (T := m.T) (I := m.I) (J := m.J) (s := m.s) (pc2 := 32) (lv2 := [(0, .ref 59), (2, .int x2)]) (st2 := [.int 4000, .int x2]) (I2 := m.I) (J2 := m.J) (fun hT v kk => ?_) ?_
    · refine sh_jc (c := .ge) (off := (47)) (pc2 := 28) false rfl (sh_Bgef c) rfl ?_
      refine sh_w (i := (.iload_n 2)) (len := 1) (pc2 := 29) (lv2 := [(0, .ref 59), (2, .int x2)]) (st2 := [.int x2]) (h2 := (sh_rep m.T m.I m.J)) rfl rfl rfl ?_
      refine sh_w (i := (.sipush 4000)) (len := 3) (pc2 := 32) (lv2 := [(0, .ref 59), (2, .int x2)]) (st2 := [.int 4000, .int x2]) (h2 := (sh_rep m.T m.I m.J)) rfl rfl rfl ?_
      exact kk
    rcases sh_ite e with ⟨c, e⟩ | ⟨c, e⟩
    · refine sh_Lk_lift (T := m.T) (I := m.I) (J := m.J) (s := m.s) (pc2 := 40) (lv2 := [(0, .ref 59), (2, .int x2)]) (st2 := [.int x2, .ref 60]) (I2 := m.I) (J2 := m.J) (fun hT v kk => ?_) ?_
      · refine sh_jc (c := .ge) (off := (40)) (pc2 := 35) false rfl (sh_Bgef c) rfl ?_
        refine sh_w (i := (.aload_n 0)) (len := 1) (pc2 := 36) (lv2 := [(0, .ref 59), (2, .int x2)]) (st2 := [.ref 59]) (h2 := (sh_rep m.T m.I m.J)) rfl rfl rfl ?_
        refine sh_gR1 (len := 3) (x := .ref 60) (pc2 := 39) rfl rfl hT.t58 rfl rfl ?_
        refine sh_w (i := (.iload_n 2)) (len := 1) (pc2 := 40) (lv2 := [(0, .ref 59), (2, .int x2)]) (st2 := [.int x2, .ref 60]) (h2 := (sh_rep m.T m.I m.J)) rfl rfl rfl ?_
        exact kk
      obtain ⟨c, e⟩ := sh_gd e
      refine sh_Lk_lift (T := m.T) (I := m.I) (J := m.J) (s := m.s) (pc2 := 42) (lv2 := [(0, .ref 59), (2, .int x2)]) (st2 := [.int (-1), .int (m.I 59 (Int32.toNatClampNeg x2))]) (I2 := m.I) (J2 := m.J) (fun hT v kk => ?_) ?_
      · refine sh_ia1 (x := m.I 59 (Int32.toNatClampNeg x2)) (pc2 := 41) rfl (sh_s59 hT.st) (sh_okb1 c) (sh_okb2 c) rfl rfl ?_
        refine sh_w (i := (.iconst (-1))) (len := 1) (pc2 := 42) (lv2 := [(0, .ref 59), (2, .int x2)]) (st2 := [.int (-1), .int (m.I 59 (Int32.toNatClampNeg x2))]) (h2 := (sh_rep m.T m.I m.J)) rfl rfl rfl ?_
        exact kk
      rcases sh_ite e with ⟨c, e⟩ | ⟨c, e⟩
      · refine sh_Lk_lift (T := m.T) (I := m.I) (J := m.J) (s := m.s) (pc2 := 50) (lv2 := [(0, .ref 59), (2, .int x2)]) (st2 := [.int (m.I 58 6), .ref 59]) (I2 := m.I) (J2 := m.J) (fun hT v kk => ?_) ?_
        · refine sh_jc (c := .ne) (off := (11)) (pc2 := 45) false rfl (sh_Bnef c) rfl ?_
          refine sh_w (i := (.aload_n 0)) (len := 1) (pc2 := 46) (lv2 := [(0, .ref 59), (2, .int x2)]) (st2 := [.ref 59]) (h2 := (sh_rep m.T m.I m.J)) rfl rfl rfl ?_
          refine sh_w (i := (.aload_n 0)) (len := 1) (pc2 := 47) (lv2 := [(0, .ref 59), (2, .int x2)]) (st2 := [.ref 59, .ref 59]) (h2 := (sh_rep m.T m.I m.J)) rfl rfl rfl ?_
          refine sh_gI1 (len := 3) (x := m.I 58 6) (pc2 := 50) rfl rfl hT.t58 rfl rfl rfl ?_
          exact kk
        rcases sh_bt_e e with ⟨m11, e1, rfl⟩ | ⟨r1, m11, e1, e⟩
        · obtain ⟨rfl, rfl⟩ := tg
          exact sh_Lk_tV (k2 := 203) (a := 58) (as := [.ref 59, .int (m.I 58 6)]) (rest := []) rfl rfl rfl (fun hT => hT.t58) rfl rfl ⟨Nat.le_of_ble_eq_true rfl, Nat.le_of_ble_eq_true rfl⟩ (sl_203 e1 ⟨rfl, rfl⟩) rfl (Nat.le_of_ble_eq_true rfl) (Nat.le_of_ble_eq_true rfl) (Nat.le_of_ble_eq_true rfl) (Nat.le_of_ble_eq_true rfl) rfl
        refine sh_Lk_cV (r := none) (st2 := []) (pc2 := 53) (k2 := 203) (a := 58) (as := [.ref 59, .int (m.I 58 6)]) (rest := []) rfl rfl rfl (fun hT => hT.t58) rfl rfl ⟨Nat.le_of_ble_eq_true rfl, Nat.le_of_ble_eq_true rfl⟩ (sl_203 e1 ⟨rfl, rfl⟩) rfl rfl (Nat.le_of_ble_eq_true rfl) (Nat.le_of_ble_eq_true rfl) ?_
        exact sh_Lk_sub (sh_sub_c rfl (sh_sub_c rfl (sh_sub_n))) (sl_212_53 e tg)
      · refine sh_Lk_lift (T := m.T) (I := m.I) (J := m.J) (s := m.s) (pc2 := 53) (lv2 := [(0, .ref 59), (2, .int x2)]) (st2 := []) (I2 := m.I) (J2 := m.J) (fun hT v kk => ?_) ?_
        · refine sh_jc (c := .ne) (off := (11)) (pc2 := 53) true rfl (sh_Bnet c) rfl ?_
          exact kk
        exact sh_Lk_sub (sh_sub_c rfl (sh_sub_c rfl (sh_sub_n))) (sl_212_53 e tg)
    · refine sh_Lk_lift (T := m.T) (I := m.I) (J := m.J) (s := m.s) (pc2 := 72) (lv2 := [(0, .ref 59), (2, .int x2)]) (st2 := []) (I2 := m.I) (J2 := m.J) (fun hT v kk => ?_) ?_
      · refine sh_jc (c := .ge) (off := (40)) (pc2 := 72) true rfl (sh_Bget c) rfl ?_
        exact kk
      obtain rfl := Option.some.inj e
      obtain ⟨rfl, rfl⟩ := tg
      exact sh_Lk_ret (i := .return_) rfl rfl rfl (Nat.le_of_ble_eq_true rfl) (Nat.le_of_ble_eq_true rfl)
  · refine sh_Lk_lift (T := m.T) (I := m.I) (J := m.J) (s := m.s) (pc2 := 72) (lv2 := [(0, .ref 59), (2, .int x2)]) (st2 := []) (I2 := m.I) (J2 := m.J) (fun hT v kk => ?_) ?_
    · refine sh_jc (c := .ge) (off := (47)) (pc2 := 72) true rfl (sh_Bget c) rfl ?_
      exact kk
    obtain rfl := Option.some.inj e
    obtain ⟨rfl, rfl⟩ := tg
    exact sh_Lk_ret (i := .return_) rfl rfl rfl (Nat.le_of_ble_eq_true rfl) (Nat.le_of_ble_eq_true rfl)
theorem sl_212_20 {x2 : Int32} {m m2 : sh_X} {o : Outcome} {z : (Option Unit × sh_X)} (e : sf_212_20 x2 m = some z) (tg : (sh_tVt o m2) z) : sh_Lk 212 20 [(0, .ref 59), (2, .int x2)] [] m o m2 10 244 := by
  unfold sf_212_20 at e
  exact sh_while_lk (P := fun q => sh_Lk 212 20 [(0, .ref 59), (2, .int q.1)] [] q.2 o m2 10 244) (Q := (sh_tVt o m2)) (fun q z e tg => sl_212_20s (x2 := q.1) (m := q.2) e tg) (s := (x2, m)) e tg
theorem sl_212 {x1 : Int32} {m m2 : sh_X} {o : Outcome} {z : (Option Unit × sh_X)} (e : sf_212 x1 m = some z) (tg : (sh_tVt o m2) z) : sh_Lk 212 0 [(0, .ref 59), (1, .int x1)] [] m o m2 10 244 := by
  unfold sf_212 at e
  refine sh_Lk_lift (T := m.T) (I := m.I) (J := m.J) (s := m.s) (pc2 := 6) (lv2 := [(0, .ref 59), (1, .int x1)]) (st2 := [.int x1, .ref 24, .ref 59]) (I2 := m.I) (J2 := m.J) (fun hT v kk => ?_) ?_
  · refine sh_w (i := (.aload_n 0)) (len := 1) (pc2 := 1) (lv2 := [(0, .ref 59), (1, .int x1)]) (st2 := [.ref 59]) (h2 := (sh_rep m.T m.I m.J)) rfl rfl rfl ?_
    refine sh_w (i := (.aload_n 0)) (len := 1) (pc2 := 2) (lv2 := [(0, .ref 59), (1, .int x1)]) (st2 := [.ref 59, .ref 59]) (h2 := (sh_rep m.T m.I m.J)) rfl rfl rfl ?_
    refine sh_gR1 (len := 3) (x := .ref 24) (pc2 := 5) rfl rfl hT.t58 rfl rfl ?_
    refine sh_w (i := (.iload_n 1)) (len := 1) (pc2 := 6) (lv2 := [(0, .ref 59), (1, .int x1)]) (st2 := [.int x1, .ref 24, .ref 59]) (h2 := (sh_rep m.T m.I m.J)) rfl rfl rfl ?_
    exact kk
  obtain ⟨r1, m11, e1, e⟩ := sh_bn_e e
  refine sh_Lk_cV (r := none) (st2 := []) (pc2 := 9) (k2 := 207) (a := 58) (as := [.ref 59, .ref 24, .int x1]) (rest := []) rfl rfl rfl (fun hT => hT.t58) rfl rfl ⟨Nat.le_of_ble_eq_true rfl, Nat.le_of_ble_eq_true rfl⟩ (sl_207 (by decide) e1 ⟨rfl, rfl⟩) rfl rfl (Nat.le_of_ble_eq_true rfl) (Nat.le_of_ble_eq_true rfl) ?_
  refine sh_Lk_lift (T := m11.T) (I := m11.I) (J := m11.J) (s := m11.s) (pc2 := 16) (lv2 := [(0, .ref 59), (1, .int x1)]) (st2 := [.int ((m11.I 58 8) - x1), .int 0]) (I2 := m11.I) (J2 := m11.J) (fun hT v kk => ?_) ?_
  · refine sh_w (i := (.iconst 0)) (len := 1) (pc2 := 10) (lv2 := [(0, .ref 59), (1, .int x1)]) (st2 := [.int 0]) (h2 := (sh_rep m11.T m11.I m11.J)) rfl rfl rfl ?_
    refine sh_w (i := (.aload_n 0)) (len := 1) (pc2 := 11) (lv2 := [(0, .ref 59), (1, .int x1)]) (st2 := [.ref 59, .int 0]) (h2 := (sh_rep m11.T m11.I m11.J)) rfl rfl rfl ?_
    refine sh_gI1 (len := 3) (x := m11.I 58 8) (pc2 := 14) rfl rfl hT.t58 rfl rfl rfl ?_
    refine sh_w (i := (.iload_n 1)) (len := 1) (pc2 := 15) (lv2 := [(0, .ref 59), (1, .int x1)]) (st2 := [.int x1, .int (m11.I 58 8), .int 0]) (h2 := (sh_rep m11.T m11.I m11.J)) rfl rfl rfl ?_
    refine sh_w (i := .isub) (len := 1) (pc2 := 16) (lv2 := [(0, .ref 59), (1, .int x1)]) (st2 := [.int ((m11.I 58 8) - x1), .int 0]) (h2 := (sh_rep m11.T m11.I m11.J)) rfl rfl rfl ?_
    exact kk
  refine sh_Lk_cS (r := (some (.int (sf_42 0 ((m11.I 58 8) - x1))))) (st2 := [.int (sf_42 0 ((m11.I 58 8) - x1))]) (pc2 := 19) (k2 := 42) (as := [.int 0, .int ((m11.I 58 8) - x1)]) (rest := []) rfl rfl (by decide) (Nat.le_of_ble_eq_true rfl) rfl rfl ⟨Nat.le_of_ble_eq_true rfl, Nat.le_of_ble_eq_true rfl⟩ (sl_42 (m := m11) rfl ⟨rfl, rfl⟩) rfl rfl (Nat.le_of_ble_eq_true rfl) (Nat.le_of_ble_eq_true rfl) ?_
  refine sh_Lk_lift (T := m11.T) (I := m11.I) (J := m11.J) (s := m11.s) (pc2 := 20) (lv2 := [(2, .int (sf_42 0 ((m11.I 58 8) - x1))), (0, .ref 59), (1, .int x1)]) (st2 := []) (I2 := m11.I) (J2 := m11.J) (fun hT v kk => ?_) ?_
  · refine sh_w (i := (.istore_n 2)) (len := 1) (pc2 := 20) (lv2 := [(2, .int (sf_42 0 ((m11.I 58 8) - x1))), (0, .ref 59), (1, .int x1)]) (st2 := []) (h2 := (sh_rep m11.T m11.I m11.J)) rfl rfl rfl ?_
    exact kk
  exact sh_Lk_sub (sh_sub_c rfl (sh_sub_c rfl (sh_sub_n))) (sl_212_20 e tg)
theorem sl_200_155 {x3 : Int32} {m m2 : sh_X} {o : Outcome} {z : (Option Unit × sh_X)} (e : sf_200_155 x3 m = some z) (tg : (sh_tVt o m2) z) : sh_Lk 200 155 [(0, .ref 59), (3, .int x3)] [] m o m2 32 646 := by
  unfold sf_200_155 at e
  refine sh_Lk_lift (T := m.T) (I := m.I) (J := m.J) (s := m.s) (pc2 := 157) (lv2 := [(0, .ref 59), (3, .int x3)]) (st2 := [.int x3, .ref 59]) (I2 := m.I) (J2 := m.J) (fun hT v kk => ?_) ?_
  · refine sh_w (i := (.aload_n 0)) (len := 1) (pc2 := 156) (lv2 := [(0, .ref 59), (3, .int x3)]) (st2 := [.ref 59]) (h2 := (sh_rep m.T m.I m.J)) rfl rfl rfl ?_
    refine sh_w (i := (.iload_n 3)) (len := 1) (pc2 := 157) (lv2 := [(0, .ref 59), (3, .int x3)]) (st2 := [.int x3, .ref 59]) (h2 := (sh_rep m.T m.I m.J)) rfl rfl rfl ?_
    exact kk
  rcases sh_bt_e e with ⟨m11, e1, rfl⟩ | ⟨r1, m11, e1, e⟩
  · obtain ⟨rfl, rfl⟩ := tg
    exact sh_Lk_tV (k2 := 212) (a := 58) (as := [.ref 59, .int x3]) (rest := []) rfl rfl rfl (fun hT => hT.t58) rfl rfl ⟨Nat.le_of_ble_eq_true rfl, Nat.le_of_ble_eq_true rfl⟩ (sl_212 e1 ⟨rfl, rfl⟩) rfl (Nat.le_of_ble_eq_true rfl) (Nat.le_of_ble_eq_true rfl) (Nat.le_of_ble_eq_true rfl) (Nat.le_of_ble_eq_true rfl) rfl
  refine sh_Lk_cV (r := none) (st2 := []) (pc2 := 160) (k2 := 212) (a := 58) (as := [.ref 59, .int x3]) (rest := []) rfl rfl rfl (fun hT => hT.t58) rfl rfl ⟨Nat.le_of_ble_eq_true rfl, Nat.le_of_ble_eq_true rfl⟩ (sl_212 e1 ⟨rfl, rfl⟩) rfl rfl (Nat.le_of_ble_eq_true rfl) (Nat.le_of_ble_eq_true rfl) ?_
  obtain rfl := Option.some.inj e
  obtain ⟨rfl, rfl⟩ := tg
  exact sh_Lk_ret (i := .return_) rfl rfl rfl (Nat.le_of_ble_eq_true rfl) (Nat.le_of_ble_eq_true rfl)
theorem sl_200_117s {x3 : Int32} {x4 : Int32} {m m2 : sh_X} {o : Outcome} {z : ((Int32 × sh_X) ⊕ (Option Unit × sh_X))} (e : sf_200_117s x3 x4 m = some z) (tg : (sh_el (fun q => sh_Lk 200 117 [(0, .ref 59), (3, .int x3), (4, .int q.1)] [] q.2 o m2 32 646) (sh_tVt o m2)) z) : sh_Lk 200 117 [(0, .ref 59), (3, .int x3), (4, .int x4)] [] m o m2 32 646 := by
  unfold sf_200_117s at e
  refine sh_Lk_lift (T := m.T) (I := m.I) (J := m.J) (s := m.s) (pc2 := 123) (lv2 := [(0, .ref 59), (3, .int x3), (4, .int x4)]) (st2 := [.int (m.I 58 9), .int x4]) (I2 := m.I) (J2 := m.J) (fun hT v kk => ?_) ?_
  · refine sh_w (i := (.iload 4)) (len := 2) (pc2 := 119) (lv2 := [(0, .ref 59), (3, .int x3), (4, .int x4)]) (st2 := [.int x4]) (h2 := (sh_rep m.T m.I m.J)) rfl rfl rfl ?_
    refine sh_w (i := (.aload_n 0)) (len := 1) (pc2 := 120) (lv2 := [(0, .ref 59), (3, .int x3), (4, .int x4)]) (st2 := [.ref 59, .int x4]) (h2 := (sh_rep m.T m.I m.J)) rfl rfl rfl ?_
    refine sh_gI1 (len := 3) (x := m.I 58 9) (pc2 := 123) rfl rfl hT.t58 rfl rfl rfl ?_
    exact kk
  rcases sh_ite e with ⟨c, e⟩ | ⟨c, e⟩
  · refine sh_Lk_lift (T := m.T) (I := m.I) (J := m.J) (s := m.s) (pc2 := 127) (lv2 := [(0, .ref 59), (3, .int x3), (4, .int x4)]) (st2 := [.ref 59]) (I2 := m.I) (J2 := m.J) (fun hT v kk => ?_) ?_
    · refine sh_jc (c := .ge) (off := (13)) (pc2 := 126) false rfl (sh_Bgef c) rfl ?_
      refine sh_w (i := (.aload_n 0)) (len := 1) (pc2 := 127) (lv2 := [(0, .ref 59), (3, .int x3), (4, .int x4)]) (st2 := [.ref 59]) (h2 := (sh_rep m.T m.I m.J)) rfl rfl rfl ?_
      exact kk
    rcases sh_bt_e e with ⟨m11, e1, rfl⟩ | ⟨r1, m11, e1, e⟩
    · obtain ⟨rfl, rfl⟩ := tg
      exact sh_Lk_tV (k2 := 208) (a := 58) (as := [.ref 59]) (rest := []) rfl rfl rfl (fun hT => hT.t58) rfl rfl ⟨Nat.le_of_ble_eq_true rfl, Nat.le_of_ble_eq_true rfl⟩ (sl_208 e1 ⟨rfl, rfl⟩) rfl (Nat.le_of_ble_eq_true rfl) (Nat.le_of_ble_eq_true rfl) (Nat.le_of_ble_eq_true rfl) (Nat.le_of_ble_eq_true rfl) rfl
    refine sh_Lk_cV (r := none) (st2 := []) (pc2 := 130) (k2 := 208) (a := 58) (as := [.ref 59]) (rest := []) rfl rfl rfl (fun hT => hT.t58) rfl rfl ⟨Nat.le_of_ble_eq_true rfl, Nat.le_of_ble_eq_true rfl⟩ (sl_208 e1 ⟨rfl, rfl⟩) rfl rfl (Nat.le_of_ble_eq_true rfl) (Nat.le_of_ble_eq_true rfl) ?_
    refine sh_Lk_lift (T := m11.T) (I := m11.I) (J := m11.J) (s := m11.s) (pc2 := 117) (lv2 := [(4, .int (x4 + 1)), (0, .ref 59), (3, .int x3)]) (st2 := []) (I2 := m11.I) (J2 := m11.J) (fun hT v kk => ?_) ?_
    · refine sh_w (i := (.iinc 4 1)) (len := 3) (pc2 := 133) (lv2 := [(4, .int (x4 + 1)), (0, .ref 59), (3, .int x3)]) (st2 := []) (h2 := (sh_rep m11.T m11.I m11.J)) rfl rfl rfl ?_
      refine sh_w (i := (.goto (-16))) (len := 3) (pc2 := 117) (lv2 := [(4, .int (x4 + 1)), (0, .ref 59), (3, .int x3)]) (st2 := []) (h2 := (sh_rep m11.T m11.I m11.J)) rfl rfl rfl ?_
      exact kk
    obtain rfl := Option.some.inj e
    exact sh_Lk_sub (sh_sub_c rfl (sh_sub_c rfl (sh_sub_c rfl (sh_sub_n)))) tg
  · refine sh_Lk_lift (T := m.T) (I := m.I) (J := m.J) (s := m.s) (pc2 := 144) (lv2 := [(0, .ref 59), (3, .int x3), (4, .int x4)]) (st2 := [.int (m.I 58 6), .int (m.I 58 7)]) (I2 := m.I) (J2 := m.J) (fun hT v kk => ?_) ?_
    · refine sh_jc (c := .ge) (off := (13)) (pc2 := 136) true rfl (sh_Bget c) rfl ?_
      refine sh_w (i := (.aload_n 0)) (len := 1) (pc2 := 137) (lv2 := [(0, .ref 59), (3, .int x3), (4, .int x4)]) (st2 := [.ref 59]) (h2 := (sh_rep m.T m.I m.J)) rfl rfl rfl ?_
      refine sh_gI1 (len := 3) (x := m.I 58 7) (pc2 := 140) rfl rfl hT.t58 rfl rfl rfl ?_
      refine sh_w (i := (.aload_n 0)) (len := 1) (pc2 := 141) (lv2 := [(0, .ref 59), (3, .int x3), (4, .int x4)]) (st2 := [.ref 59, .int (m.I 58 7)]) (h2 := (sh_rep m.T m.I m.J)) rfl rfl rfl ?_
      refine sh_gI1 (len := 3) (x := m.I 58 6) (pc2 := 144) rfl rfl hT.t58 rfl rfl rfl ?_
      exact kk
    rcases sh_ite e with ⟨c, e⟩ | ⟨c, e⟩
    · refine sh_Lk_lift (T := m.T) (I := m.I) (J := m.J) (s := m.s) (pc2 := 152) (lv2 := [(0, .ref 59), (3, .int x3), (4, .int x4)]) (st2 := [.int (m.I 58 7), .ref 59]) (I2 := m.I) (J2 := m.J) (fun hT v kk => ?_) ?_
      · refine sh_jc (c := .ge) (off := (11)) (pc2 := 147) false rfl (sh_Bgef c) rfl ?_
        refine sh_w (i := (.aload_n 0)) (len := 1) (pc2 := 148) (lv2 := [(0, .ref 59), (3, .int x3), (4, .int x4)]) (st2 := [.ref 59]) (h2 := (sh_rep m.T m.I m.J)) rfl rfl rfl ?_
        refine sh_w (i := (.aload_n 0)) (len := 1) (pc2 := 149) (lv2 := [(0, .ref 59), (3, .int x3), (4, .int x4)]) (st2 := [.ref 59, .ref 59]) (h2 := (sh_rep m.T m.I m.J)) rfl rfl rfl ?_
        refine sh_gI1 (len := 3) (x := m.I 58 7) (pc2 := 152) rfl rfl hT.t58 rfl rfl rfl ?_
        exact kk
      rcases sh_bt_e e with ⟨m12, e2, rfl⟩ | ⟨r2, m12, e2, e⟩
      · obtain ⟨rfl, rfl⟩ := tg
        exact sh_Lk_tV (k2 := 203) (a := 58) (as := [.ref 59, .int (m.I 58 7)]) (rest := []) rfl rfl rfl (fun hT => hT.t58) rfl rfl ⟨Nat.le_of_ble_eq_true rfl, Nat.le_of_ble_eq_true rfl⟩ (sl_203 e2 ⟨rfl, rfl⟩) rfl (Nat.le_of_ble_eq_true rfl) (Nat.le_of_ble_eq_true rfl) (Nat.le_of_ble_eq_true rfl) (Nat.le_of_ble_eq_true rfl) rfl
      refine sh_Lk_cV (r := none) (st2 := []) (pc2 := 155) (k2 := 203) (a := 58) (as := [.ref 59, .int (m.I 58 7)]) (rest := []) rfl rfl rfl (fun hT => hT.t58) rfl rfl ⟨Nat.le_of_ble_eq_true rfl, Nat.le_of_ble_eq_true rfl⟩ (sl_203 e2 ⟨rfl, rfl⟩) rfl rfl (Nat.le_of_ble_eq_true rfl) (Nat.le_of_ble_eq_true rfl) ?_
      obtain ⟨_, eu, rfl⟩ := sh_up_e e
      exact sh_Lk_sub (sh_sub_c rfl (sh_sub_c rfl (sh_sub_n))) (sl_200_155 eu tg)
    · refine sh_Lk_lift (T := m.T) (I := m.I) (J := m.J) (s := m.s) (pc2 := 155) (lv2 := [(0, .ref 59), (3, .int x3), (4, .int x4)]) (st2 := []) (I2 := m.I) (J2 := m.J) (fun hT v kk => ?_) ?_
      · refine sh_jc (c := .ge) (off := (11)) (pc2 := 155) true rfl (sh_Bget c) rfl ?_
        exact kk
      obtain ⟨_, eu, rfl⟩ := sh_up_e e
      exact sh_Lk_sub (sh_sub_c rfl (sh_sub_c rfl (sh_sub_n))) (sl_200_155 eu tg)
theorem sl_200_117 {x3 : Int32} {x4 : Int32} {m m2 : sh_X} {o : Outcome} {z : (Option Unit × sh_X)} (e : sf_200_117 x3 x4 m = some z) (tg : (sh_tVt o m2) z) : sh_Lk 200 117 [(0, .ref 59), (3, .int x3), (4, .int x4)] [] m o m2 32 646 := by
  unfold sf_200_117 at e
  exact sh_while_lk (P := fun q => sh_Lk 200 117 [(0, .ref 59), (3, .int x3), (4, .int q.1)] [] q.2 o m2 32 646) (Q := (sh_tVt o m2)) (fun q z e tg => sl_200_117s (x3 := x3) (x4 := q.1) (m := q.2) e tg) (s := (x4, m)) e tg
theorem sl_200 {x2 : Int32} {m m2 : sh_X} {o : Outcome} {z : (Option Unit × sh_X)} (e : sf_200 x2 m = some z) (tg : (sh_tVt o m2) z) : sh_Lk 200 0 [(0, .ref 59), (1, .ref 2), (2, .int x2)] [] m o m2 32 646 := by
  unfold sf_200 at e
  refine sh_Lk_lift (T := m.T) (I := m.I) (J := m.J) (s := m.s) (pc2 := 2) (lv2 := [(0, .ref 59), (1, .ref 2), (2, .int x2)]) (st2 := [.ref 2, .ref 59]) (I2 := m.I) (J2 := m.J) (fun hT v kk => ?_) ?_
  · refine sh_w (i := (.aload_n 0)) (len := 1) (pc2 := 1) (lv2 := [(0, .ref 59), (1, .ref 2), (2, .int x2)]) (st2 := [.ref 59]) (h2 := (sh_rep m.T m.I m.J)) rfl rfl rfl ?_
    refine sh_w (i := (.aload_n 1)) (len := 1) (pc2 := 2) (lv2 := [(0, .ref 59), (1, .ref 2), (2, .int x2)]) (st2 := [.ref 2, .ref 59]) (h2 := (sh_rep m.T m.I m.J)) rfl rfl rfl ?_
    exact kk
  refine sh_Lk_x58 (pc2 := 5) rfl rfl rfl ?_
  refine sh_Lk_lift (T := (sh_tx58 m.T)) (I := m.I) (J := m.J) (s := m.s) (pc2 := 9) (lv2 := [(0, .ref 59), (1, .ref 2), (2, .int x2)]) (st2 := [.int 4000, .int x2, .ref 59]) (I2 := m.I) (J2 := m.J) (fun hT v kk => ?_) ?_
  · refine sh_w (i := (.aload_n 0)) (len := 1) (pc2 := 6) (lv2 := [(0, .ref 59), (1, .ref 2), (2, .int x2)]) (st2 := [.ref 59]) (h2 := (sh_rep (sh_tx58 m.T) m.I m.J)) rfl rfl rfl ?_
    refine sh_w (i := (.iload_n 2)) (len := 1) (pc2 := 7) (lv2 := [(0, .ref 59), (1, .ref 2), (2, .int x2)]) (st2 := [.int x2, .ref 59]) (h2 := (sh_rep (sh_tx58 m.T) m.I m.J)) rfl rfl rfl ?_
    refine sh_w (i := (.aload_n 1)) (len := 1) (pc2 := 8) (lv2 := [(0, .ref 59), (1, .ref 2), (2, .int x2)]) (st2 := [.ref 2, .int x2, .ref 59]) (h2 := (sh_rep (sh_tx58 m.T) m.I m.J)) rfl rfl rfl ?_
    refine sh_al1 (pc2 := 9) rfl (sh_s1 hT.st) (by decide) rfl ?_
    exact kk
  refine sh_Lk_cS (r := (some (.int (sf_21 x2 4000)))) (st2 := [.int (sf_21 x2 4000), .ref 59]) (pc2 := 12) (k2 := 21) (as := [.int x2, .int 4000]) (rest := [.ref 59]) rfl rfl (by decide) (Nat.le_of_ble_eq_true rfl) rfl rfl ⟨Nat.le_of_ble_eq_true rfl, Nat.le_of_ble_eq_true rfl⟩ (sl_21 (m := ⟨(sh_tx58 m.T), m.I, m.J, m.s⟩) rfl ⟨rfl, rfl⟩) rfl rfl (Nat.le_of_ble_eq_true rfl) (Nat.le_of_ble_eq_true rfl) ?_
  refine sh_Lk_lift (T := (sh_tx58 m.T)) (I := m.I) (J := m.J) (s := m.s) (pc2 := 30) (lv2 := [(0, .ref 59), (1, .ref 2), (2, .int x2)]) (st2 := [.int (-1), .ref 60]) (I2 := sh_u2 (sh_u2 (sh_u2 m.I 58 6 (sf_21 x2 4000)) 58 7 0) 58 10 0) (J2 := m.J) (fun hT v kk => ?_) ?_
  · refine sh_pI1 (x := sf_21 x2 4000) (pc2 := 15) rfl rfl hT.t58 rfl rfl rfl rfl ?_
    refine sh_w (i := (.aload_n 0)) (len := 1) (pc2 := 16) (lv2 := [(0, .ref 59), (1, .ref 2), (2, .int x2)]) (st2 := [.ref 59]) (h2 := (sh_rep (sh_tx58 m.T) (sh_u2 m.I 58 6 (sf_21 x2 4000)) m.J)) rfl rfl rfl ?_
    refine sh_w (i := (.iconst 0)) (len := 1) (pc2 := 17) (lv2 := [(0, .ref 59), (1, .ref 2), (2, .int x2)]) (st2 := [.int 0, .ref 59]) (h2 := (sh_rep (sh_tx58 m.T) (sh_u2 m.I 58 6 (sf_21 x2 4000)) m.J)) rfl rfl rfl ?_
    refine sh_pI1 (x := 0) (pc2 := 20) rfl rfl hT.t58 rfl rfl rfl rfl ?_
    refine sh_w (i := (.aload_n 0)) (len := 1) (pc2 := 21) (lv2 := [(0, .ref 59), (1, .ref 2), (2, .int x2)]) (st2 := [.ref 59]) (h2 := (sh_rep (sh_tx58 m.T) (sh_u2 (sh_u2 m.I 58 6 (sf_21 x2 4000)) 58 7 0) m.J)) rfl rfl rfl ?_
    refine sh_w (i := (.iconst 0)) (len := 1) (pc2 := 22) (lv2 := [(0, .ref 59), (1, .ref 2), (2, .int x2)]) (st2 := [.int 0, .ref 59]) (h2 := (sh_rep (sh_tx58 m.T) (sh_u2 (sh_u2 m.I 58 6 (sf_21 x2 4000)) 58 7 0) m.J)) rfl rfl rfl ?_
    refine sh_pI1 (x := 0) (pc2 := 25) rfl rfl hT.t58 rfl rfl rfl rfl ?_
    refine sh_w (i := (.aload_n 0)) (len := 1) (pc2 := 26) (lv2 := [(0, .ref 59), (1, .ref 2), (2, .int x2)]) (st2 := [.ref 59]) (h2 := (sh_rep (sh_tx58 m.T) (sh_u2 (sh_u2 (sh_u2 m.I 58 6 (sf_21 x2 4000)) 58 7 0) 58 10 0) m.J)) rfl rfl rfl ?_
    refine sh_gR1 (len := 3) (x := .ref 60) (pc2 := 29) rfl rfl hT.t58 rfl rfl ?_
    refine sh_w (i := (.iconst (-1))) (len := 1) (pc2 := 30) (lv2 := [(0, .ref 59), (1, .ref 2), (2, .int x2)]) (st2 := [.int (-1), .ref 60]) (h2 := (sh_rep (sh_tx58 m.T) (sh_u2 (sh_u2 (sh_u2 m.I 58 6 (sf_21 x2 4000)) 58 7 0) 58 10 0) m.J)) rfl rfl rfl ?_
    exact kk
  obtain ⟨r2, m12, e2, e⟩ := sh_bn_e e
  refine sh_Lk_cS (r := none) (st2 := []) (pc2 := 33) (k2 := 184) (as := [.ref 60, .int (-1)]) (rest := []) rfl rfl (by decide) (Nat.le_of_ble_eq_true rfl) rfl rfl ⟨Nat.le_of_ble_eq_true rfl, Nat.le_of_ble_eq_true rfl⟩ (sl_184 (fun hT => (sh_s59 hT.st)) (by decide) e2 ⟨rfl, rfl⟩) rfl rfl (Nat.le_of_ble_eq_true rfl) (Nat.le_of_ble_eq_true rfl) ?_
  refine sh_Lk_lift (T := m12.T) (I := m12.I) (J := m12.J) (s := m12.s) (pc2 := 39) (lv2 := [(0, .ref 59), (1, .ref 2), (2, .int x2)]) (st2 := [.int 2000, .int 1, .ref 59, .ref 59]) (I2 := m12.I) (J2 := m12.J) (fun hT v kk => ?_) ?_
  · refine sh_w (i := (.aload_n 0)) (len := 1) (pc2 := 34) (lv2 := [(0, .ref 59), (1, .ref 2), (2, .int x2)]) (st2 := [.ref 59]) (h2 := (sh_rep m12.T m12.I m12.J)) rfl rfl rfl ?_
    refine sh_w (i := (.aload_n 0)) (len := 1) (pc2 := 35) (lv2 := [(0, .ref 59), (1, .ref 2), (2, .int x2)]) (st2 := [.ref 59, .ref 59]) (h2 := (sh_rep m12.T m12.I m12.J)) rfl rfl rfl ?_
    refine sh_w (i := (.iconst 1)) (len := 1) (pc2 := 36) (lv2 := [(0, .ref 59), (1, .ref 2), (2, .int x2)]) (st2 := [.int 1, .ref 59, .ref 59]) (h2 := (sh_rep m12.T m12.I m12.J)) rfl rfl rfl ?_
    refine sh_w (i := (.sipush 2000)) (len := 3) (pc2 := 39) (lv2 := [(0, .ref 59), (1, .ref 2), (2, .int x2)]) (st2 := [.int 2000, .int 1, .ref 59, .ref 59]) (h2 := (sh_rep m12.T m12.I m12.J)) rfl rfl rfl ?_
    exact kk
  rcases sh_bt_e e with ⟨m13, e3, rfl⟩ | ⟨r3, m13, e3, e⟩
  · obtain ⟨rfl, rfl⟩ := tg
    exact sh_Lk_tV (k2 := 201) (a := 58) (as := [.ref 59, .int 1, .int 2000]) (rest := [.ref 59]) rfl rfl rfl (fun hT => hT.t58) rfl rfl ⟨Nat.le_of_ble_eq_true rfl, Nat.le_of_ble_eq_true rfl⟩ (sl_201 e3 ⟨rfl, rfl⟩) rfl (Nat.le_of_ble_eq_true rfl) (Nat.le_of_ble_eq_true rfl) (Nat.le_of_ble_eq_true rfl) (Nat.le_of_ble_eq_true rfl) rfl
  refine sh_Lk_cV (r := (some (.int r3))) (st2 := [.int r3, .ref 59]) (pc2 := 42) (k2 := 201) (a := 58) (as := [.ref 59, .int 1, .int 2000]) (rest := [.ref 59]) rfl rfl rfl (fun hT => hT.t58) rfl rfl ⟨Nat.le_of_ble_eq_true rfl, Nat.le_of_ble_eq_true rfl⟩ (sl_201 e3 ⟨rfl, rfl⟩) rfl rfl (Nat.le_of_ble_eq_true rfl) (Nat.le_of_ble_eq_true rfl) ?_
  refine sh_Lk_lift (T := m13.T) (I := m13.I) (J := m13.J) (s := m13.s) (pc2 := 48) (lv2 := [(0, .ref 59), (1, .ref 2), (2, .int x2)]) (st2 := [.int 32, .ref 59]) (I2 := sh_u2 m13.I 58 9 r3) (J2 := m13.J) (fun hT v kk => ?_) ?_
  · refine sh_pI1 (x := r3) (pc2 := 45) rfl rfl hT.t58 rfl rfl rfl rfl ?_
    refine sh_w (i := (.aload_n 0)) (len := 1) (pc2 := 46) (lv2 := [(0, .ref 59), (1, .ref 2), (2, .int x2)]) (st2 := [.ref 59]) (h2 := (sh_rep m13.T (sh_u2 m13.I 58 9 r3) m13.J)) rfl rfl rfl ?_
    refine sh_w (i := (.bipush 32)) (len := 2) (pc2 := 48) (lv2 := [(0, .ref 59), (1, .ref 2), (2, .int x2)]) (st2 := [.int 32, .ref 59]) (h2 := (sh_rep m13.T (sh_u2 m13.I 58 9 r3) m13.J)) rfl rfl rfl ?_
    exact kk
  rcases sh_bt_e e with ⟨m14, e4, rfl⟩ | ⟨r4, m14, e4, e⟩
  · obtain ⟨rfl, rfl⟩ := tg
    exact sh_Lk_tV (k2 := 204) (a := 58) (as := [.ref 59, .int 32]) (rest := []) rfl rfl rfl (fun hT => hT.t58) rfl rfl ⟨Nat.le_of_ble_eq_true rfl, Nat.le_of_ble_eq_true rfl⟩ (sl_204 e4 ⟨rfl, rfl⟩) rfl (Nat.le_of_ble_eq_true rfl) (Nat.le_of_ble_eq_true rfl) (Nat.le_of_ble_eq_true rfl) (Nat.le_of_ble_eq_true rfl) rfl
  refine sh_Lk_cV (r := none) (st2 := []) (pc2 := 51) (k2 := 204) (a := 58) (as := [.ref 59, .int 32]) (rest := []) rfl rfl rfl (fun hT => hT.t58) rfl rfl ⟨Nat.le_of_ble_eq_true rfl, Nat.le_of_ble_eq_true rfl⟩ (sl_204 e4 ⟨rfl, rfl⟩) rfl rfl (Nat.le_of_ble_eq_true rfl) (Nat.le_of_ble_eq_true rfl) ?_
  refine sh_Lk_lift (T := m14.T) (I := m14.I) (J := m14.J) (s := m14.s) (pc2 := 57) (lv2 := [(0, .ref 59), (1, .ref 2), (2, .int x2)]) (st2 := [.int 4000, .int 1, .ref 59, .ref 59]) (I2 := m14.I) (J2 := m14.J) (fun hT v kk => ?_) ?_
  · refine sh_w (i := (.aload_n 0)) (len := 1) (pc2 := 52) (lv2 := [(0, .ref 59), (1, .ref 2), (2, .int x2)]) (st2 := [.ref 59]) (h2 := (sh_rep m14.T m14.I m14.J)) rfl rfl rfl ?_
    refine sh_w (i := (.aload_n 0)) (len := 1) (pc2 := 53) (lv2 := [(0, .ref 59), (1, .ref 2), (2, .int x2)]) (st2 := [.ref 59, .ref 59]) (h2 := (sh_rep m14.T m14.I m14.J)) rfl rfl rfl ?_
    refine sh_w (i := (.iconst 1)) (len := 1) (pc2 := 54) (lv2 := [(0, .ref 59), (1, .ref 2), (2, .int x2)]) (st2 := [.int 1, .ref 59, .ref 59]) (h2 := (sh_rep m14.T m14.I m14.J)) rfl rfl rfl ?_
    refine sh_w (i := (.sipush 4000)) (len := 3) (pc2 := 57) (lv2 := [(0, .ref 59), (1, .ref 2), (2, .int x2)]) (st2 := [.int 4000, .int 1, .ref 59, .ref 59]) (h2 := (sh_rep m14.T m14.I m14.J)) rfl rfl rfl ?_
    exact kk
  rcases sh_bt_e e with ⟨m15, e5, rfl⟩ | ⟨r5, m15, e5, e⟩
  · obtain ⟨rfl, rfl⟩ := tg
    exact sh_Lk_tV (k2 := 201) (a := 58) (as := [.ref 59, .int 1, .int 4000]) (rest := [.ref 59]) rfl rfl rfl (fun hT => hT.t58) rfl rfl ⟨Nat.le_of_ble_eq_true rfl, Nat.le_of_ble_eq_true rfl⟩ (sl_201 e5 ⟨rfl, rfl⟩) rfl (Nat.le_of_ble_eq_true rfl) (Nat.le_of_ble_eq_true rfl) (Nat.le_of_ble_eq_true rfl) (Nat.le_of_ble_eq_true rfl) rfl
  refine sh_Lk_cV (r := (some (.int r5))) (st2 := [.int r5, .ref 59]) (pc2 := 60) (k2 := 201) (a := 58) (as := [.ref 59, .int 1, .int 4000]) (rest := [.ref 59]) rfl rfl rfl (fun hT => hT.t58) rfl rfl ⟨Nat.le_of_ble_eq_true rfl, Nat.le_of_ble_eq_true rfl⟩ (sl_201 e5 ⟨rfl, rfl⟩) rfl rfl (Nat.le_of_ble_eq_true rfl) (Nat.le_of_ble_eq_true rfl) ?_
  refine sh_Lk_lift (T := m15.T) (I := m15.I) (J := m15.J) (s := m15.s) (pc2 := 66) (lv2 := [(0, .ref 59), (1, .ref 2), (2, .int x2)]) (st2 := [.int 10, .ref 59]) (I2 := sh_u2 m15.I 58 8 r5) (J2 := m15.J) (fun hT v kk => ?_) ?_
  · refine sh_pI1 (x := r5) (pc2 := 63) rfl rfl hT.t58 rfl rfl rfl rfl ?_
    refine sh_w (i := (.aload_n 0)) (len := 1) (pc2 := 64) (lv2 := [(0, .ref 59), (1, .ref 2), (2, .int x2)]) (st2 := [.ref 59]) (h2 := (sh_rep m15.T (sh_u2 m15.I 58 8 r5) m15.J)) rfl rfl rfl ?_
    refine sh_w (i := (.bipush 10)) (len := 2) (pc2 := 66) (lv2 := [(0, .ref 59), (1, .ref 2), (2, .int x2)]) (st2 := [.int 10, .ref 59]) (h2 := (sh_rep m15.T (sh_u2 m15.I 58 8 r5) m15.J)) rfl rfl rfl ?_
    exact kk
  rcases sh_bt_e e with ⟨m16, e6, rfl⟩ | ⟨r6, m16, e6, e⟩
  · obtain ⟨rfl, rfl⟩ := tg
    exact sh_Lk_tV (k2 := 204) (a := 58) (as := [.ref 59, .int 10]) (rest := []) rfl rfl rfl (fun hT => hT.t58) rfl rfl ⟨Nat.le_of_ble_eq_true rfl, Nat.le_of_ble_eq_true rfl⟩ (sl_204 e6 ⟨rfl, rfl⟩) rfl (Nat.le_of_ble_eq_true rfl) (Nat.le_of_ble_eq_true rfl) (Nat.le_of_ble_eq_true rfl) (Nat.le_of_ble_eq_true rfl) rfl
  refine sh_Lk_cV (r := none) (st2 := []) (pc2 := 69) (k2 := 204) (a := 58) (as := [.ref 59, .int 10]) (rest := []) rfl rfl rfl (fun hT => hT.t58) rfl rfl ⟨Nat.le_of_ble_eq_true rfl, Nat.le_of_ble_eq_true rfl⟩ (sl_204 e6 ⟨rfl, rfl⟩) rfl rfl (Nat.le_of_ble_eq_true rfl) (Nat.le_of_ble_eq_true rfl) ?_
  refine sh_Lk_lift (T := m16.T) (I := m16.I) (J := m16.J) (s := m16.s) (pc2 := 70) (lv2 := [(0, .ref 59), (1, .ref 2), (2, .int x2)]) (st2 := [.ref 59]) (I2 := m16.I) (J2 := m16.J) (fun hT v kk => ?_) ?_
  · refine sh_w (i := (.aload_n 0)) (len := 1) (pc2 := 70) (lv2 := [(0, .ref 59), (1, .ref 2), (2, .int x2)]) (st2 := [.ref 59]) (h2 := (sh_rep m16.T m16.I m16.J)) rfl rfl rfl ?_
    exact kk
  rcases sh_bt_e e with ⟨m17, e7, rfl⟩ | ⟨r7, m17, e7, e⟩
  · obtain ⟨rfl, rfl⟩ := tg
    exact sh_Lk_tV (k2 := 205) (a := 58) (as := [.ref 59]) (rest := []) rfl rfl rfl (fun hT => hT.t58) rfl rfl ⟨Nat.le_of_ble_eq_true rfl, Nat.le_of_ble_eq_true rfl⟩ (sl_205 e7 ⟨rfl, rfl⟩) rfl (Nat.le_of_ble_eq_true rfl) (Nat.le_of_ble_eq_true rfl) (Nat.le_of_ble_eq_true rfl) (Nat.le_of_ble_eq_true rfl) rfl
  refine sh_Lk_cV (r := none) (st2 := []) (pc2 := 73) (k2 := 205) (a := 58) (as := [.ref 59]) (rest := []) rfl rfl rfl (fun hT => hT.t58) rfl rfl ⟨Nat.le_of_ble_eq_true rfl, Nat.le_of_ble_eq_true rfl⟩ (sl_205 e7 ⟨rfl, rfl⟩) rfl rfl (Nat.le_of_ble_eq_true rfl) (Nat.le_of_ble_eq_true rfl) ?_
  refine sh_Lk_lift (T := m17.T) (I := m17.I) (J := m17.J) (s := m17.s) (pc2 := 76) (lv2 := [(0, .ref 59), (1, .ref 2), (2, .int x2)]) (st2 := [.int 1, .int 1, .ref 59]) (I2 := m17.I) (J2 := m17.J) (fun hT v kk => ?_) ?_
  · refine sh_w (i := (.aload_n 0)) (len := 1) (pc2 := 74) (lv2 := [(0, .ref 59), (1, .ref 2), (2, .int x2)]) (st2 := [.ref 59]) (h2 := (sh_rep m17.T m17.I m17.J)) rfl rfl rfl ?_
    refine sh_w (i := (.iconst 1)) (len := 1) (pc2 := 75) (lv2 := [(0, .ref 59), (1, .ref 2), (2, .int x2)]) (st2 := [.int 1, .ref 59]) (h2 := (sh_rep m17.T m17.I m17.J)) rfl rfl rfl ?_
    refine sh_w (i := (.iconst 1)) (len := 1) (pc2 := 76) (lv2 := [(0, .ref 59), (1, .ref 2), (2, .int x2)]) (st2 := [.int 1, .int 1, .ref 59]) (h2 := (sh_rep m17.T m17.I m17.J)) rfl rfl rfl ?_
    exact kk
  rcases sh_bt_e e with ⟨m18, e8, rfl⟩ | ⟨r8, m18, e8, e⟩
  · obtain ⟨rfl, rfl⟩ := tg
    exact sh_Lk_tV (k2 := 201) (a := 58) (as := [.ref 59, .int 1, .int 1]) (rest := []) rfl rfl rfl (fun hT => hT.t58) rfl rfl ⟨Nat.le_of_ble_eq_true rfl, Nat.le_of_ble_eq_true rfl⟩ (sl_201 e8 ⟨rfl, rfl⟩) rfl (Nat.le_of_ble_eq_true rfl) (Nat.le_of_ble_eq_true rfl) (Nat.le_of_ble_eq_true rfl) (Nat.le_of_ble_eq_true rfl) rfl
  refine sh_Lk_cV (r := (some (.int r8))) (st2 := [.int r8]) (pc2 := 79) (k2 := 201) (a := 58) (as := [.ref 59, .int 1, .int 1]) (rest := []) rfl rfl rfl (fun hT => hT.t58) rfl rfl ⟨Nat.le_of_ble_eq_true rfl, Nat.le_of_ble_eq_true rfl⟩ (sl_201 e8 ⟨rfl, rfl⟩) rfl rfl (Nat.le_of_ble_eq_true rfl) (Nat.le_of_ble_eq_true rfl) ?_
  refine sh_Lk_lift (T := m18.T) (I := m18.I) (J := m18.J) (s := m18.s) (pc2 := 83) (lv2 := [(0, .ref 59), (1, .ref 2), (2, .int x2)]) (st2 := [.int 32, .ref 59]) (I2 := m18.I) (J2 := m18.J) (fun hT v kk => ?_) ?_
  · refine sh_w (i := .pop) (len := 1) (pc2 := 80) (lv2 := [(0, .ref 59), (1, .ref 2), (2, .int x2)]) (st2 := []) (h2 := (sh_rep m18.T m18.I m18.J)) rfl rfl rfl ?_
    refine sh_w (i := (.aload_n 0)) (len := 1) (pc2 := 81) (lv2 := [(0, .ref 59), (1, .ref 2), (2, .int x2)]) (st2 := [.ref 59]) (h2 := (sh_rep m18.T m18.I m18.J)) rfl rfl rfl ?_
    refine sh_w (i := (.bipush 32)) (len := 2) (pc2 := 83) (lv2 := [(0, .ref 59), (1, .ref 2), (2, .int x2)]) (st2 := [.int 32, .ref 59]) (h2 := (sh_rep m18.T m18.I m18.J)) rfl rfl rfl ?_
    exact kk
  rcases sh_bt_e e with ⟨m19, e9, rfl⟩ | ⟨r9, m19, e9, e⟩
  · obtain ⟨rfl, rfl⟩ := tg
    exact sh_Lk_tV (k2 := 204) (a := 58) (as := [.ref 59, .int 32]) (rest := []) rfl rfl rfl (fun hT => hT.t58) rfl rfl ⟨Nat.le_of_ble_eq_true rfl, Nat.le_of_ble_eq_true rfl⟩ (sl_204 e9 ⟨rfl, rfl⟩) rfl (Nat.le_of_ble_eq_true rfl) (Nat.le_of_ble_eq_true rfl) (Nat.le_of_ble_eq_true rfl) (Nat.le_of_ble_eq_true rfl) rfl
  refine sh_Lk_cV (r := none) (st2 := []) (pc2 := 86) (k2 := 204) (a := 58) (as := [.ref 59, .int 32]) (rest := []) rfl rfl rfl (fun hT => hT.t58) rfl rfl ⟨Nat.le_of_ble_eq_true rfl, Nat.le_of_ble_eq_true rfl⟩ (sl_204 e9 ⟨rfl, rfl⟩) rfl rfl (Nat.le_of_ble_eq_true rfl) (Nat.le_of_ble_eq_true rfl) ?_
  refine sh_Lk_lift (T := m19.T) (I := m19.I) (J := m19.J) (s := m19.s) (pc2 := 95) (lv2 := [(0, .ref 59), (1, .ref 2), (2, .int x2)]) (st2 := [.int (m19.I 58 8), .int 500, .int 1, .ref 59]) (I2 := m19.I) (J2 := m19.J) (fun hT v kk => ?_) ?_
  · refine sh_w (i := (.aload_n 0)) (len := 1) (pc2 := 87) (lv2 := [(0, .ref 59), (1, .ref 2), (2, .int x2)]) (st2 := [.ref 59]) (h2 := (sh_rep m19.T m19.I m19.J)) rfl rfl rfl ?_
    refine sh_w (i := (.iconst 1)) (len := 1) (pc2 := 88) (lv2 := [(0, .ref 59), (1, .ref 2), (2, .int x2)]) (st2 := [.int 1, .ref 59]) (h2 := (sh_rep m19.T m19.I m19.J)) rfl rfl rfl ?_
    refine sh_w (i := (.sipush 500)) (len := 3) (pc2 := 91) (lv2 := [(0, .ref 59), (1, .ref 2), (2, .int x2)]) (st2 := [.int 500, .int 1, .ref 59]) (h2 := (sh_rep m19.T m19.I m19.J)) rfl rfl rfl ?_
    refine sh_w (i := (.aload_n 0)) (len := 1) (pc2 := 92) (lv2 := [(0, .ref 59), (1, .ref 2), (2, .int x2)]) (st2 := [.ref 59, .int 500, .int 1, .ref 59]) (h2 := (sh_rep m19.T m19.I m19.J)) rfl rfl rfl ?_
    refine sh_gI1 (len := 3) (x := m19.I 58 8) (pc2 := 95) rfl rfl hT.t58 rfl rfl rfl ?_
    exact kk
  refine sh_Lk_cS (r := (some (.int (sf_21 500 (m19.I 58 8))))) (st2 := [.int (sf_21 500 (m19.I 58 8)), .int 1, .ref 59]) (pc2 := 98) (k2 := 21) (as := [.int 500, .int (m19.I 58 8)]) (rest := [.int 1, .ref 59]) rfl rfl (by decide) (Nat.le_of_ble_eq_true rfl) rfl rfl ⟨Nat.le_of_ble_eq_true rfl, Nat.le_of_ble_eq_true rfl⟩ (sl_21 (m := m19) rfl ⟨rfl, rfl⟩) rfl rfl (Nat.le_of_ble_eq_true rfl) (Nat.le_of_ble_eq_true rfl) ?_
  rcases sh_bt_e e with ⟨m21, e11, rfl⟩ | ⟨r11, m21, e11, e⟩
  · obtain ⟨rfl, rfl⟩ := tg
    exact sh_Lk_tV (k2 := 201) (a := 58) (as := [.ref 59, .int 1, .int (sf_21 500 (m19.I 58 8))]) (rest := []) rfl rfl rfl (fun hT => hT.t58) rfl rfl ⟨Nat.le_of_ble_eq_true rfl, Nat.le_of_ble_eq_true rfl⟩ (sl_201 e11 ⟨rfl, rfl⟩) rfl (Nat.le_of_ble_eq_true rfl) (Nat.le_of_ble_eq_true rfl) (Nat.le_of_ble_eq_true rfl) (Nat.le_of_ble_eq_true rfl) rfl
  refine sh_Lk_cV (r := (some (.int r11))) (st2 := [.int r11]) (pc2 := 101) (k2 := 201) (a := 58) (as := [.ref 59, .int 1, .int (sf_21 500 (m19.I 58 8))]) (rest := []) rfl rfl rfl (fun hT => hT.t58) rfl rfl ⟨Nat.le_of_ble_eq_true rfl, Nat.le_of_ble_eq_true rfl⟩ (sl_201 e11 ⟨rfl, rfl⟩) rfl rfl (Nat.le_of_ble_eq_true rfl) (Nat.le_of_ble_eq_true rfl) ?_
  refine sh_Lk_lift (T := m21.T) (I := m21.I) (J := m21.J) (s := m21.s) (pc2 := 105) (lv2 := [(3, .int r11), (0, .ref 59), (1, .ref 2), (2, .int x2)]) (st2 := [.int 10, .ref 59]) (I2 := m21.I) (J2 := m21.J) (fun hT v kk => ?_) ?_
  · refine sh_w (i := (.istore_n 3)) (len := 1) (pc2 := 102) (lv2 := [(3, .int r11), (0, .ref 59), (1, .ref 2), (2, .int x2)]) (st2 := []) (h2 := (sh_rep m21.T m21.I m21.J)) rfl rfl rfl ?_
    refine sh_w (i := (.aload_n 0)) (len := 1) (pc2 := 103) (lv2 := [(3, .int r11), (0, .ref 59), (1, .ref 2), (2, .int x2)]) (st2 := [.ref 59]) (h2 := (sh_rep m21.T m21.I m21.J)) rfl rfl rfl ?_
    refine sh_w (i := (.bipush 10)) (len := 2) (pc2 := 105) (lv2 := [(3, .int r11), (0, .ref 59), (1, .ref 2), (2, .int x2)]) (st2 := [.int 10, .ref 59]) (h2 := (sh_rep m21.T m21.I m21.J)) rfl rfl rfl ?_
    exact kk
  rcases sh_bt_e e with ⟨m22, e12, rfl⟩ | ⟨r12, m22, e12, e⟩
  · obtain ⟨rfl, rfl⟩ := tg
    exact sh_Lk_tV (k2 := 204) (a := 58) (as := [.ref 59, .int 10]) (rest := []) rfl rfl rfl (fun hT => hT.t58) rfl rfl ⟨Nat.le_of_ble_eq_true rfl, Nat.le_of_ble_eq_true rfl⟩ (sl_204 e12 ⟨rfl, rfl⟩) rfl (Nat.le_of_ble_eq_true rfl) (Nat.le_of_ble_eq_true rfl) (Nat.le_of_ble_eq_true rfl) (Nat.le_of_ble_eq_true rfl) rfl
  refine sh_Lk_cV (r := none) (st2 := []) (pc2 := 108) (k2 := 204) (a := 58) (as := [.ref 59, .int 10]) (rest := []) rfl rfl rfl (fun hT => hT.t58) rfl rfl ⟨Nat.le_of_ble_eq_true rfl, Nat.le_of_ble_eq_true rfl⟩ (sl_204 e12 ⟨rfl, rfl⟩) rfl rfl (Nat.le_of_ble_eq_true rfl) (Nat.le_of_ble_eq_true rfl) ?_
  refine sh_Lk_lift (T := m22.T) (I := m22.I) (J := m22.J) (s := m22.s) (pc2 := 111) (lv2 := [(3, .int r11), (0, .ref 59), (1, .ref 2), (2, .int x2)]) (st2 := [.int 10, .ref 59]) (I2 := m22.I) (J2 := m22.J) (fun hT v kk => ?_) ?_
  · refine sh_w (i := (.aload_n 0)) (len := 1) (pc2 := 109) (lv2 := [(3, .int r11), (0, .ref 59), (1, .ref 2), (2, .int x2)]) (st2 := [.ref 59]) (h2 := (sh_rep m22.T m22.I m22.J)) rfl rfl rfl ?_
    refine sh_w (i := (.bipush 10)) (len := 2) (pc2 := 111) (lv2 := [(3, .int r11), (0, .ref 59), (1, .ref 2), (2, .int x2)]) (st2 := [.int 10, .ref 59]) (h2 := (sh_rep m22.T m22.I m22.J)) rfl rfl rfl ?_
    exact kk
  rcases sh_bt_e e with ⟨m23, e13, rfl⟩ | ⟨r13, m23, e13, e⟩
  · obtain ⟨rfl, rfl⟩ := tg
    exact sh_Lk_tV (k2 := 204) (a := 58) (as := [.ref 59, .int 10]) (rest := []) rfl rfl rfl (fun hT => hT.t58) rfl rfl ⟨Nat.le_of_ble_eq_true rfl, Nat.le_of_ble_eq_true rfl⟩ (sl_204 e13 ⟨rfl, rfl⟩) rfl (Nat.le_of_ble_eq_true rfl) (Nat.le_of_ble_eq_true rfl) (Nat.le_of_ble_eq_true rfl) (Nat.le_of_ble_eq_true rfl) rfl
  refine sh_Lk_cV (r := none) (st2 := []) (pc2 := 114) (k2 := 204) (a := 58) (as := [.ref 59, .int 10]) (rest := []) rfl rfl rfl (fun hT => hT.t58) rfl rfl ⟨Nat.le_of_ble_eq_true rfl, Nat.le_of_ble_eq_true rfl⟩ (sl_204 e13 ⟨rfl, rfl⟩) rfl rfl (Nat.le_of_ble_eq_true rfl) (Nat.le_of_ble_eq_true rfl) ?_
  refine sh_Lk_lift (T := m23.T) (I := m23.I) (J := m23.J) (s := m23.s) (pc2 := 117) (lv2 := [(4, .int 0), (3, .int r11), (0, .ref 59), (1, .ref 2), (2, .int x2)]) (st2 := []) (I2 := m23.I) (J2 := m23.J) (fun hT v kk => ?_) ?_
  · refine sh_w (i := (.iconst 0)) (len := 1) (pc2 := 115) (lv2 := [(3, .int r11), (0, .ref 59), (1, .ref 2), (2, .int x2)]) (st2 := [.int 0]) (h2 := (sh_rep m23.T m23.I m23.J)) rfl rfl rfl ?_
    refine sh_w (i := (.istore 4)) (len := 2) (pc2 := 117) (lv2 := [(4, .int 0), (3, .int r11), (0, .ref 59), (1, .ref 2), (2, .int x2)]) (st2 := []) (h2 := (sh_rep m23.T m23.I m23.J)) rfl rfl rfl ?_
    exact kk
  exact sh_Lk_sub (sh_sub_c rfl (sh_sub_c rfl (sh_sub_c rfl (sh_sub_n)))) (sl_200_117 e tg)
theorem sl_199_54 {x1 : Int32} {m m2 : sh_X} {o : Outcome} {z : (Int32 × sh_X)} (e : sf_199_54 x1 m = some z) (tg : (sh_tI o m2) z) : sh_Lk 199 54 [(0, .ref 1), (1, .int x1)] [] m o m2 33 670 := by
  unfold sf_199_54 at e
  refine sh_Lk_lift (T := m.T) (I := m.I) (J := m.J) (s := m.s) (pc2 := 60) (lv2 := [(0, .ref 1), (1, .int x1)]) (st2 := [.int x1]) (I2 := sh_u2 m.I 0 10 0) (J2 := m.J) (fun hT v kk => ?_) ?_
  · refine sh_w (i := (.aload_n 0)) (len := 1) (pc2 := 55) (lv2 := [(0, .ref 1), (1, .int x1)]) (st2 := [.ref 1]) (h2 := (sh_rep m.T m.I m.J)) rfl rfl rfl ?_
    refine sh_w (i := (.iconst 0)) (len := 1) (pc2 := 56) (lv2 := [(0, .ref 1), (1, .int x1)]) (st2 := [.int 0, .ref 1]) (h2 := (sh_rep m.T m.I m.J)) rfl rfl rfl ?_
    refine sh_pI1 (x := 0) (pc2 := 59) rfl rfl (sh_s0 hT.st) rfl rfl rfl rfl ?_
    refine sh_w (i := (.iload_n 1)) (len := 1) (pc2 := 60) (lv2 := [(0, .ref 1), (1, .int x1)]) (st2 := [.int x1]) (h2 := (sh_rep m.T (sh_u2 m.I 0 10 0) m.J)) rfl rfl rfl ?_
    exact kk
  obtain rfl := Option.some.inj e
  obtain ⟨rfl, rfl⟩ := tg
  exact sh_Lk_ret (i := .ireturn) rfl rfl rfl (Nat.le_of_ble_eq_true rfl) (Nat.le_of_ble_eq_true rfl)
theorem sl_199 {m m2 : sh_X} {o : Outcome} {z : (Int32 × sh_X)} (e : sf_199 m = some z) (tg : (sh_tI o m2) z) : sh_Lk 199 0 [(0, .ref 1)] [] m o m2 33 670 := by
  unfold sf_199 at e
  refine sh_Lk_lift (T := m.T) (I := m.I) (J := m.J) (s := m.s) (pc2 := 6) (lv2 := [(0, .ref 1)]) (st2 := [.int 24, .int (m.I 0 11)]) (I2 := m.I) (J2 := m.J) (fun hT v kk => ?_) ?_
  · refine sh_w (i := (.aload_n 0)) (len := 1) (pc2 := 1) (lv2 := [(0, .ref 1)]) (st2 := [.ref 1]) (h2 := (sh_rep m.T m.I m.J)) rfl rfl rfl ?_
    refine sh_gI1 (len := 3) (x := m.I 0 11) (pc2 := 4) rfl rfl (sh_s0 hT.st) rfl rfl rfl ?_
    refine sh_w (i := (.bipush 24)) (len := 2) (pc2 := 6) (lv2 := [(0, .ref 1)]) (st2 := [.int 24, .int (m.I 0 11)]) (h2 := (sh_rep m.T m.I m.J)) rfl rfl rfl ?_
    exact kk
  rcases sh_ite e with ⟨c, e⟩ | ⟨c, e⟩
  · refine sh_Lk_lift (T := m.T) (I := m.I) (J := m.J) (s := m.s) (pc2 := 12) (lv2 := [(0, .ref 1)]) (st2 := [.ref 1]) (I2 := m.I) (J2 := m.J) (fun hT v kk => ?_) ?_
    · refine sh_jc (c := .lt) (off := (5)) (pc2 := 11) true rfl (sh_Bltt c) rfl ?_
      refine sh_w (i := (.aload_n 0)) (len := 1) (pc2 := 12) (lv2 := [(0, .ref 1)]) (st2 := [.ref 1]) (h2 := (sh_rep m.T m.I m.J)) rfl rfl rfl ?_
      exact kk
    obtain ⟨r1, m11, e1, e⟩ := sh_bn_e e
    refine sh_Lk_cV (r := none) (st2 := []) (pc2 := 15) (k2 := 17) (a := 0) (as := [.ref 1]) (rest := []) rfl rfl rfl (fun hT => (sh_s0 hT.st)) rfl rfl ⟨Nat.le_of_ble_eq_true rfl, Nat.le_of_ble_eq_true rfl⟩ (sl_17 e1 ⟨rfl, rfl⟩) rfl rfl (Nat.le_of_ble_eq_true rfl) (Nat.le_of_ble_eq_true rfl) ?_
    refine sh_Lk_lift (T := m11.T) (I := m11.I) (J := m11.J) (s := m11.s) (pc2 := 29) (lv2 := [(1, .int 0), (0, .ref 1)]) (st2 := [.int (m11.I 0 10), .ref 2, .ref 59]) (I2 := m11.I) (J2 := m11.J) (fun hT v kk => ?_) ?_
    · refine sh_w (i := (.iconst 0)) (len := 1) (pc2 := 16) (lv2 := [(0, .ref 1)]) (st2 := [.int 0]) (h2 := (sh_rep m11.T m11.I m11.J)) rfl rfl rfl ?_
      refine sh_w (i := (.istore_n 1)) (len := 1) (pc2 := 17) (lv2 := [(1, .int 0), (0, .ref 1)]) (st2 := []) (h2 := (sh_rep m11.T m11.I m11.J)) rfl rfl rfl ?_
      refine sh_w (i := (.aload_n 0)) (len := 1) (pc2 := 18) (lv2 := [(1, .int 0), (0, .ref 1)]) (st2 := [.ref 1]) (h2 := (sh_rep m11.T m11.I m11.J)) rfl rfl rfl ?_
      refine sh_gR1 (len := 3) (x := .ref 59) (pc2 := 21) rfl rfl (sh_s0 hT.st) rfl rfl ?_
      refine sh_w (i := (.aload_n 0)) (len := 1) (pc2 := 22) (lv2 := [(1, .int 0), (0, .ref 1)]) (st2 := [.ref 1, .ref 59]) (h2 := (sh_rep m11.T m11.I m11.J)) rfl rfl rfl ?_
      refine sh_gR1 (len := 3) (x := .ref 2) (pc2 := 25) rfl rfl (sh_s0 hT.st) rfl rfl ?_
      refine sh_w (i := (.aload_n 0)) (len := 1) (pc2 := 26) (lv2 := [(1, .int 0), (0, .ref 1)]) (st2 := [.ref 1, .ref 2, .ref 59]) (h2 := (sh_rep m11.T m11.I m11.J)) rfl rfl rfl ?_
      refine sh_gI1 (len := 3) (x := m11.I 0 10) (pc2 := 29) rfl rfl (sh_s0 hT.st) rfl rfl rfl ?_
      exact kk
    rcases sh_bh_e e with ⟨m12, e2, e⟩ | ⟨r2, m12, e2, e⟩
    · refine sh_Lk_tCV (hpc := 40) (k2 := 200) (a := 58) (as := [.ref 59, .ref 2, .int (m11.I 0 10)]) (rest := []) rfl rfl rfl (fun hT => hT.t58) rfl rfl ⟨Nat.le_of_ble_eq_true rfl, Nat.le_of_ble_eq_true rfl⟩ (sl_200 e2 ⟨rfl, rfl⟩) rfl rfl rfl (Nat.le_of_ble_eq_true rfl) (Nat.le_of_ble_eq_true rfl) (fun xe => ?_)
      refine sh_Lk_lift (T := m12.T) (I := m12.I) (J := m12.J) (s := m12.s) (pc2 := 54) (lv2 := [(1, .int 2), (2, .ref xe), (0, .ref 1)]) (st2 := []) (I2 := sh_u2 m12.I 0 12 (m12.I 58 11)) (J2 := m12.J) (fun hT v kk => ?_) ?_
      · refine sh_w (i := (.astore_n 2)) (len := 1) (pc2 := 41) (lv2 := [(2, .ref xe), (1, .int 0), (0, .ref 1)]) (st2 := []) (h2 := (sh_rep m12.T m12.I m12.J)) rfl rfl rfl ?_
        refine sh_w (i := (.iconst 2)) (len := 1) (pc2 := 42) (lv2 := [(2, .ref xe), (1, .int 0), (0, .ref 1)]) (st2 := [.int 2]) (h2 := (sh_rep m12.T m12.I m12.J)) rfl rfl rfl ?_
        refine sh_w (i := (.istore_n 1)) (len := 1) (pc2 := 43) (lv2 := [(1, .int 2), (2, .ref xe), (0, .ref 1)]) (st2 := []) (h2 := (sh_rep m12.T m12.I m12.J)) rfl rfl rfl ?_
        refine sh_w (i := (.aload_n 0)) (len := 1) (pc2 := 44) (lv2 := [(1, .int 2), (2, .ref xe), (0, .ref 1)]) (st2 := [.ref 1]) (h2 := (sh_rep m12.T m12.I m12.J)) rfl rfl rfl ?_
        refine sh_w (i := (.aload_n 0)) (len := 1) (pc2 := 45) (lv2 := [(1, .int 2), (2, .ref xe), (0, .ref 1)]) (st2 := [.ref 1, .ref 1]) (h2 := (sh_rep m12.T m12.I m12.J)) rfl rfl rfl ?_
        refine sh_gR1 (len := 3) (x := .ref 59) (pc2 := 48) rfl rfl (sh_s0 hT.st) rfl rfl ?_
        refine sh_gI1 (len := 3) (x := m12.I 58 11) (pc2 := 51) rfl rfl hT.t58 rfl rfl rfl ?_
        refine sh_pI1 (x := m12.I 58 11) (pc2 := 54) rfl rfl (sh_s0 hT.st) rfl rfl rfl rfl ?_
        exact kk
      exact sh_Lk_sub (sh_sub_c rfl (sh_sub_c rfl (sh_sub_n))) (sl_199_54 e tg)
    refine sh_Lk_cV (r := none) (st2 := []) (pc2 := 32) (k2 := 200) (a := 58) (as := [.ref 59, .ref 2, .int (m11.I 0 10)]) (rest := []) rfl rfl rfl (fun hT => hT.t58) rfl rfl ⟨Nat.le_of_ble_eq_true rfl, Nat.le_of_ble_eq_true rfl⟩ (sl_200 e2 ⟨rfl, rfl⟩) rfl rfl (Nat.le_of_ble_eq_true rfl) (Nat.le_of_ble_eq_true rfl) ?_
    refine sh_Lk_lift (T := m12.T) (I := m12.I) (J := m12.J) (s := m12.s) (pc2 := 54) (lv2 := [(1, .int 0), (0, .ref 1)]) (st2 := []) (I2 := sh_u2 m12.I 0 13 2) (J2 := m12.J) (fun hT v kk => ?_) ?_
    · refine sh_w (i := (.aload_n 0)) (len := 1) (pc2 := 33) (lv2 := [(1, .int 0), (0, .ref 1)]) (st2 := [.ref 1]) (h2 := (sh_rep m12.T m12.I m12.J)) rfl rfl rfl ?_
      refine sh_w (i := (.iconst 2)) (len := 1) (pc2 := 34) (lv2 := [(1, .int 0), (0, .ref 1)]) (st2 := [.int 2, .ref 1]) (h2 := (sh_rep m12.T m12.I m12.J)) rfl rfl rfl ?_
      refine sh_pI1 (x := 2) (pc2 := 37) rfl rfl (sh_s0 hT.st) rfl rfl rfl rfl ?_
      refine sh_w (i := (.goto 17)) (len := 3) (pc2 := 54) (lv2 := [(1, .int 0), (0, .ref 1)]) (st2 := []) (h2 := (sh_rep m12.T (sh_u2 m12.I 0 13 2) m12.J)) rfl rfl rfl ?_
      exact kk
    exact sh_Lk_sub (sh_sub_c rfl (sh_sub_c rfl (sh_sub_n))) (sl_199_54 e tg)
  · refine sh_Lk_lift (T := m.T) (I := m.I) (J := m.J) (s := m.s) (pc2 := 10) (lv2 := [(0, .ref 1)]) (st2 := [.int (-1)]) (I2 := m.I) (J2 := m.J) (fun hT v kk => ?_) ?_
    · refine sh_jc (c := .lt) (off := (5)) (pc2 := 9) false rfl (sh_Bltf c) rfl ?_
      refine sh_w (i := (.iconst (-1))) (len := 1) (pc2 := 10) (lv2 := [(0, .ref 1)]) (st2 := [.int (-1)]) (h2 := (sh_rep m.T m.I m.J)) rfl rfl rfl ?_
      exact kk
    obtain rfl := Option.some.inj e
    obtain ⟨rfl, rfl⟩ := tg
    exact sh_Lk_ret (i := .ireturn) rfl rfl rfl (Nat.le_of_ble_eq_true rfl) (Nat.le_of_ble_eq_true rfl)
theorem sl_213 {m m2 : sh_X} {o : Outcome} {z : Int32} (e : sf_213 m = some z) (tg : (sh_tIc m o m2) z) : sh_Lk 213 0 [(0, .ref 1)] [] m o m2 8 200 := by
  unfold sf_213 at e
  refine sh_Lk_lift (T := m.T) (I := m.I) (J := m.J) (s := m.s) (pc2 := 4) (lv2 := [(0, .ref 1)]) (st2 := [.int (m.I 0 12)]) (I2 := m.I) (J2 := m.J) (fun hT v kk => ?_) ?_
  · refine sh_w (i := (.aload_n 0)) (len := 1) (pc2 := 1) (lv2 := [(0, .ref 1)]) (st2 := [.ref 1]) (h2 := (sh_rep m.T m.I m.J)) rfl rfl rfl ?_
    refine sh_gI1 (len := 3) (x := m.I 0 12) (pc2 := 4) rfl rfl (sh_s0 hT.st) rfl rfl rfl ?_
    exact kk
  obtain rfl := Option.some.inj e
  obtain ⟨rfl, rfl⟩ := tg
  exact sh_Lk_ret (i := .ireturn) rfl rfl rfl (Nat.le_of_ble_eq_true rfl) (Nat.le_of_ble_eq_true rfl)
theorem sl_215 {x1 : Int32} {m m2 : sh_X} {o : Outcome} {z : Int32} (e : sf_215 x1 m = some z) (tg : (sh_tIc m o m2) z) : sh_Lk 215 0 [(0, .ref 59), (1, .int x1)] [] m o m2 8 200 := by
  unfold sf_215 at e
  refine sh_Lk_lift (T := m.T) (I := m.I) (J := m.J) (s := m.s) (pc2 := 2) (lv2 := [(0, .ref 59), (1, .int x1)]) (st2 := [.int 4, .int x1]) (I2 := m.I) (J2 := m.J) (fun hT v kk => ?_) ?_
  · refine sh_w (i := (.iload_n 1)) (len := 1) (pc2 := 1) (lv2 := [(0, .ref 59), (1, .int x1)]) (st2 := [.int x1]) (h2 := (sh_rep m.T m.I m.J)) rfl rfl rfl ?_
    refine sh_w (i := (.iconst 4)) (len := 1) (pc2 := 2) (lv2 := [(0, .ref 59), (1, .int x1)]) (st2 := [.int 4, .int x1]) (h2 := (sh_rep m.T m.I m.J)) rfl rfl rfl ?_
    exact kk
  rcases sh_ite e with ⟨c, e⟩ | ⟨c, e⟩
  · refine sh_Lk_lift (T := m.T) (I := m.I) (J := m.J) (s := m.s) (pc2 := 28) (lv2 := [(0, .ref 59), (1, .int x1)]) (st2 := [.int (m.I 58 10)]) (I2 := m.I) (J2 := m.J) (fun hT v kk => ?_) ?_
    · refine sh_jc (c := .ne) (off := (10)) (pc2 := 5) false rfl (sh_Bnef c) rfl ?_
      refine sh_w (i := (.aload_n 0)) (len := 1) (pc2 := 6) (lv2 := [(0, .ref 59), (1, .int x1)]) (st2 := [.ref 59]) (h2 := (sh_rep m.T m.I m.J)) rfl rfl rfl ?_
      refine sh_gI1 (len := 3) (x := m.I 58 10) (pc2 := 9) rfl rfl hT.t58 rfl rfl rfl ?_
      refine sh_w (i := (.goto 19)) (len := 3) (pc2 := 28) (lv2 := [(0, .ref 59), (1, .int x1)]) (st2 := [.int (m.I 58 10)]) (h2 := (sh_rep m.T m.I m.J)) rfl rfl rfl ?_
      exact kk
    obtain rfl := Option.some.inj e
    obtain ⟨rfl, rfl⟩ := tg
    exact sh_Lk_ret (i := .ireturn) rfl rfl rfl (Nat.le_of_ble_eq_true rfl) (Nat.le_of_ble_eq_true rfl)
  · refine sh_Lk_lift (T := m.T) (I := m.I) (J := m.J) (s := m.s) (pc2 := 14) (lv2 := [(0, .ref 59), (1, .int x1)]) (st2 := [.int 5, .int x1]) (I2 := m.I) (J2 := m.J) (fun hT v kk => ?_) ?_
    · refine sh_jc (c := .ne) (off := (10)) (pc2 := 12) true rfl (sh_Bnet c) rfl ?_
      refine sh_w (i := (.iload_n 1)) (len := 1) (pc2 := 13) (lv2 := [(0, .ref 59), (1, .int x1)]) (st2 := [.int x1]) (h2 := (sh_rep m.T m.I m.J)) rfl rfl rfl ?_
      refine sh_w (i := (.iconst 5)) (len := 1) (pc2 := 14) (lv2 := [(0, .ref 59), (1, .int x1)]) (st2 := [.int 5, .int x1]) (h2 := (sh_rep m.T m.I m.J)) rfl rfl rfl ?_
      exact kk
    rcases sh_ite e with ⟨c, e⟩ | ⟨c, e⟩
    · refine sh_Lk_lift (T := m.T) (I := m.I) (J := m.J) (s := m.s) (pc2 := 28) (lv2 := [(0, .ref 59), (1, .int x1)]) (st2 := [.int (m.I 58 9)]) (I2 := m.I) (J2 := m.J) (fun hT v kk => ?_) ?_
      · refine sh_jc (c := .ne) (off := (10)) (pc2 := 17) false rfl (sh_Bnef c) rfl ?_
        refine sh_w (i := (.aload_n 0)) (len := 1) (pc2 := 18) (lv2 := [(0, .ref 59), (1, .int x1)]) (st2 := [.ref 59]) (h2 := (sh_rep m.T m.I m.J)) rfl rfl rfl ?_
        refine sh_gI1 (len := 3) (x := m.I 58 9) (pc2 := 21) rfl rfl hT.t58 rfl rfl rfl ?_
        refine sh_w (i := (.goto 7)) (len := 3) (pc2 := 28) (lv2 := [(0, .ref 59), (1, .int x1)]) (st2 := [.int (m.I 58 9)]) (h2 := (sh_rep m.T m.I m.J)) rfl rfl rfl ?_
        exact kk
      obtain rfl := Option.some.inj e
      obtain ⟨rfl, rfl⟩ := tg
      exact sh_Lk_ret (i := .ireturn) rfl rfl rfl (Nat.le_of_ble_eq_true rfl) (Nat.le_of_ble_eq_true rfl)
    · refine sh_Lk_lift (T := m.T) (I := m.I) (J := m.J) (s := m.s) (pc2 := 28) (lv2 := [(0, .ref 59), (1, .int x1)]) (st2 := [.int (m.I 58 8)]) (I2 := m.I) (J2 := m.J) (fun hT v kk => ?_) ?_
      · refine sh_jc (c := .ne) (off := (10)) (pc2 := 24) true rfl (sh_Bnet c) rfl ?_
        refine sh_w (i := (.aload_n 0)) (len := 1) (pc2 := 25) (lv2 := [(0, .ref 59), (1, .int x1)]) (st2 := [.ref 59]) (h2 := (sh_rep m.T m.I m.J)) rfl rfl rfl ?_
        refine sh_gI1 (len := 3) (x := m.I 58 8) (pc2 := 28) rfl rfl hT.t58 rfl rfl rfl ?_
        exact kk
      obtain rfl := Option.some.inj e
      obtain ⟨rfl, rfl⟩ := tg
      exact sh_Lk_ret (i := .ireturn) rfl rfl rfl (Nat.le_of_ble_eq_true rfl) (Nat.le_of_ble_eq_true rfl)
theorem sl_214_54 {x1 : Int32} {m m2 : sh_X} {o : Outcome} {z : (Int32 × sh_X)} (e : sf_214_54 x1 m = some z) (tg : (sh_tI o m2) z) : sh_Lk 214 54 [(0, .ref 1), (1, .int x1)] [] m o m2 9 221 := by
  unfold sf_214_54 at e
  refine sh_Lk_lift (T := m.T) (I := m.I) (J := m.J) (s := m.s) (pc2 := 56) (lv2 := [(0, .ref 1), (1, .int x1)]) (st2 := [.int x1, .ref 1]) (I2 := m.I) (J2 := m.J) (fun hT v kk => ?_) ?_
  · refine sh_w (i := (.aload_n 0)) (len := 1) (pc2 := 55) (lv2 := [(0, .ref 1), (1, .int x1)]) (st2 := [.ref 1]) (h2 := (sh_rep m.T m.I m.J)) rfl rfl rfl ?_
    refine sh_w (i := (.iload_n 1)) (len := 1) (pc2 := 56) (lv2 := [(0, .ref 1), (1, .int x1)]) (st2 := [.int x1, .ref 1]) (h2 := (sh_rep m.T m.I m.J)) rfl rfl rfl ?_
    exact kk
  rcases sh_ite e with ⟨c0, e⟩ | ⟨c0, e⟩
  · refine sh_Lk_so (x := x1) (w := .ref 14) (pc2 := 59) rfl rfl (if_pos c0) rfl (Nat.le_of_ble_eq_true rfl) (Nat.le_of_ble_eq_true rfl) (Nat.le_of_ble_eq_true rfl) ?_
    refine sh_Lk_lift (T := m.T) (I := m.I) (J := m.J) (s := m.s) (pc2 := 72) (lv2 := [(2, .ref 14), (0, .ref 1), (1, .int x1)]) (st2 := [.int (m.I 13 4)]) (I2 := m.I) (J2 := m.J) (fun hT v kk => ?_) ?_
    · refine sh_w (i := (.astore_n 2)) (len := 1) (pc2 := 60) (lv2 := [(2, .ref 14), (0, .ref 1), (1, .int x1)]) (st2 := []) (h2 := (sh_rep m.T m.I m.J)) rfl rfl rfl ?_
      refine sh_w (i := (.aload_n 2)) (len := 1) (pc2 := 61) (lv2 := [(2, .ref 14), (0, .ref 1), (1, .int x1)]) (st2 := [.ref 14]) (h2 := (sh_rep m.T m.I m.J)) rfl rfl rfl ?_
      refine sh_w (i := (.ifnonnull 7)) (len := 3) (pc2 := 68) (lv2 := [(2, .ref 14), (0, .ref 1), (1, .int x1)]) (st2 := []) (h2 := (sh_rep m.T m.I m.J)) rfl rfl rfl ?_
      refine sh_w (i := (.aload_n 2)) (len := 1) (pc2 := 69) (lv2 := [(2, .ref 14), (0, .ref 1), (1, .int x1)]) (st2 := [.ref 14]) (h2 := (sh_rep m.T m.I m.J)) rfl rfl rfl ?_
      refine sh_gI1 (len := 3) (x := m.I 13 4) (pc2 := 72) rfl rfl (sh_s13 hT.st) rfl rfl rfl ?_
      exact kk
    obtain rfl := Option.some.inj e
    obtain ⟨rfl, rfl⟩ := tg
    exact sh_Lk_ret (i := .ireturn) rfl rfl rfl (Nat.le_of_ble_eq_true rfl) (Nat.le_of_ble_eq_true rfl)
  · rcases sh_ite e with ⟨c1, e⟩ | ⟨c1, e⟩
    · refine sh_Lk_so (x := x1) (w := .ref 19) (pc2 := 59) rfl rfl ((if_neg c0).trans (if_pos c1)) rfl (Nat.le_of_ble_eq_true rfl) (Nat.le_of_ble_eq_true rfl) (Nat.le_of_ble_eq_true rfl) ?_
      refine sh_Lk_lift (T := m.T) (I := m.I) (J := m.J) (s := m.s) (pc2 := 72) (lv2 := [(2, .ref 19), (0, .ref 1), (1, .int x1)]) (st2 := [.int (m.I 18 4)]) (I2 := m.I) (J2 := m.J) (fun hT v kk => ?_) ?_
      · refine sh_w (i := (.astore_n 2)) (len := 1) (pc2 := 60) (lv2 := [(2, .ref 19), (0, .ref 1), (1, .int x1)]) (st2 := []) (h2 := (sh_rep m.T m.I m.J)) rfl rfl rfl ?_
        refine sh_w (i := (.aload_n 2)) (len := 1) (pc2 := 61) (lv2 := [(2, .ref 19), (0, .ref 1), (1, .int x1)]) (st2 := [.ref 19]) (h2 := (sh_rep m.T m.I m.J)) rfl rfl rfl ?_
        refine sh_w (i := (.ifnonnull 7)) (len := 3) (pc2 := 68) (lv2 := [(2, .ref 19), (0, .ref 1), (1, .int x1)]) (st2 := []) (h2 := (sh_rep m.T m.I m.J)) rfl rfl rfl ?_
        refine sh_w (i := (.aload_n 2)) (len := 1) (pc2 := 69) (lv2 := [(2, .ref 19), (0, .ref 1), (1, .int x1)]) (st2 := [.ref 19]) (h2 := (sh_rep m.T m.I m.J)) rfl rfl rfl ?_
        refine sh_gI1 (len := 3) (x := m.I 18 4) (pc2 := 72) rfl rfl (sh_s18 hT.st) rfl rfl rfl ?_
        exact kk
      obtain rfl := Option.some.inj e
      obtain ⟨rfl, rfl⟩ := tg
      exact sh_Lk_ret (i := .ireturn) rfl rfl rfl (Nat.le_of_ble_eq_true rfl) (Nat.le_of_ble_eq_true rfl)
    · rcases sh_ite e with ⟨c2, e⟩ | ⟨c2, e⟩
      · refine sh_Lk_so (x := x1) (w := .ref 24) (pc2 := 59) rfl rfl ((if_neg c0).trans ((if_neg c1).trans (if_pos c2))) rfl (Nat.le_of_ble_eq_true rfl) (Nat.le_of_ble_eq_true rfl) (Nat.le_of_ble_eq_true rfl) ?_
        refine sh_Lk_lift (T := m.T) (I := m.I) (J := m.J) (s := m.s) (pc2 := 72) (lv2 := [(2, .ref 24), (0, .ref 1), (1, .int x1)]) (st2 := [.int (m.I 23 4)]) (I2 := m.I) (J2 := m.J) (fun hT v kk => ?_) ?_
        · refine sh_w (i := (.astore_n 2)) (len := 1) (pc2 := 60) (lv2 := [(2, .ref 24), (0, .ref 1), (1, .int x1)]) (st2 := []) (h2 := (sh_rep m.T m.I m.J)) rfl rfl rfl ?_
          refine sh_w (i := (.aload_n 2)) (len := 1) (pc2 := 61) (lv2 := [(2, .ref 24), (0, .ref 1), (1, .int x1)]) (st2 := [.ref 24]) (h2 := (sh_rep m.T m.I m.J)) rfl rfl rfl ?_
          refine sh_w (i := (.ifnonnull 7)) (len := 3) (pc2 := 68) (lv2 := [(2, .ref 24), (0, .ref 1), (1, .int x1)]) (st2 := []) (h2 := (sh_rep m.T m.I m.J)) rfl rfl rfl ?_
          refine sh_w (i := (.aload_n 2)) (len := 1) (pc2 := 69) (lv2 := [(2, .ref 24), (0, .ref 1), (1, .int x1)]) (st2 := [.ref 24]) (h2 := (sh_rep m.T m.I m.J)) rfl rfl rfl ?_
          refine sh_gI1 (len := 3) (x := m.I 23 4) (pc2 := 72) rfl rfl (sh_s23 hT.st) rfl rfl rfl ?_
          exact kk
        obtain rfl := Option.some.inj e
        obtain ⟨rfl, rfl⟩ := tg
        exact sh_Lk_ret (i := .ireturn) rfl rfl rfl (Nat.le_of_ble_eq_true rfl) (Nat.le_of_ble_eq_true rfl)
      · refine sh_Lk_so (x := x1) (w := .null) (pc2 := 59) rfl rfl ((if_neg c0).trans ((if_neg c1).trans (if_neg c2))) rfl (Nat.le_of_ble_eq_true rfl) (Nat.le_of_ble_eq_true rfl) (Nat.le_of_ble_eq_true rfl) ?_
        refine sh_Lk_lift (T := m.T) (I := m.I) (J := m.J) (s := m.s) (pc2 := 72) (lv2 := [(2, .null), (0, .ref 1), (1, .int x1)]) (st2 := [.int (-1)]) (I2 := m.I) (J2 := m.J) (fun hT v kk => ?_) ?_
        · refine sh_w (i := (.astore_n 2)) (len := 1) (pc2 := 60) (lv2 := [(2, .null), (0, .ref 1), (1, .int x1)]) (st2 := []) (h2 := (sh_rep m.T m.I m.J)) rfl rfl rfl ?_
          refine sh_w (i := (.aload_n 2)) (len := 1) (pc2 := 61) (lv2 := [(2, .null), (0, .ref 1), (1, .int x1)]) (st2 := [.null]) (h2 := (sh_rep m.T m.I m.J)) rfl rfl rfl ?_
          refine sh_w (i := (.ifnonnull 7)) (len := 3) (pc2 := 64) (lv2 := [(2, .null), (0, .ref 1), (1, .int x1)]) (st2 := []) (h2 := (sh_rep m.T m.I m.J)) rfl rfl rfl ?_
          refine sh_w (i := (.iconst (-1))) (len := 1) (pc2 := 65) (lv2 := [(2, .null), (0, .ref 1), (1, .int x1)]) (st2 := [.int (-1)]) (h2 := (sh_rep m.T m.I m.J)) rfl rfl rfl ?_
          refine sh_w (i := (.goto 7)) (len := 3) (pc2 := 72) (lv2 := [(2, .null), (0, .ref 1), (1, .int x1)]) (st2 := [.int (-1)]) (h2 := (sh_rep m.T m.I m.J)) rfl rfl rfl ?_
          exact kk
        obtain rfl := Option.some.inj e
        obtain ⟨rfl, rfl⟩ := tg
        exact sh_Lk_ret (i := .ireturn) rfl rfl rfl (Nat.le_of_ble_eq_true rfl) (Nat.le_of_ble_eq_true rfl)
theorem sl_214 {x1 : Int32} {m m2 : sh_X} {o : Outcome} {z : (Int32 × sh_X)} (e : sf_214 x1 m = some z) (tg : (sh_tI o m2) z) : sh_Lk 214 0 [(0, .ref 1), (1, .int x1)] [] m o m2 9 221 := by
  unfold sf_214 at e
  refine sh_Lk_lift (T := m.T) (I := m.I) (J := m.J) (s := m.s) (pc2 := 4) (lv2 := [(0, .ref 1), (1, .int x1)]) (st2 := [.int (m.I 0 13)]) (I2 := m.I) (J2 := m.J) (fun hT v kk => ?_) ?_
  · refine sh_w (i := (.aload_n 0)) (len := 1) (pc2 := 1) (lv2 := [(0, .ref 1), (1, .int x1)]) (st2 := [.ref 1]) (h2 := (sh_rep m.T m.I m.J)) rfl rfl rfl ?_
    refine sh_gI1 (len := 3) (x := m.I 0 13) (pc2 := 4) rfl rfl (sh_s0 hT.st) rfl rfl rfl ?_
    exact kk
  rcases sh_ite e with ⟨c, e⟩ | ⟨c, e⟩
  · refine sh_Lk_lift (T := m.T) (I := m.I) (J := m.J) (s := m.s) (pc2 := 8) (lv2 := [(0, .ref 1), (1, .int x1)]) (st2 := [.int (-1)]) (I2 := m.I) (J2 := m.J) (fun hT v kk => ?_) ?_
    · refine sh_j0 (c := .ne) (off := (5)) (pc2 := 7) false rfl (sh_Bnef c) rfl ?_
      refine sh_w (i := (.iconst (-1))) (len := 1) (pc2 := 8) (lv2 := [(0, .ref 1), (1, .int x1)]) (st2 := [.int (-1)]) (h2 := (sh_rep m.T m.I m.J)) rfl rfl rfl ?_
      exact kk
    obtain rfl := Option.some.inj e
    obtain ⟨rfl, rfl⟩ := tg
    exact sh_Lk_ret (i := .ireturn) rfl rfl rfl (Nat.le_of_ble_eq_true rfl) (Nat.le_of_ble_eq_true rfl)
  · refine sh_Lk_lift (T := m.T) (I := m.I) (J := m.J) (s := m.s) (pc2 := 11) (lv2 := [(0, .ref 1), (1, .int x1)]) (st2 := [.int 3, .int x1]) (I2 := m.I) (J2 := m.J) (fun hT v kk => ?_) ?_
    · refine sh_j0 (c := .ne) (off := (5)) (pc2 := 9) true rfl (sh_Bnet c) rfl ?_
      refine sh_w (i := (.iload_n 1)) (len := 1) (pc2 := 10) (lv2 := [(0, .ref 1), (1, .int x1)]) (st2 := [.int x1]) (h2 := (sh_rep m.T m.I m.J)) rfl rfl rfl ?_
      refine sh_w (i := (.iconst 3)) (len := 1) (pc2 := 11) (lv2 := [(0, .ref 1), (1, .int x1)]) (st2 := [.int 3, .int x1]) (h2 := (sh_rep m.T m.I m.J)) rfl rfl rfl ?_
      exact kk
    rcases sh_ite e with ⟨c, e⟩ | ⟨c, e⟩
    · refine sh_Lk_lift (T := m.T) (I := m.I) (J := m.J) (s := m.s) (pc2 := 21) (lv2 := [(0, .ref 1), (1, .int x1)]) (st2 := [.int (m.I 23 5)]) (I2 := m.I) (J2 := m.J) (fun hT v kk => ?_) ?_
      · refine sh_jc (c := .ne) (off := (11)) (pc2 := 14) false rfl (sh_Bnef c) rfl ?_
        refine sh_w (i := (.aload_n 0)) (len := 1) (pc2 := 15) (lv2 := [(0, .ref 1), (1, .int x1)]) (st2 := [.ref 1]) (h2 := (sh_rep m.T m.I m.J)) rfl rfl rfl ?_
        refine sh_gR1 (len := 3) (x := .ref 24) (pc2 := 18) rfl rfl (sh_s0 hT.st) rfl rfl ?_
        refine sh_gI1 (len := 3) (x := m.I 23 5) (pc2 := 21) rfl rfl (sh_s23 hT.st) rfl rfl rfl ?_
        exact kk
      obtain rfl := Option.some.inj e
      obtain ⟨rfl, rfl⟩ := tg
      exact sh_Lk_ret (i := .ireturn) rfl rfl rfl (Nat.le_of_ble_eq_true rfl) (Nat.le_of_ble_eq_true rfl)
    · refine sh_Lk_lift (T := m.T) (I := m.I) (J := m.J) (s := m.s) (pc2 := 24) (lv2 := [(0, .ref 1), (1, .int x1)]) (st2 := [.int 4, .int x1]) (I2 := m.I) (J2 := m.J) (fun hT v kk => ?_) ?_
      · refine sh_jc (c := .ne) (off := (11)) (pc2 := 22) true rfl (sh_Bnet c) rfl ?_
        refine sh_w (i := (.iload_n 1)) (len := 1) (pc2 := 23) (lv2 := [(0, .ref 1), (1, .int x1)]) (st2 := [.int x1]) (h2 := (sh_rep m.T m.I m.J)) rfl rfl rfl ?_
        refine sh_w (i := (.iconst 4)) (len := 1) (pc2 := 24) (lv2 := [(0, .ref 1), (1, .int x1)]) (st2 := [.int 4, .int x1]) (h2 := (sh_rep m.T m.I m.J)) rfl rfl rfl ?_
        exact kk
      rcases sh_ite e with ⟨c, e⟩ | ⟨c, e⟩
      · refine sh_Lk_lift (T := m.T) (I := m.I) (J := m.J) (s := m.s) (pc2 := 54) (lv2 := [(0, .ref 1), (1, .int x1)]) (st2 := []) (I2 := m.I) (J2 := m.J) (fun hT v kk => ?_) ?_
        · refine sh_jc (c := .lt) (off := (30)) (pc2 := 54) true rfl (sh_Bltt c) rfl ?_
          exact kk
        exact sh_Lk_sub (sh_sub_c rfl (sh_sub_c rfl (sh_sub_n))) (sl_214_54 e tg)
      · refine sh_Lk_lift (T := m.T) (I := m.I) (J := m.J) (s := m.s) (pc2 := 30) (lv2 := [(0, .ref 1), (1, .int x1)]) (st2 := [.int 6, .int x1]) (I2 := m.I) (J2 := m.J) (fun hT v kk => ?_) ?_
        · refine sh_jc (c := .lt) (off := (30)) (pc2 := 27) false rfl (sh_Bltf c) rfl ?_
          refine sh_w (i := (.iload_n 1)) (len := 1) (pc2 := 28) (lv2 := [(0, .ref 1), (1, .int x1)]) (st2 := [.int x1]) (h2 := (sh_rep m.T m.I m.J)) rfl rfl rfl ?_
          refine sh_w (i := (.bipush 6)) (len := 2) (pc2 := 30) (lv2 := [(0, .ref 1), (1, .int x1)]) (st2 := [.int 6, .int x1]) (h2 := (sh_rep m.T m.I m.J)) rfl rfl rfl ?_
          exact kk
        rcases sh_ite e with ⟨c, e⟩ | ⟨c, e⟩
        · refine sh_Lk_lift (T := m.T) (I := m.I) (J := m.J) (s := m.s) (pc2 := 54) (lv2 := [(0, .ref 1), (1, .int x1)]) (st2 := []) (I2 := m.I) (J2 := m.J) (fun hT v kk => ?_) ?_
          · refine sh_jc (c := .gt) (off := (24)) (pc2 := 54) true rfl (sh_Bgtt c) rfl ?_
            exact kk
          exact sh_Lk_sub (sh_sub_c rfl (sh_sub_c rfl (sh_sub_n))) (sl_214_54 e tg)
        · refine sh_Lk_lift (T := m.T) (I := m.I) (J := m.J) (s := m.s) (pc2 := 38) (lv2 := [(0, .ref 1), (1, .int x1)]) (st2 := [.int 2, .int (m.I 0 13)]) (I2 := m.I) (J2 := m.J) (fun hT v kk => ?_) ?_
          · refine sh_jc (c := .gt) (off := (24)) (pc2 := 33) false rfl (sh_Bgtf c) rfl ?_
            refine sh_w (i := (.aload_n 0)) (len := 1) (pc2 := 34) (lv2 := [(0, .ref 1), (1, .int x1)]) (st2 := [.ref 1]) (h2 := (sh_rep m.T m.I m.J)) rfl rfl rfl ?_
            refine sh_gI1 (len := 3) (x := m.I 0 13) (pc2 := 37) rfl rfl (sh_s0 hT.st) rfl rfl rfl ?_
            refine sh_w (i := (.iconst 2)) (len := 1) (pc2 := 38) (lv2 := [(0, .ref 1), (1, .int x1)]) (st2 := [.int 2, .int (m.I 0 13)]) (h2 := (sh_rep m.T m.I m.J)) rfl rfl rfl ?_
            exact kk
          rcases sh_ite e with ⟨c, e⟩ | ⟨c, e⟩
          · refine sh_Lk_lift (T := m.T) (I := m.I) (J := m.J) (s := m.s) (pc2 := 46) (lv2 := [(0, .ref 1), (1, .int x1)]) (st2 := [.int x1, .ref 59]) (I2 := m.I) (J2 := m.J) (fun hT v kk => ?_) ?_
            · refine sh_jc (c := .ne) (off := (14)) (pc2 := 41) false rfl (sh_Bnef c) rfl ?_
              refine sh_w (i := (.aload_n 0)) (len := 1) (pc2 := 42) (lv2 := [(0, .ref 1), (1, .int x1)]) (st2 := [.ref 1]) (h2 := (sh_rep m.T m.I m.J)) rfl rfl rfl ?_
              refine sh_gR1 (len := 3) (x := .ref 59) (pc2 := 45) rfl rfl (sh_s0 hT.st) rfl rfl ?_
              refine sh_w (i := (.iload_n 1)) (len := 1) (pc2 := 46) (lv2 := [(0, .ref 1), (1, .int x1)]) (st2 := [.int x1, .ref 59]) (h2 := (sh_rep m.T m.I m.J)) rfl rfl rfl ?_
              exact kk
            obtain ⟨r1, e1, e⟩ := sh_bc_e e
            refine sh_Lk_cV (r := (some (.int r1))) (st2 := [.int r1]) (pc2 := 49) (k2 := 215) (a := 58) (as := [.ref 59, .int x1]) (rest := []) rfl rfl rfl (fun hT => hT.t58) rfl rfl ⟨Nat.le_of_ble_eq_true rfl, Nat.le_of_ble_eq_true rfl⟩ (sl_215 e1 ⟨rfl, rfl⟩) rfl rfl (Nat.le_of_ble_eq_true rfl) (Nat.le_of_ble_eq_true rfl) ?_
            refine sh_Lk_lift (T := m.T) (I := m.I) (J := m.J) (s := m.s) (pc2 := 53) (lv2 := [(0, .ref 1), (1, .int x1)]) (st2 := [.int r1]) (I2 := m.I) (J2 := m.J) (fun hT v kk => ?_) ?_
            · refine sh_w (i := (.goto 4)) (len := 3) (pc2 := 53) (lv2 := [(0, .ref 1), (1, .int x1)]) (st2 := [.int r1]) (h2 := (sh_rep m.T m.I m.J)) rfl rfl rfl ?_
              exact kk
            obtain rfl := Option.some.inj e
            obtain ⟨rfl, rfl⟩ := tg
            exact sh_Lk_ret (i := .ireturn) rfl rfl rfl (Nat.le_of_ble_eq_true rfl) (Nat.le_of_ble_eq_true rfl)
          · refine sh_Lk_lift (T := m.T) (I := m.I) (J := m.J) (s := m.s) (pc2 := 53) (lv2 := [(0, .ref 1), (1, .int x1)]) (st2 := [.int (-1)]) (I2 := m.I) (J2 := m.J) (fun hT v kk => ?_) ?_
            · refine sh_jc (c := .ne) (off := (14)) (pc2 := 52) true rfl (sh_Bnet c) rfl ?_
              refine sh_w (i := (.iconst (-1))) (len := 1) (pc2 := 53) (lv2 := [(0, .ref 1), (1, .int x1)]) (st2 := [.int (-1)]) (h2 := (sh_rep m.T m.I m.J)) rfl rfl rfl ?_
              exact kk
            obtain rfl := Option.some.inj e
            obtain ⟨rfl, rfl⟩ := tg
            exact sh_Lk_ret (i := .ireturn) rfl rfl rfl (Nat.le_of_ble_eq_true rfl) (Nat.le_of_ble_eq_true rfl)
theorem sl_218 {x1 : Int32} {x2 : Int64} {m m2 : sh_X} {o : Outcome} {z : (Unit × sh_X)} (e : sf_218 x1 x2 m = some z) (tg : (sh_tV o m2) z) : sh_Lk 218 0 [(0, .ref 62), (1, .int x1), (2, .long x2)] [] m o m2 8 200 := by
  unfold sf_218 at e
  refine sh_Lk_lift (T := m.T) (I := m.I) (J := m.J) (s := m.s) (pc2 := 1) (lv2 := [(0, .ref 62), (1, .int x1), (2, .long x2)]) (st2 := [.int x1]) (I2 := m.I) (J2 := m.J) (fun hT v kk => ?_) ?_
  · refine sh_w (i := (.iload_n 1)) (len := 1) (pc2 := 1) (lv2 := [(0, .ref 62), (1, .int x1), (2, .long x2)]) (st2 := [.int x1]) (h2 := (sh_rep m.T m.I m.J)) rfl rfl rfl ?_
    exact kk
  rcases sh_ite e with ⟨c, e⟩ | ⟨c, e⟩
  · refine sh_Lk_lift (T := m.T) (I := m.I) (J := m.J) (s := m.s) (pc2 := 20) (lv2 := [(0, .ref 62), (1, .int x1), (2, .long x2)]) (st2 := []) (I2 := m.I) (J2 := m.J) (fun hT v kk => ?_) ?_
    · refine sh_j0 (c := .lt) (off := (19)) (pc2 := 20) true rfl (sh_Bltt c) rfl ?_
      exact kk
    obtain rfl := Option.some.inj e
    obtain ⟨rfl, rfl⟩ := tg
    exact sh_Lk_ret (i := .return_) rfl rfl rfl (Nat.le_of_ble_eq_true rfl) (Nat.le_of_ble_eq_true rfl)
  · refine sh_Lk_lift (T := m.T) (I := m.I) (J := m.J) (s := m.s) (pc2 := 10) (lv2 := [(0, .ref 62), (1, .int x1), (2, .long x2)]) (st2 := [.int 2, .int x1]) (I2 := m.I) (J2 := m.J) (fun hT v kk => ?_) ?_
    · refine sh_j0 (c := .lt) (off := (19)) (pc2 := 4) false rfl (sh_Bltf c) rfl ?_
      refine sh_w (i := (.iload_n 1)) (len := 1) (pc2 := 5) (lv2 := [(0, .ref 62), (1, .int x1), (2, .long x2)]) (st2 := [.int x1]) (h2 := (sh_rep m.T m.I m.J)) rfl rfl rfl ?_
      refine sh_w (i := (.aload_n 0)) (len := 1) (pc2 := 6) (lv2 := [(0, .ref 62), (1, .int x1), (2, .long x2)]) (st2 := [.ref 62, .int x1]) (h2 := (sh_rep m.T m.I m.J)) rfl rfl rfl ?_
      refine sh_gR1 (len := 3) (x := .ref 63) (pc2 := 9) rfl rfl hT.t61 rfl rfl ?_
      refine sh_al1 (pc2 := 10) rfl (sh_s62 hT.st) (by decide) rfl ?_
      exact kk
    rcases sh_ite e with ⟨c, e⟩ | ⟨c, e⟩
    · refine sh_Lk_lift (T := m.T) (I := m.I) (J := m.J) (s := m.s) (pc2 := 19) (lv2 := [(0, .ref 62), (1, .int x1), (2, .long x2)]) (st2 := [.long x2, .int x1, .ref 63]) (I2 := m.I) (J2 := m.J) (fun hT v kk => ?_) ?_
      · refine sh_jc (c := .ge) (off := (10)) (pc2 := 13) false rfl (sh_Bgef c) rfl ?_
        refine sh_w (i := (.aload_n 0)) (len := 1) (pc2 := 14) (lv2 := [(0, .ref 62), (1, .int x1), (2, .long x2)]) (st2 := [.ref 62]) (h2 := (sh_rep m.T m.I m.J)) rfl rfl rfl ?_
        refine sh_gR1 (len := 3) (x := .ref 63) (pc2 := 17) rfl rfl hT.t61 rfl rfl ?_
        refine sh_w (i := (.iload_n 1)) (len := 1) (pc2 := 18) (lv2 := [(0, .ref 62), (1, .int x1), (2, .long x2)]) (st2 := [.int x1, .ref 63]) (h2 := (sh_rep m.T m.I m.J)) rfl rfl rfl ?_
        refine sh_w (i := (.lload_n 2)) (len := 1) (pc2 := 19) (lv2 := [(0, .ref 62), (1, .int x1), (2, .long x2)]) (st2 := [.long x2, .int x1, .ref 63]) (h2 := (sh_rep m.T m.I m.J)) rfl rfl rfl ?_
        exact kk
      obtain ⟨c, e⟩ := sh_gd e
      refine sh_Lk_lift (T := m.T) (I := m.I) (J := m.J) (s := m.s) (pc2 := 20) (lv2 := [(0, .ref 62), (1, .int x1), (2, .long x2)]) (st2 := []) (I2 := m.I) (J2 := sh_u2 m.J 62 (Int32.toNatClampNeg x1) x2) (fun hT v kk => ?_) ?_
      · refine sh_ls1 (x := x2) (i := x1) (pc2 := 20) rfl (sh_s62 hT.st) (sh_okb1 c) (sh_okb2 c) rfl ?_
        exact kk
      obtain rfl := Option.some.inj e
      obtain ⟨rfl, rfl⟩ := tg
      exact sh_Lk_ret (i := .return_) rfl rfl rfl (Nat.le_of_ble_eq_true rfl) (Nat.le_of_ble_eq_true rfl)
    · refine sh_Lk_lift (T := m.T) (I := m.I) (J := m.J) (s := m.s) (pc2 := 20) (lv2 := [(0, .ref 62), (1, .int x1), (2, .long x2)]) (st2 := []) (I2 := m.I) (J2 := m.J) (fun hT v kk => ?_) ?_
      · refine sh_jc (c := .ge) (off := (10)) (pc2 := 20) true rfl (sh_Bget c) rfl ?_
        exact kk
      obtain rfl := Option.some.inj e
      obtain ⟨rfl, rfl⟩ := tg
      exact sh_Lk_ret (i := .return_) rfl rfl rfl (Nat.le_of_ble_eq_true rfl) (Nat.le_of_ble_eq_true rfl)
theorem sl_217_9 {x1 : Int32} {x2 : Int32} {x3 : Int32} {m m2 : sh_X} {o : Outcome} {z : (Unit × sh_X)} (e : sf_217_9 x1 x2 x3 m = some z) (tg : (sh_tV o m2) z) : sh_Lk 217 9 [(0, .ref 1), (1, .int x1), (2, .int x2), (3, .int x3)] [] m o m2 9 223 := by
  unfold sf_217_9 at e
  refine sh_Lk_lift (T := m.T) (I := m.I) (J := m.J) (s := m.s) (pc2 := 26) (lv2 := [(0, .ref 1), (1, .int x1), (2, .int x2), (3, .int x3)]) (st2 := [.long (((Int32.toInt64 x2) <<< (Int32.toInt64 32 &&& 63)) ||| ((Int32.toInt64 x3) &&& (4294967295 : Int64))), .int x1, .ref 62]) (I2 := m.I) (J2 := m.J) (fun hT v kk => ?_) ?_
  · refine sh_w (i := (.aload_n 0)) (len := 1) (pc2 := 10) (lv2 := [(0, .ref 1), (1, .int x1), (2, .int x2), (3, .int x3)]) (st2 := [.ref 1]) (h2 := (sh_rep m.T m.I m.J)) rfl rfl rfl ?_
    refine sh_gR1 (len := 3) (x := .ref 62) (pc2 := 13) rfl rfl (sh_s0 hT.st) rfl rfl ?_
    refine sh_w (i := (.iload_n 1)) (len := 1) (pc2 := 14) (lv2 := [(0, .ref 1), (1, .int x1), (2, .int x2), (3, .int x3)]) (st2 := [.int x1, .ref 62]) (h2 := (sh_rep m.T m.I m.J)) rfl rfl rfl ?_
    refine sh_w (i := (.iload_n 2)) (len := 1) (pc2 := 15) (lv2 := [(0, .ref 1), (1, .int x1), (2, .int x2), (3, .int x3)]) (st2 := [.int x2, .int x1, .ref 62]) (h2 := (sh_rep m.T m.I m.J)) rfl rfl rfl ?_
    refine sh_w (i := .i2l) (len := 1) (pc2 := 16) (lv2 := [(0, .ref 1), (1, .int x1), (2, .int x2), (3, .int x3)]) (st2 := [.long (Int32.toInt64 x2), .int x1, .ref 62]) (h2 := (sh_rep m.T m.I m.J)) rfl rfl rfl ?_
    refine sh_w (i := (.bipush 32)) (len := 2) (pc2 := 18) (lv2 := [(0, .ref 1), (1, .int x1), (2, .int x2), (3, .int x3)]) (st2 := [.int 32, .long (Int32.toInt64 x2), .int x1, .ref 62]) (h2 := (sh_rep m.T m.I m.J)) rfl rfl rfl ?_
    refine sh_w (i := .lshl) (len := 1) (pc2 := 19) (lv2 := [(0, .ref 1), (1, .int x1), (2, .int x2), (3, .int x3)]) (st2 := [.long ((Int32.toInt64 x2) <<< (Int32.toInt64 32 &&& 63)), .int x1, .ref 62]) (h2 := (sh_rep m.T m.I m.J)) rfl rfl rfl ?_
    refine sh_w (i := (.iload_n 3)) (len := 1) (pc2 := 20) (lv2 := [(0, .ref 1), (1, .int x1), (2, .int x2), (3, .int x3)]) (st2 := [.int x3, .long ((Int32.toInt64 x2) <<< (Int32.toInt64 32 &&& 63)), .int x1, .ref 62]) (h2 := (sh_rep m.T m.I m.J)) rfl rfl rfl ?_
    refine sh_w (i := .i2l) (len := 1) (pc2 := 21) (lv2 := [(0, .ref 1), (1, .int x1), (2, .int x2), (3, .int x3)]) (st2 := [.long (Int32.toInt64 x3), .long ((Int32.toInt64 x2) <<< (Int32.toInt64 32 &&& 63)), .int x1, .ref 62]) (h2 := (sh_rep m.T m.I m.J)) rfl rfl rfl ?_
    refine sh_w (i := (.ldc2_w 146)) (len := 3) (pc2 := 24) (lv2 := [(0, .ref 1), (1, .int x1), (2, .int x2), (3, .int x3)]) (st2 := [.long 4294967295, .long (Int32.toInt64 x3), .long ((Int32.toInt64 x2) <<< (Int32.toInt64 32 &&& 63)), .int x1, .ref 62]) (h2 := (sh_rep m.T m.I m.J)) rfl rfl rfl ?_
    refine sh_w (i := .land) (len := 1) (pc2 := 25) (lv2 := [(0, .ref 1), (1, .int x1), (2, .int x2), (3, .int x3)]) (st2 := [.long ((Int32.toInt64 x3) &&& (4294967295 : Int64)), .long ((Int32.toInt64 x2) <<< (Int32.toInt64 32 &&& 63)), .int x1, .ref 62]) (h2 := (sh_rep m.T m.I m.J)) rfl rfl rfl ?_
    refine sh_w (i := .lor) (len := 1) (pc2 := 26) (lv2 := [(0, .ref 1), (1, .int x1), (2, .int x2), (3, .int x3)]) (st2 := [.long (((Int32.toInt64 x2) <<< (Int32.toInt64 32 &&& 63)) ||| ((Int32.toInt64 x3) &&& (4294967295 : Int64))), .int x1, .ref 62]) (h2 := (sh_rep m.T m.I m.J)) rfl rfl rfl ?_
    exact kk
  obtain ⟨r1, m11, e1, e⟩ := sh_bn_e e
  refine sh_Lk_cV (r := none) (st2 := []) (pc2 := 29) (k2 := 218) (a := 61) (as := [.ref 62, .int x1, .long (((Int32.toInt64 x2) <<< (Int32.toInt64 32 &&& 63)) ||| ((Int32.toInt64 x3) &&& (4294967295 : Int64)))]) (rest := []) rfl rfl rfl (fun hT => hT.t61) rfl rfl ⟨Nat.le_of_ble_eq_true rfl, Nat.le_of_ble_eq_true rfl⟩ (sl_218 e1 ⟨rfl, rfl⟩) rfl rfl (Nat.le_of_ble_eq_true rfl) (Nat.le_of_ble_eq_true rfl) ?_
  obtain rfl := Option.some.inj e
  obtain ⟨rfl, rfl⟩ := tg
  exact sh_Lk_ret (i := .return_) rfl rfl rfl (Nat.le_of_ble_eq_true rfl) (Nat.le_of_ble_eq_true rfl)
theorem sl_217 {x1 : Int32} {x2 : Int32} {x3 : Int32} {m m2 : sh_X} {o : Outcome} {z : (Unit × sh_X)} (e : sf_217 x1 x2 x3 m = some z) (tg : (sh_tV o m2) z) : sh_Lk 217 0 [(0, .ref 1), (1, .int x1), (2, .int x2), (3, .int x3)] [] m o m2 9 223 := by
  unfold sf_217 at e
  refine sh_Lk_lift (T := m.T) (I := m.I) (J := m.J) (s := m.s) (pc2 := 1) (lv2 := [(0, .ref 1), (1, .int x1), (2, .int x2), (3, .int x3)]) (st2 := [.int x1]) (I2 := m.I) (J2 := m.J) (fun hT v kk => ?_) ?_
  · refine sh_w (i := (.iload_n 1)) (len := 1) (pc2 := 1) (lv2 := [(0, .ref 1), (1, .int x1), (2, .int x2), (3, .int x3)]) (st2 := [.int x1]) (h2 := (sh_rep m.T m.I m.J)) rfl rfl rfl ?_
    exact kk
  rcases sh_ite e with ⟨c, e⟩ | ⟨c, e⟩
  · refine sh_Lk_lift (T := m.T) (I := m.I) (J := m.J) (s := m.s) (pc2 := 9) (lv2 := [(0, .ref 1), (1, .int x1), (2, .int x2), (3, .int x3)]) (st2 := []) (I2 := m.I) (J2 := m.J) (fun hT v kk => ?_) ?_
    · refine sh_j0 (c := .eq) (off := (8)) (pc2 := 9) true rfl (sh_Beqt c) rfl ?_
      exact kk
    exact sh_Lk_sub (sh_sub_c rfl (sh_sub_c rfl (sh_sub_c rfl (sh_sub_c rfl (sh_sub_n))))) (sl_217_9 e tg)
  · refine sh_Lk_lift (T := m.T) (I := m.I) (J := m.J) (s := m.s) (pc2 := 6) (lv2 := [(0, .ref 1), (1, .int x1), (2, .int x2), (3, .int x3)]) (st2 := [.int 1, .int x1]) (I2 := m.I) (J2 := m.J) (fun hT v kk => ?_) ?_
    · refine sh_j0 (c := .eq) (off := (8)) (pc2 := 4) false rfl (sh_Beqf c) rfl ?_
      refine sh_w (i := (.iload_n 1)) (len := 1) (pc2 := 5) (lv2 := [(0, .ref 1), (1, .int x1), (2, .int x2), (3, .int x3)]) (st2 := [.int x1]) (h2 := (sh_rep m.T m.I m.J)) rfl rfl rfl ?_
      refine sh_w (i := (.iconst 1)) (len := 1) (pc2 := 6) (lv2 := [(0, .ref 1), (1, .int x1), (2, .int x2), (3, .int x3)]) (st2 := [.int 1, .int x1]) (h2 := (sh_rep m.T m.I m.J)) rfl rfl rfl ?_
      exact kk
    rcases sh_ite e with ⟨c, e⟩ | ⟨c, e⟩
    · refine sh_Lk_lift (T := m.T) (I := m.I) (J := m.J) (s := m.s) (pc2 := 9) (lv2 := [(0, .ref 1), (1, .int x1), (2, .int x2), (3, .int x3)]) (st2 := []) (I2 := m.I) (J2 := m.J) (fun hT v kk => ?_) ?_
      · refine sh_jc (c := .ne) (off := (23)) (pc2 := 9) false rfl (sh_Bnef c) rfl ?_
        exact kk
      exact sh_Lk_sub (sh_sub_c rfl (sh_sub_c rfl (sh_sub_c rfl (sh_sub_c rfl (sh_sub_n))))) (sl_217_9 e tg)
    · refine sh_Lk_lift (T := m.T) (I := m.I) (J := m.J) (s := m.s) (pc2 := 29) (lv2 := [(0, .ref 1), (1, .int x1), (2, .int x2), (3, .int x3)]) (st2 := []) (I2 := m.I) (J2 := m.J) (fun hT v kk => ?_) ?_
      · refine sh_jc (c := .ne) (off := (23)) (pc2 := 29) true rfl (sh_Bnet c) rfl ?_
        exact kk
      obtain rfl := Option.some.inj e
      obtain ⟨rfl, rfl⟩ := tg
      exact sh_Lk_ret (i := .return_) rfl rfl rfl (Nat.le_of_ble_eq_true rfl) (Nat.le_of_ble_eq_true rfl)
theorem sl_223 {x0 : Int64} {m m2 : sh_X} {o : Outcome} {z : Int64} (e : sf_223 x0 = z) (tg : (sh_tJc m o m2) z) : sh_Lk 223 0 [(0, .long x0)] [] m o m2 8 200 := by
  unfold sf_223 at e
  refine sh_Lk_lift (T := m.T) (I := m.I) (J := m.J) (s := m.s) (pc2 := 28) (lv2 := [(2, .long ((((x0 ^^^ ((x0.toUInt64 >>> ((Int32.toInt64 30).toUInt64 &&& Int64.toUInt64 63)).toInt64)) * (-4658895280553007687 : Int64)) ^^^ ((((x0 ^^^ ((x0.toUInt64 >>> ((Int32.toInt64 30).toUInt64 &&& Int64.toUInt64 63)).toInt64)) * (-4658895280553007687 : Int64)).toUInt64 >>> ((Int32.toInt64 27).toUInt64 &&& Int64.toUInt64 63)).toInt64)) * (-7723592293110705685 : Int64))), (0, .long x0)]) (st2 := [.long (((((x0 ^^^ ((x0.toUInt64 >>> ((Int32.toInt64 30).toUInt64 &&& Int64.toUInt64 63)).toInt64)) * (-4658895280553007687 : Int64)) ^^^ ((((x0 ^^^ ((x0.toUInt64 >>> ((Int32.toInt64 30).toUInt64 &&& Int64.toUInt64 63)).toInt64)) * (-4658895280553007687 : Int64)).toUInt64 >>> ((Int32.toInt64 27).toUInt64 &&& Int64.toUInt64 63)).toInt64)) * (-7723592293110705685 : Int64)) ^^^ ((((((x0 ^^^ ((x0.toUInt64 >>> ((Int32.toInt64 30).toUInt64 &&& Int64.toUInt64 63)).toInt64)) * (-4658895280553007687 : Int64)) ^^^ ((((x0 ^^^ ((x0.toUInt64 >>> ((Int32.toInt64 30).toUInt64 &&& Int64.toUInt64 63)).toInt64)) * (-4658895280553007687 : Int64)).toUInt64 >>> ((Int32.toInt64 27).toUInt64 &&& Int64.toUInt64 63)).toInt64)) * (-7723592293110705685 : Int64)).toUInt64 >>> ((Int32.toInt64 31).toUInt64 &&& Int64.toUInt64 63)).toInt64))]) (I2 := m.I) (J2 := m.J) (fun hT v kk => ?_) ?_
  · refine sh_w (i := (.lload_n 0)) (len := 1) (pc2 := 1) (lv2 := [(0, .long x0)]) (st2 := [.long x0]) (h2 := (sh_rep m.T m.I m.J)) rfl rfl rfl ?_
    refine sh_w (i := (.lload_n 0)) (len := 1) (pc2 := 2) (lv2 := [(0, .long x0)]) (st2 := [.long x0, .long x0]) (h2 := (sh_rep m.T m.I m.J)) rfl rfl rfl ?_
    refine sh_w (i := (.bipush 30)) (len := 2) (pc2 := 4) (lv2 := [(0, .long x0)]) (st2 := [.int 30, .long x0, .long x0]) (h2 := (sh_rep m.T m.I m.J)) rfl rfl rfl ?_
    refine sh_w (i := .lushr) (len := 1) (pc2 := 5) (lv2 := [(0, .long x0)]) (st2 := [.long ((x0.toUInt64 >>> ((Int32.toInt64 30).toUInt64 &&& Int64.toUInt64 63)).toInt64), .long x0]) (h2 := (sh_rep m.T m.I m.J)) rfl rfl rfl ?_
    refine sh_w (i := .lxor) (len := 1) (pc2 := 6) (lv2 := [(0, .long x0)]) (st2 := [.long (x0 ^^^ ((x0.toUInt64 >>> ((Int32.toInt64 30).toUInt64 &&& Int64.toUInt64 63)).toInt64))]) (h2 := (sh_rep m.T m.I m.J)) rfl rfl rfl ?_
    refine sh_w (i := (.ldc2_w 86)) (len := 3) (pc2 := 9) (lv2 := [(0, .long x0)]) (st2 := [.long (-4658895280553007687), .long (x0 ^^^ ((x0.toUInt64 >>> ((Int32.toInt64 30).toUInt64 &&& Int64.toUInt64 63)).toInt64))]) (h2 := (sh_rep m.T m.I m.J)) rfl rfl rfl ?_
    refine sh_w (i := .lmul) (len := 1) (pc2 := 10) (lv2 := [(0, .long x0)]) (st2 := [.long ((x0 ^^^ ((x0.toUInt64 >>> ((Int32.toInt64 30).toUInt64 &&& Int64.toUInt64 63)).toInt64)) * (-4658895280553007687 : Int64))]) (h2 := (sh_rep m.T m.I m.J)) rfl rfl rfl ?_
    refine sh_w (i := (.lstore_n 2)) (len := 1) (pc2 := 11) (lv2 := [(2, .long ((x0 ^^^ ((x0.toUInt64 >>> ((Int32.toInt64 30).toUInt64 &&& Int64.toUInt64 63)).toInt64)) * (-4658895280553007687 : Int64))), (0, .long x0)]) (st2 := []) (h2 := (sh_rep m.T m.I m.J)) rfl rfl rfl ?_
    refine sh_w (i := (.lload_n 2)) (len := 1) (pc2 := 12) (lv2 := [(2, .long ((x0 ^^^ ((x0.toUInt64 >>> ((Int32.toInt64 30).toUInt64 &&& Int64.toUInt64 63)).toInt64)) * (-4658895280553007687 : Int64))), (0, .long x0)]) (st2 := [.long ((x0 ^^^ ((x0.toUInt64 >>> ((Int32.toInt64 30).toUInt64 &&& Int64.toUInt64 63)).toInt64)) * (-4658895280553007687 : Int64))]) (h2 := (sh_rep m.T m.I m.J)) rfl rfl rfl ?_
    refine sh_w (i := (.lload_n 2)) (len := 1) (pc2 := 13) (lv2 := [(2, .long ((x0 ^^^ ((x0.toUInt64 >>> ((Int32.toInt64 30).toUInt64 &&& Int64.toUInt64 63)).toInt64)) * (-4658895280553007687 : Int64))), (0, .long x0)]) (st2 := [.long ((x0 ^^^ ((x0.toUInt64 >>> ((Int32.toInt64 30).toUInt64 &&& Int64.toUInt64 63)).toInt64)) * (-4658895280553007687 : Int64)), .long ((x0 ^^^ ((x0.toUInt64 >>> ((Int32.toInt64 30).toUInt64 &&& Int64.toUInt64 63)).toInt64)) * (-4658895280553007687 : Int64))]) (h2 := (sh_rep m.T m.I m.J)) rfl rfl rfl ?_
    refine sh_w (i := (.bipush 27)) (len := 2) (pc2 := 15) (lv2 := [(2, .long ((x0 ^^^ ((x0.toUInt64 >>> ((Int32.toInt64 30).toUInt64 &&& Int64.toUInt64 63)).toInt64)) * (-4658895280553007687 : Int64))), (0, .long x0)]) (st2 := [.int 27, .long ((x0 ^^^ ((x0.toUInt64 >>> ((Int32.toInt64 30).toUInt64 &&& Int64.toUInt64 63)).toInt64)) * (-4658895280553007687 : Int64)), .long ((x0 ^^^ ((x0.toUInt64 >>> ((Int32.toInt64 30).toUInt64 &&& Int64.toUInt64 63)).toInt64)) * (-4658895280553007687 : Int64))]) (h2 := (sh_rep m.T m.I m.J)) rfl rfl rfl ?_
    refine sh_w (i := .lushr) (len := 1) (pc2 := 16) (lv2 := [(2, .long ((x0 ^^^ ((x0.toUInt64 >>> ((Int32.toInt64 30).toUInt64 &&& Int64.toUInt64 63)).toInt64)) * (-4658895280553007687 : Int64))), (0, .long x0)]) (st2 := [.long ((((x0 ^^^ ((x0.toUInt64 >>> ((Int32.toInt64 30).toUInt64 &&& Int64.toUInt64 63)).toInt64)) * (-4658895280553007687 : Int64)).toUInt64 >>> ((Int32.toInt64 27).toUInt64 &&& Int64.toUInt64 63)).toInt64), .long ((x0 ^^^ ((x0.toUInt64 >>> ((Int32.toInt64 30).toUInt64 &&& Int64.toUInt64 63)).toInt64)) * (-4658895280553007687 : Int64))]) (h2 := (sh_rep m.T m.I m.J)) rfl rfl rfl ?_
    refine sh_w (i := .lxor) (len := 1) (pc2 := 17) (lv2 := [(2, .long ((x0 ^^^ ((x0.toUInt64 >>> ((Int32.toInt64 30).toUInt64 &&& Int64.toUInt64 63)).toInt64)) * (-4658895280553007687 : Int64))), (0, .long x0)]) (st2 := [.long (((x0 ^^^ ((x0.toUInt64 >>> ((Int32.toInt64 30).toUInt64 &&& Int64.toUInt64 63)).toInt64)) * (-4658895280553007687 : Int64)) ^^^ ((((x0 ^^^ ((x0.toUInt64 >>> ((Int32.toInt64 30).toUInt64 &&& Int64.toUInt64 63)).toInt64)) * (-4658895280553007687 : Int64)).toUInt64 >>> ((Int32.toInt64 27).toUInt64 &&& Int64.toUInt64 63)).toInt64))]) (h2 := (sh_rep m.T m.I m.J)) rfl rfl rfl ?_
    refine sh_w (i := (.ldc2_w 88)) (len := 3) (pc2 := 20) (lv2 := [(2, .long ((x0 ^^^ ((x0.toUInt64 >>> ((Int32.toInt64 30).toUInt64 &&& Int64.toUInt64 63)).toInt64)) * (-4658895280553007687 : Int64))), (0, .long x0)]) (st2 := [.long (-7723592293110705685), .long (((x0 ^^^ ((x0.toUInt64 >>> ((Int32.toInt64 30).toUInt64 &&& Int64.toUInt64 63)).toInt64)) * (-4658895280553007687 : Int64)) ^^^ ((((x0 ^^^ ((x0.toUInt64 >>> ((Int32.toInt64 30).toUInt64 &&& Int64.toUInt64 63)).toInt64)) * (-4658895280553007687 : Int64)).toUInt64 >>> ((Int32.toInt64 27).toUInt64 &&& Int64.toUInt64 63)).toInt64))]) (h2 := (sh_rep m.T m.I m.J)) rfl rfl rfl ?_
    refine sh_w (i := .lmul) (len := 1) (pc2 := 21) (lv2 := [(2, .long ((x0 ^^^ ((x0.toUInt64 >>> ((Int32.toInt64 30).toUInt64 &&& Int64.toUInt64 63)).toInt64)) * (-4658895280553007687 : Int64))), (0, .long x0)]) (st2 := [.long ((((x0 ^^^ ((x0.toUInt64 >>> ((Int32.toInt64 30).toUInt64 &&& Int64.toUInt64 63)).toInt64)) * (-4658895280553007687 : Int64)) ^^^ ((((x0 ^^^ ((x0.toUInt64 >>> ((Int32.toInt64 30).toUInt64 &&& Int64.toUInt64 63)).toInt64)) * (-4658895280553007687 : Int64)).toUInt64 >>> ((Int32.toInt64 27).toUInt64 &&& Int64.toUInt64 63)).toInt64)) * (-7723592293110705685 : Int64))]) (h2 := (sh_rep m.T m.I m.J)) rfl rfl rfl ?_
    refine sh_w (i := (.lstore_n 2)) (len := 1) (pc2 := 22) (lv2 := [(2, .long ((((x0 ^^^ ((x0.toUInt64 >>> ((Int32.toInt64 30).toUInt64 &&& Int64.toUInt64 63)).toInt64)) * (-4658895280553007687 : Int64)) ^^^ ((((x0 ^^^ ((x0.toUInt64 >>> ((Int32.toInt64 30).toUInt64 &&& Int64.toUInt64 63)).toInt64)) * (-4658895280553007687 : Int64)).toUInt64 >>> ((Int32.toInt64 27).toUInt64 &&& Int64.toUInt64 63)).toInt64)) * (-7723592293110705685 : Int64))), (0, .long x0)]) (st2 := []) (h2 := (sh_rep m.T m.I m.J)) rfl rfl rfl ?_
    refine sh_w (i := (.lload_n 2)) (len := 1) (pc2 := 23) (lv2 := [(2, .long ((((x0 ^^^ ((x0.toUInt64 >>> ((Int32.toInt64 30).toUInt64 &&& Int64.toUInt64 63)).toInt64)) * (-4658895280553007687 : Int64)) ^^^ ((((x0 ^^^ ((x0.toUInt64 >>> ((Int32.toInt64 30).toUInt64 &&& Int64.toUInt64 63)).toInt64)) * (-4658895280553007687 : Int64)).toUInt64 >>> ((Int32.toInt64 27).toUInt64 &&& Int64.toUInt64 63)).toInt64)) * (-7723592293110705685 : Int64))), (0, .long x0)]) (st2 := [.long ((((x0 ^^^ ((x0.toUInt64 >>> ((Int32.toInt64 30).toUInt64 &&& Int64.toUInt64 63)).toInt64)) * (-4658895280553007687 : Int64)) ^^^ ((((x0 ^^^ ((x0.toUInt64 >>> ((Int32.toInt64 30).toUInt64 &&& Int64.toUInt64 63)).toInt64)) * (-4658895280553007687 : Int64)).toUInt64 >>> ((Int32.toInt64 27).toUInt64 &&& Int64.toUInt64 63)).toInt64)) * (-7723592293110705685 : Int64))]) (h2 := (sh_rep m.T m.I m.J)) rfl rfl rfl ?_
    refine sh_w (i := (.lload_n 2)) (len := 1) (pc2 := 24) (lv2 := [(2, .long ((((x0 ^^^ ((x0.toUInt64 >>> ((Int32.toInt64 30).toUInt64 &&& Int64.toUInt64 63)).toInt64)) * (-4658895280553007687 : Int64)) ^^^ ((((x0 ^^^ ((x0.toUInt64 >>> ((Int32.toInt64 30).toUInt64 &&& Int64.toUInt64 63)).toInt64)) * (-4658895280553007687 : Int64)).toUInt64 >>> ((Int32.toInt64 27).toUInt64 &&& Int64.toUInt64 63)).toInt64)) * (-7723592293110705685 : Int64))), (0, .long x0)]) (st2 := [.long ((((x0 ^^^ ((x0.toUInt64 >>> ((Int32.toInt64 30).toUInt64 &&& Int64.toUInt64 63)).toInt64)) * (-4658895280553007687 : Int64)) ^^^ ((((x0 ^^^ ((x0.toUInt64 >>> ((Int32.toInt64 30).toUInt64 &&& Int64.toUInt64 63)).toInt64)) * (-4658895280553007687 : Int64)).toUInt64 >>> ((Int32.toInt64 27).toUInt64 &&& Int64.toUInt64 63)).toInt64)) * (-7723592293110705685 : Int64)), .long ((((x0 ^^^ ((x0.toUInt64 >>> ((Int32.toInt64 30).toUInt64 &&& Int64.toUInt64 63)).toInt64)) * (-4658895280553007687 : Int64)) ^^^ ((((x0 ^^^ ((x0.toUInt64 >>> ((Int32.toInt64 30).toUInt64 &&& Int64.toUInt64 63)).toInt64)) * (-4658895280553007687 : Int64)).toUInt64 >>> ((Int32.toInt64 27).toUInt64 &&& Int64.toUInt64 63)).toInt64)) * (-7723592293110705685 : Int64))]) (h2 := (sh_rep m.T m.I m.J)) rfl rfl rfl ?_
    refine sh_w (i := (.bipush 31)) (len := 2) (pc2 := 26) (lv2 := [(2, .long ((((x0 ^^^ ((x0.toUInt64 >>> ((Int32.toInt64 30).toUInt64 &&& Int64.toUInt64 63)).toInt64)) * (-4658895280553007687 : Int64)) ^^^ ((((x0 ^^^ ((x0.toUInt64 >>> ((Int32.toInt64 30).toUInt64 &&& Int64.toUInt64 63)).toInt64)) * (-4658895280553007687 : Int64)).toUInt64 >>> ((Int32.toInt64 27).toUInt64 &&& Int64.toUInt64 63)).toInt64)) * (-7723592293110705685 : Int64))), (0, .long x0)]) (st2 := [.int 31, .long ((((x0 ^^^ ((x0.toUInt64 >>> ((Int32.toInt64 30).toUInt64 &&& Int64.toUInt64 63)).toInt64)) * (-4658895280553007687 : Int64)) ^^^ ((((x0 ^^^ ((x0.toUInt64 >>> ((Int32.toInt64 30).toUInt64 &&& Int64.toUInt64 63)).toInt64)) * (-4658895280553007687 : Int64)).toUInt64 >>> ((Int32.toInt64 27).toUInt64 &&& Int64.toUInt64 63)).toInt64)) * (-7723592293110705685 : Int64)), .long ((((x0 ^^^ ((x0.toUInt64 >>> ((Int32.toInt64 30).toUInt64 &&& Int64.toUInt64 63)).toInt64)) * (-4658895280553007687 : Int64)) ^^^ ((((x0 ^^^ ((x0.toUInt64 >>> ((Int32.toInt64 30).toUInt64 &&& Int64.toUInt64 63)).toInt64)) * (-4658895280553007687 : Int64)).toUInt64 >>> ((Int32.toInt64 27).toUInt64 &&& Int64.toUInt64 63)).toInt64)) * (-7723592293110705685 : Int64))]) (h2 := (sh_rep m.T m.I m.J)) rfl rfl rfl ?_
    refine sh_w (i := .lushr) (len := 1) (pc2 := 27) (lv2 := [(2, .long ((((x0 ^^^ ((x0.toUInt64 >>> ((Int32.toInt64 30).toUInt64 &&& Int64.toUInt64 63)).toInt64)) * (-4658895280553007687 : Int64)) ^^^ ((((x0 ^^^ ((x0.toUInt64 >>> ((Int32.toInt64 30).toUInt64 &&& Int64.toUInt64 63)).toInt64)) * (-4658895280553007687 : Int64)).toUInt64 >>> ((Int32.toInt64 27).toUInt64 &&& Int64.toUInt64 63)).toInt64)) * (-7723592293110705685 : Int64))), (0, .long x0)]) (st2 := [.long ((((((x0 ^^^ ((x0.toUInt64 >>> ((Int32.toInt64 30).toUInt64 &&& Int64.toUInt64 63)).toInt64)) * (-4658895280553007687 : Int64)) ^^^ ((((x0 ^^^ ((x0.toUInt64 >>> ((Int32.toInt64 30).toUInt64 &&& Int64.toUInt64 63)).toInt64)) * (-4658895280553007687 : Int64)).toUInt64 >>> ((Int32.toInt64 27).toUInt64 &&& Int64.toUInt64 63)).toInt64)) * (-7723592293110705685 : Int64)).toUInt64 >>> ((Int32.toInt64 31).toUInt64 &&& Int64.toUInt64 63)).toInt64), .long ((((x0 ^^^ ((x0.toUInt64 >>> ((Int32.toInt64 30).toUInt64 &&& Int64.toUInt64 63)).toInt64)) * (-4658895280553007687 : Int64)) ^^^ ((((x0 ^^^ ((x0.toUInt64 >>> ((Int32.toInt64 30).toUInt64 &&& Int64.toUInt64 63)).toInt64)) * (-4658895280553007687 : Int64)).toUInt64 >>> ((Int32.toInt64 27).toUInt64 &&& Int64.toUInt64 63)).toInt64)) * (-7723592293110705685 : Int64))]) (h2 := (sh_rep m.T m.I m.J)) rfl rfl rfl ?_
    refine sh_w (i := .lxor) (len := 1) (pc2 := 28) (lv2 := [(2, .long ((((x0 ^^^ ((x0.toUInt64 >>> ((Int32.toInt64 30).toUInt64 &&& Int64.toUInt64 63)).toInt64)) * (-4658895280553007687 : Int64)) ^^^ ((((x0 ^^^ ((x0.toUInt64 >>> ((Int32.toInt64 30).toUInt64 &&& Int64.toUInt64 63)).toInt64)) * (-4658895280553007687 : Int64)).toUInt64 >>> ((Int32.toInt64 27).toUInt64 &&& Int64.toUInt64 63)).toInt64)) * (-7723592293110705685 : Int64))), (0, .long x0)]) (st2 := [.long (((((x0 ^^^ ((x0.toUInt64 >>> ((Int32.toInt64 30).toUInt64 &&& Int64.toUInt64 63)).toInt64)) * (-4658895280553007687 : Int64)) ^^^ ((((x0 ^^^ ((x0.toUInt64 >>> ((Int32.toInt64 30).toUInt64 &&& Int64.toUInt64 63)).toInt64)) * (-4658895280553007687 : Int64)).toUInt64 >>> ((Int32.toInt64 27).toUInt64 &&& Int64.toUInt64 63)).toInt64)) * (-7723592293110705685 : Int64)) ^^^ ((((((x0 ^^^ ((x0.toUInt64 >>> ((Int32.toInt64 30).toUInt64 &&& Int64.toUInt64 63)).toInt64)) * (-4658895280553007687 : Int64)) ^^^ ((((x0 ^^^ ((x0.toUInt64 >>> ((Int32.toInt64 30).toUInt64 &&& Int64.toUInt64 63)).toInt64)) * (-4658895280553007687 : Int64)).toUInt64 >>> ((Int32.toInt64 27).toUInt64 &&& Int64.toUInt64 63)).toInt64)) * (-7723592293110705685 : Int64)).toUInt64 >>> ((Int32.toInt64 31).toUInt64 &&& Int64.toUInt64 63)).toInt64))]) (h2 := (sh_rep m.T m.I m.J)) rfl rfl rfl ?_
    exact kk
  obtain rfl := e
  obtain ⟨rfl, rfl⟩ := tg
  exact sh_Lk_ret (i := .lreturn) rfl rfl rfl (Nat.le_of_ble_eq_true rfl) (Nat.le_of_ble_eq_true rfl)
theorem sl_222 {x1 : Int32} {m m2 : sh_X} {o : Outcome} {z : (Int64 × sh_X)} (e : sf_222 x1 m = some z) (tg : (sh_tJ o m2) z) : sh_Lk 222 0 [(0, .ref 62), (1, .int x1)] [] m o m2 9 223 := by
  unfold sf_222 at e
  refine sh_Lk_lift (T := m.T) (I := m.I) (J := m.J) (s := m.s) (pc2 := 6) (lv2 := [(0, .ref 62), (1, .int x1)]) (st2 := [.int x1, .ref 63, .int x1, .ref 63]) (I2 := m.I) (J2 := m.J) (fun hT v kk => ?_) ?_
  · refine sh_w (i := (.aload_n 0)) (len := 1) (pc2 := 1) (lv2 := [(0, .ref 62), (1, .int x1)]) (st2 := [.ref 62]) (h2 := (sh_rep m.T m.I m.J)) rfl rfl rfl ?_
    refine sh_gR1 (len := 3) (x := .ref 63) (pc2 := 4) rfl rfl hT.t61 rfl rfl ?_
    refine sh_w (i := (.iload_n 1)) (len := 1) (pc2 := 5) (lv2 := [(0, .ref 62), (1, .int x1)]) (st2 := [.int x1, .ref 63]) (h2 := (sh_rep m.T m.I m.J)) rfl rfl rfl ?_
    refine sh_w (i := .dup2) (len := 1) (pc2 := 6) (lv2 := [(0, .ref 62), (1, .int x1)]) (st2 := [.int x1, .ref 63, .int x1, .ref 63]) (h2 := (sh_rep m.T m.I m.J)) rfl rfl rfl ?_
    exact kk
  obtain ⟨c, e⟩ := sh_gd e
  refine sh_Lk_lift (T := m.T) (I := m.I) (J := m.J) (s := m.s) (pc2 := 11) (lv2 := [(0, .ref 62), (1, .int x1)]) (st2 := [.long ((m.J 62 (Int32.toNatClampNeg x1)) + (-7046029254386353131 : Int64)), .int x1, .ref 63]) (I2 := m.I) (J2 := m.J) (fun hT v kk => ?_) ?_
  · refine sh_la1 (x := m.J 62 (Int32.toNatClampNeg x1)) (pc2 := 7) rfl (sh_s62 hT.st) (sh_okb1 c) (sh_okb2 c) rfl rfl ?_
    refine sh_w (i := (.ldc2_w 80)) (len := 3) (pc2 := 10) (lv2 := [(0, .ref 62), (1, .int x1)]) (st2 := [.long (-7046029254386353131), .long (m.J 62 (Int32.toNatClampNeg x1)), .int x1, .ref 63]) (h2 := (sh_rep m.T m.I m.J)) rfl rfl rfl ?_
    refine sh_w (i := .ladd) (len := 1) (pc2 := 11) (lv2 := [(0, .ref 62), (1, .int x1)]) (st2 := [.long ((m.J 62 (Int32.toNatClampNeg x1)) + (-7046029254386353131 : Int64)), .int x1, .ref 63]) (h2 := (sh_rep m.T m.I m.J)) rfl rfl rfl ?_
    exact kk
  obtain ⟨c, e⟩ := sh_gd e
  refine sh_Lk_lift (T := m.T) (I := m.I) (J := m.J) (s := m.s) (pc2 := 17) (lv2 := [(0, .ref 62), (1, .int x1)]) (st2 := [.int x1, .ref 63]) (I2 := m.I) (J2 := sh_u2 m.J 62 (Int32.toNatClampNeg x1) ((m.J 62 (Int32.toNatClampNeg x1)) + (-7046029254386353131 : Int64))) (fun hT v kk => ?_) ?_
  · refine sh_ls1 (x := (m.J 62 (Int32.toNatClampNeg x1)) + (-7046029254386353131 : Int64)) (i := x1) (pc2 := 12) rfl (sh_s62 hT.st) (sh_okb1 c) (sh_okb2 c) rfl ?_
    refine sh_w (i := (.aload_n 0)) (len := 1) (pc2 := 13) (lv2 := [(0, .ref 62), (1, .int x1)]) (st2 := [.ref 62]) (h2 := (sh_rep m.T m.I (sh_u2 m.J 62 (Int32.toNatClampNeg x1) ((m.J 62 (Int32.toNatClampNeg x1)) + (-7046029254386353131 : Int64))))) rfl rfl rfl ?_
    refine sh_gR1 (len := 3) (x := .ref 63) (pc2 := 16) rfl rfl hT.t61 rfl rfl ?_
    refine sh_w (i := (.iload_n 1)) (len := 1) (pc2 := 17) (lv2 := [(0, .ref 62), (1, .int x1)]) (st2 := [.int x1, .ref 63]) (h2 := (sh_rep m.T m.I (sh_u2 m.J 62 (Int32.toNatClampNeg x1) ((m.J 62 (Int32.toNatClampNeg x1)) + (-7046029254386353131 : Int64))))) rfl rfl rfl ?_
    exact kk
  obtain ⟨c, e⟩ := sh_gd e
  refine sh_Lk_lift (T := m.T) (I := m.I) (J := sh_u2 m.J 62 (Int32.toNatClampNeg x1) ((m.J 62 (Int32.toNatClampNeg x1)) + (-7046029254386353131 : Int64))) (s := m.s) (pc2 := 18) (lv2 := [(0, .ref 62), (1, .int x1)]) (st2 := [.long ((sh_u2 m.J 62 (Int32.toNatClampNeg x1) ((m.J 62 (Int32.toNatClampNeg x1)) + (-7046029254386353131 : Int64))) 62 (Int32.toNatClampNeg x1))]) (I2 := m.I) (J2 := sh_u2 m.J 62 (Int32.toNatClampNeg x1) ((m.J 62 (Int32.toNatClampNeg x1)) + (-7046029254386353131 : Int64))) (fun hT v kk => ?_) ?_
  · refine sh_la1 (x := (sh_u2 m.J 62 (Int32.toNatClampNeg x1) ((m.J 62 (Int32.toNatClampNeg x1)) + (-7046029254386353131 : Int64))) 62 (Int32.toNatClampNeg x1)) (pc2 := 18) rfl (sh_s62 hT.st) (sh_okb1 c) (sh_okb2 c) rfl rfl ?_
    exact kk
  refine sh_Lk_cS (r := (some (.long (sf_223 ((sh_u2 m.J 62 (Int32.toNatClampNeg x1) ((m.J 62 (Int32.toNatClampNeg x1)) + (-7046029254386353131 : Int64))) 62 (Int32.toNatClampNeg x1)))))) (st2 := [.long (sf_223 ((sh_u2 m.J 62 (Int32.toNatClampNeg x1) ((m.J 62 (Int32.toNatClampNeg x1)) + (-7046029254386353131 : Int64))) 62 (Int32.toNatClampNeg x1)))]) (pc2 := 21) (k2 := 223) (as := [.long ((sh_u2 m.J 62 (Int32.toNatClampNeg x1) ((m.J 62 (Int32.toNatClampNeg x1)) + (-7046029254386353131 : Int64))) 62 (Int32.toNatClampNeg x1))]) (rest := []) rfl rfl (by decide) (Nat.le_of_ble_eq_true rfl) rfl rfl ⟨Nat.le_of_ble_eq_true rfl, Nat.le_of_ble_eq_true rfl⟩ (sl_223 (m := ⟨m.T, m.I, sh_u2 m.J 62 (Int32.toNatClampNeg x1) ((m.J 62 (Int32.toNatClampNeg x1)) + (-7046029254386353131 : Int64)), m.s⟩) rfl ⟨rfl, rfl⟩) rfl rfl (Nat.le_of_ble_eq_true rfl) (Nat.le_of_ble_eq_true rfl) ?_
  obtain rfl := Option.some.inj e
  obtain ⟨rfl, rfl⟩ := tg
  exact sh_Lk_ret (i := .lreturn) rfl rfl rfl (Nat.le_of_ble_eq_true rfl) (Nat.le_of_ble_eq_true rfl)
theorem sl_225 {x1 : Int32} {m m2 : sh_X} {o : Outcome} {z : Bool} (e : sf_225 x1 m = some z) (tg : (sh_tZc m o m2) z) : sh_Lk 225 0 [(0, .ref 62), (1, .int x1)] [] m o m2 8 200 := by
  unfold sf_225 at e
  refine sh_Lk_lift (T := m.T) (I := m.I) (J := m.J) (s := m.s) (pc2 := 1) (lv2 := [(0, .ref 62), (1, .int x1)]) (st2 := [.int x1]) (I2 := m.I) (J2 := m.J) (fun hT v kk => ?_) ?_
  · refine sh_w (i := (.iload_n 1)) (len := 1) (pc2 := 1) (lv2 := [(0, .ref 62), (1, .int x1)]) (st2 := [.int x1]) (h2 := (sh_rep m.T m.I m.J)) rfl rfl rfl ?_
    exact kk
  rcases sh_ite e with ⟨c, e⟩ | ⟨c, e⟩
  · refine sh_Lk_lift (T := m.T) (I := m.I) (J := m.J) (s := m.s) (pc2 := 38) (lv2 := [(0, .ref 62), (1, .int x1)]) (st2 := [.int 0]) (I2 := m.I) (J2 := m.J) (fun hT v kk => ?_) ?_
    · refine sh_j0 (c := .lt) (off := (36)) (pc2 := 37) true rfl (sh_Bltt c) rfl ?_
      refine sh_w (i := (.iconst 0)) (len := 1) (pc2 := 38) (lv2 := [(0, .ref 62), (1, .int x1)]) (st2 := [.int 0]) (h2 := (sh_rep m.T m.I m.J)) rfl rfl rfl ?_
      exact kk
    obtain rfl := Option.some.inj e
    obtain ⟨rfl, rfl⟩ := tg
    exact sh_Lk_ret (i := .ireturn) rfl rfl rfl (Nat.le_of_ble_eq_true rfl) (Nat.le_of_ble_eq_true rfl)
  · refine sh_Lk_lift (T := m.T) (I := m.I) (J := m.J) (s := m.s) (pc2 := 12) (lv2 := [(0, .ref 62), (1, .int x1)]) (st2 := [.int (m.I 9 3), .int x1]) (I2 := m.I) (J2 := m.J) (fun hT v kk => ?_) ?_
    · refine sh_j0 (c := .lt) (off := (36)) (pc2 := 4) false rfl (sh_Bltf c) rfl ?_
      refine sh_w (i := (.iload_n 1)) (len := 1) (pc2 := 5) (lv2 := [(0, .ref 62), (1, .int x1)]) (st2 := [.int x1]) (h2 := (sh_rep m.T m.I m.J)) rfl rfl rfl ?_
      refine sh_w (i := (.aload_n 0)) (len := 1) (pc2 := 6) (lv2 := [(0, .ref 62), (1, .int x1)]) (st2 := [.ref 62, .int x1]) (h2 := (sh_rep m.T m.I m.J)) rfl rfl rfl ?_
      refine sh_gR1 (len := 3) (x := .ref 10) (pc2 := 9) rfl rfl hT.t61 rfl rfl ?_
      refine sh_gI1 (len := 3) (x := m.I 9 3) (pc2 := 12) rfl rfl hT.t9 rfl rfl rfl ?_
      exact kk
    rcases sh_ite e with ⟨c, e⟩ | ⟨c, e⟩
    · refine sh_Lk_lift (T := m.T) (I := m.I) (J := m.J) (s := m.s) (pc2 := 21) (lv2 := [(0, .ref 62), (1, .int x1)]) (st2 := [.int (Int32.ofNat (sh_ln m.T (sh_rf m.T 61 3))), .int x1]) (I2 := m.I) (J2 := m.J) (fun hT v kk => ?_) ?_
      · refine sh_jc (c := .ge) (off := (25)) (pc2 := 15) false rfl (sh_Bgef c) rfl ?_
        refine sh_w (i := (.iload_n 1)) (len := 1) (pc2 := 16) (lv2 := [(0, .ref 62), (1, .int x1)]) (st2 := [.int x1]) (h2 := (sh_rep m.T m.I m.J)) rfl rfl rfl ?_
        refine sh_w (i := (.aload_n 0)) (len := 1) (pc2 := 17) (lv2 := [(0, .ref 62), (1, .int x1)]) (st2 := [.ref 62, .int x1]) (h2 := (sh_rep m.T m.I m.J)) rfl rfl rfl ?_
        refine sh_gR1 (len := 3) (x := .ref (sh_rf m.T 61 3 + 1)) (pc2 := 20) rfl rfl hT.t61 rfl rfl ?_
        refine sh_al1 (pc2 := 21) rfl hT.a61_3 (by decide) rfl ?_
        exact kk
      rcases sh_ite e with ⟨c, e⟩ | ⟨c, e⟩
      · refine sh_Lk_lift (T := m.T) (I := m.I) (J := m.J) (s := m.s) (pc2 := 30) (lv2 := [(0, .ref 62), (1, .int x1)]) (st2 := [.int (Int32.ofNat (sh_ln m.T (sh_rf m.T 61 4))), .int x1]) (I2 := m.I) (J2 := m.J) (fun hT v kk => ?_) ?_
        · refine sh_jc (c := .ge) (off := (16)) (pc2 := 24) false rfl (sh_Bgef c) rfl ?_
          refine sh_w (i := (.iload_n 1)) (len := 1) (pc2 := 25) (lv2 := [(0, .ref 62), (1, .int x1)]) (st2 := [.int x1]) (h2 := (sh_rep m.T m.I m.J)) rfl rfl rfl ?_
          refine sh_w (i := (.aload_n 0)) (len := 1) (pc2 := 26) (lv2 := [(0, .ref 62), (1, .int x1)]) (st2 := [.ref 62, .int x1]) (h2 := (sh_rep m.T m.I m.J)) rfl rfl rfl ?_
          refine sh_gR1 (len := 3) (x := .ref (sh_rf m.T 61 4 + 1)) (pc2 := 29) rfl rfl hT.t61 rfl rfl ?_
          refine sh_al1 (pc2 := 30) rfl hT.a61_4 (by decide) rfl ?_
          exact kk
        rcases sh_ite e with ⟨c, e⟩ | ⟨c, e⟩
        · refine sh_Lk_lift (T := m.T) (I := m.I) (J := m.J) (s := m.s) (pc2 := 38) (lv2 := [(0, .ref 62), (1, .int x1)]) (st2 := [.int 1]) (I2 := m.I) (J2 := m.J) (fun hT v kk => ?_) ?_
          · refine sh_jc (c := .ge) (off := (7)) (pc2 := 33) false rfl (sh_Bgef c) rfl ?_
            refine sh_w (i := (.iconst 1)) (len := 1) (pc2 := 34) (lv2 := [(0, .ref 62), (1, .int x1)]) (st2 := [.int 1]) (h2 := (sh_rep m.T m.I m.J)) rfl rfl rfl ?_
            refine sh_w (i := (.goto 4)) (len := 3) (pc2 := 38) (lv2 := [(0, .ref 62), (1, .int x1)]) (st2 := [.int 1]) (h2 := (sh_rep m.T m.I m.J)) rfl rfl rfl ?_
            exact kk
          obtain rfl := Option.some.inj e
          obtain ⟨rfl, rfl⟩ := tg
          exact sh_Lk_ret (i := .ireturn) rfl rfl rfl (Nat.le_of_ble_eq_true rfl) (Nat.le_of_ble_eq_true rfl)
        · refine sh_Lk_lift (T := m.T) (I := m.I) (J := m.J) (s := m.s) (pc2 := 38) (lv2 := [(0, .ref 62), (1, .int x1)]) (st2 := [.int 0]) (I2 := m.I) (J2 := m.J) (fun hT v kk => ?_) ?_
          · refine sh_jc (c := .ge) (off := (7)) (pc2 := 37) true rfl (sh_Bget c) rfl ?_
            refine sh_w (i := (.iconst 0)) (len := 1) (pc2 := 38) (lv2 := [(0, .ref 62), (1, .int x1)]) (st2 := [.int 0]) (h2 := (sh_rep m.T m.I m.J)) rfl rfl rfl ?_
            exact kk
          obtain rfl := Option.some.inj e
          obtain ⟨rfl, rfl⟩ := tg
          exact sh_Lk_ret (i := .ireturn) rfl rfl rfl (Nat.le_of_ble_eq_true rfl) (Nat.le_of_ble_eq_true rfl)
      · refine sh_Lk_lift (T := m.T) (I := m.I) (J := m.J) (s := m.s) (pc2 := 38) (lv2 := [(0, .ref 62), (1, .int x1)]) (st2 := [.int 0]) (I2 := m.I) (J2 := m.J) (fun hT v kk => ?_) ?_
        · refine sh_jc (c := .ge) (off := (16)) (pc2 := 37) true rfl (sh_Bget c) rfl ?_
          refine sh_w (i := (.iconst 0)) (len := 1) (pc2 := 38) (lv2 := [(0, .ref 62), (1, .int x1)]) (st2 := [.int 0]) (h2 := (sh_rep m.T m.I m.J)) rfl rfl rfl ?_
          exact kk
        obtain rfl := Option.some.inj e
        obtain ⟨rfl, rfl⟩ := tg
        exact sh_Lk_ret (i := .ireturn) rfl rfl rfl (Nat.le_of_ble_eq_true rfl) (Nat.le_of_ble_eq_true rfl)
    · refine sh_Lk_lift (T := m.T) (I := m.I) (J := m.J) (s := m.s) (pc2 := 38) (lv2 := [(0, .ref 62), (1, .int x1)]) (st2 := [.int 0]) (I2 := m.I) (J2 := m.J) (fun hT v kk => ?_) ?_
      · refine sh_jc (c := .ge) (off := (25)) (pc2 := 37) true rfl (sh_Bget c) rfl ?_
        refine sh_w (i := (.iconst 0)) (len := 1) (pc2 := 38) (lv2 := [(0, .ref 62), (1, .int x1)]) (st2 := [.int 0]) (h2 := (sh_rep m.T m.I m.J)) rfl rfl rfl ?_
        exact kk
      obtain rfl := Option.some.inj e
      obtain ⟨rfl, rfl⟩ := tg
      exact sh_Lk_ret (i := .ireturn) rfl rfl rfl (Nat.le_of_ble_eq_true rfl) (Nat.le_of_ble_eq_true rfl)
theorem sl_224 {m m2 : sh_X} {o : Outcome} {z : (Unit × sh_X)} (e : sf_224 m = some z) (tg : (sh_tV o m2) z) : sh_Lk 224 0 [(0, .ref 62)] [] m o m2 10 244 := by
  unfold sf_224 at e
  refine sh_Lk_lift (T := m.T) (I := m.I) (J := m.J) (s := m.s) (pc2 := 2) (lv2 := [(0, .ref 62)]) (st2 := [.int 1, .ref 62]) (I2 := m.I) (J2 := m.J) (fun hT v kk => ?_) ?_
  · refine sh_w (i := (.aload_n 0)) (len := 1) (pc2 := 1) (lv2 := [(0, .ref 62)]) (st2 := [.ref 62]) (h2 := (sh_rep m.T m.I m.J)) rfl rfl rfl ?_
    refine sh_w (i := (.iconst 1)) (len := 1) (pc2 := 2) (lv2 := [(0, .ref 62)]) (st2 := [.int 1, .ref 62]) (h2 := (sh_rep m.T m.I m.J)) rfl rfl rfl ?_
    exact kk
  obtain ⟨r1, e1, e⟩ := sh_bc_e e
  refine sh_Lk_cV (r := (some (.int (sh_b2 r1)))) (st2 := [.int (sh_b2 r1)]) (pc2 := 5) (k2 := 225) (a := 61) (as := [.ref 62, .int 1]) (rest := []) rfl rfl rfl (fun hT => hT.t61) rfl rfl ⟨Nat.le_of_ble_eq_true rfl, Nat.le_of_ble_eq_true rfl⟩ (sl_225 e1 ⟨rfl, rfl⟩) rfl rfl (Nat.le_of_ble_eq_true rfl) (Nat.le_of_ble_eq_true rfl) ?_
  rcases sh_ite e with ⟨c, e⟩ | ⟨c, e⟩
  · refine sh_Lk_lift (T := m.T) (I := m.I) (J := m.J) (s := m.s) (pc2 := 15) (lv2 := [(0, .ref 62)]) (st2 := [.int 0, .ref 62, .int 0, .ref ((sh_rf m.T 61 3) + 1)]) (I2 := m.I) (J2 := m.J) (fun hT v kk => ?_) ?_
    · refine sh_j0 (c := .eq) (off := (54)) (pc2 := 8) false rfl (sh_Zeqf c) rfl ?_
      refine sh_w (i := (.aload_n 0)) (len := 1) (pc2 := 9) (lv2 := [(0, .ref 62)]) (st2 := [.ref 62]) (h2 := (sh_rep m.T m.I m.J)) rfl rfl rfl ?_
      refine sh_gR1 (len := 3) (x := .ref (sh_rf m.T 61 3 + 1)) (pc2 := 12) rfl rfl hT.t61 rfl rfl ?_
      refine sh_w (i := (.iconst 0)) (len := 1) (pc2 := 13) (lv2 := [(0, .ref 62)]) (st2 := [.int 0, .ref ((sh_rf m.T 61 3) + 1)]) (h2 := (sh_rep m.T m.I m.J)) rfl rfl rfl ?_
      refine sh_w (i := (.aload_n 0)) (len := 1) (pc2 := 14) (lv2 := [(0, .ref 62)]) (st2 := [.ref 62, .int 0, .ref ((sh_rf m.T 61 3) + 1)]) (h2 := (sh_rep m.T m.I m.J)) rfl rfl rfl ?_
      refine sh_w (i := (.iconst 0)) (len := 1) (pc2 := 15) (lv2 := [(0, .ref 62)]) (st2 := [.int 0, .ref 62, .int 0, .ref ((sh_rf m.T 61 3) + 1)]) (h2 := (sh_rep m.T m.I m.J)) rfl rfl rfl ?_
      exact kk
    obtain ⟨r2, m12, e2, e⟩ := sh_bn_e e
    refine sh_Lk_cVk (r := (some (.long r2))) (st2 := [.long r2, .int 0, .ref ((sh_rf m.T 61 3) + 1)]) (pc2 := 18) (k2 := 222) (a := 61) (as := [.ref 62, .int 0]) (rest := [.int 0, .ref ((sh_rf m.T 61 3) + 1)]) rfl rfl rfl (fun hT => hT.t61) rfl rfl ⟨Nat.le_of_ble_eq_true rfl, Nat.le_of_ble_eq_true rfl⟩ (sl_222 e2 ⟨rfl, rfl⟩) rfl rfl (Nat.le_of_ble_eq_true rfl) (Nat.le_of_ble_eq_true rfl) (fun hD2 hp2 => ?_)
    obtain ⟨c, e⟩ := sh_gd e
    refine sh_Lk_lift (T := m12.T) (I := m12.I) (J := m12.J) (s := m12.s) (pc2 := 26) (lv2 := [(0, .ref 62)]) (st2 := [.int 0, .ref 62, .int 1, .ref ((sh_rf m12.T 61 3) + 1)]) (I2 := m12.I) (J2 := sh_u2 m12.J (sh_rf m.T 61 3) 0 r2) (fun hT v kk => ?_) ?_
    · refine sh_ls1 (x := r2) (i := 0) (pc2 := 19) rfl (hp2 _ _ hD2.a61_3) (sh_okb1 c) (sh_okb2 c) rfl ?_
      refine sh_w (i := (.aload_n 0)) (len := 1) (pc2 := 20) (lv2 := [(0, .ref 62)]) (st2 := [.ref 62]) (h2 := (sh_rep m12.T m12.I (sh_u2 m12.J (sh_rf m.T 61 3) 0 r2))) rfl rfl rfl ?_
      refine sh_gR1 (len := 3) (x := .ref (sh_rf m12.T 61 3 + 1)) (pc2 := 23) rfl rfl hT.t61 rfl rfl ?_
      refine sh_w (i := (.iconst 1)) (len := 1) (pc2 := 24) (lv2 := [(0, .ref 62)]) (st2 := [.int 1, .ref ((sh_rf m12.T 61 3) + 1)]) (h2 := (sh_rep m12.T m12.I (sh_u2 m12.J (sh_rf m.T 61 3) 0 r2))) rfl rfl rfl ?_
      refine sh_w (i := (.aload_n 0)) (len := 1) (pc2 := 25) (lv2 := [(0, .ref 62)]) (st2 := [.ref 62, .int 1, .ref ((sh_rf m12.T 61 3) + 1)]) (h2 := (sh_rep m12.T m12.I (sh_u2 m12.J (sh_rf m.T 61 3) 0 r2))) rfl rfl rfl ?_
      refine sh_w (i := (.iconst 0)) (len := 1) (pc2 := 26) (lv2 := [(0, .ref 62)]) (st2 := [.int 0, .ref 62, .int 1, .ref ((sh_rf m12.T 61 3) + 1)]) (h2 := (sh_rep m12.T m12.I (sh_u2 m12.J (sh_rf m.T 61 3) 0 r2))) rfl rfl rfl ?_
      exact kk
    obtain ⟨r3, m13, e3, e⟩ := sh_bn_e e
    refine sh_Lk_cVk (r := (some (.long r3))) (st2 := [.long r3, .int 1, .ref ((sh_rf m12.T 61 3) + 1)]) (pc2 := 29) (k2 := 222) (a := 61) (as := [.ref 62, .int 0]) (rest := [.int 1, .ref ((sh_rf m12.T 61 3) + 1)]) rfl rfl rfl (fun hT => hT.t61) rfl rfl ⟨Nat.le_of_ble_eq_true rfl, Nat.le_of_ble_eq_true rfl⟩ (sl_222 e3 ⟨rfl, rfl⟩) rfl rfl (Nat.le_of_ble_eq_true rfl) (Nat.le_of_ble_eq_true rfl) (fun hD3 hp3 => ?_)
    obtain ⟨c, e⟩ := sh_gd e
    refine sh_Lk_lift (T := m13.T) (I := m13.I) (J := m13.J) (s := m13.s) (pc2 := 40) (lv2 := [(0, .ref 62)]) (st2 := [.int 0, .ref ((sh_rf m13.T 61 3) + 1), .int 0, .ref ((sh_rf m13.T 61 4) + 1)]) (I2 := m13.I) (J2 := sh_u2 m13.J (sh_rf m12.T 61 3) 1 r3) (fun hT v kk => ?_) ?_
    · refine sh_ls1 (x := r3) (i := 1) (pc2 := 30) rfl (hp3 _ _ hD3.a61_3) (sh_okb1 c) (sh_okb2 c) rfl ?_
      refine sh_w (i := (.aload_n 0)) (len := 1) (pc2 := 31) (lv2 := [(0, .ref 62)]) (st2 := [.ref 62]) (h2 := (sh_rep m13.T m13.I (sh_u2 m13.J (sh_rf m12.T 61 3) 1 r3))) rfl rfl rfl ?_
      refine sh_gR1 (len := 3) (x := .ref (sh_rf m13.T 61 4 + 1)) (pc2 := 34) rfl rfl hT.t61 rfl rfl ?_
      refine sh_w (i := (.iconst 0)) (len := 1) (pc2 := 35) (lv2 := [(0, .ref 62)]) (st2 := [.int 0, .ref ((sh_rf m13.T 61 4) + 1)]) (h2 := (sh_rep m13.T m13.I (sh_u2 m13.J (sh_rf m12.T 61 3) 1 r3))) rfl rfl rfl ?_
      refine sh_w (i := (.aload_n 0)) (len := 1) (pc2 := 36) (lv2 := [(0, .ref 62)]) (st2 := [.ref 62, .int 0, .ref ((sh_rf m13.T 61 4) + 1)]) (h2 := (sh_rep m13.T m13.I (sh_u2 m13.J (sh_rf m12.T 61 3) 1 r3))) rfl rfl rfl ?_
      refine sh_gR1 (len := 3) (x := .ref (sh_rf m13.T 61 3 + 1)) (pc2 := 39) rfl rfl hT.t61 rfl rfl ?_
      refine sh_w (i := (.iconst 0)) (len := 1) (pc2 := 40) (lv2 := [(0, .ref 62)]) (st2 := [.int 0, .ref ((sh_rf m13.T 61 3) + 1), .int 0, .ref ((sh_rf m13.T 61 4) + 1)]) (h2 := (sh_rep m13.T m13.I (sh_u2 m13.J (sh_rf m12.T 61 3) 1 r3))) rfl rfl rfl ?_
      exact kk
    obtain ⟨c, e⟩ := sh_gd e
    refine sh_Lk_lift (T := m13.T) (I := m13.I) (J := sh_u2 m13.J (sh_rf m12.T 61 3) 1 r3) (s := m13.s) (pc2 := 41) (lv2 := [(0, .ref 62)]) (st2 := [.long ((sh_u2 m13.J (sh_rf m12.T 61 3) 1 r3) (sh_rf m13.T 61 3) 0), .int 0, .ref ((sh_rf m13.T 61 4) + 1)]) (I2 := m13.I) (J2 := sh_u2 m13.J (sh_rf m12.T 61 3) 1 r3) (fun hT v kk => ?_) ?_
    · refine sh_la1 (x := (sh_u2 m13.J (sh_rf m12.T 61 3) 1 r3) (sh_rf m13.T 61 3) 0) (pc2 := 41) rfl hT.a61_3 (sh_okb1 c) (sh_okb2 c) rfl rfl ?_
      exact kk
    obtain ⟨c, e⟩ := sh_gd e
    refine sh_Lk_lift (T := m13.T) (I := m13.I) (J := sh_u2 m13.J (sh_rf m12.T 61 3) 1 r3) (s := m13.s) (pc2 := 52) (lv2 := [(0, .ref 62)]) (st2 := [.int 1, .ref ((sh_rf m13.T 61 3) + 1), .int 1, .ref ((sh_rf m13.T 61 4) + 1)]) (I2 := m13.I) (J2 := sh_u2 (sh_u2 m13.J (sh_rf m12.T 61 3) 1 r3) (sh_rf m13.T 61 4) 0 ((sh_u2 m13.J (sh_rf m12.T 61 3) 1 r3) (sh_rf m13.T 61 3) 0)) (fun hT v kk => ?_) ?_
    · refine sh_ls1 (x := (sh_u2 m13.J (sh_rf m12.T 61 3) 1 r3) (sh_rf m13.T 61 3) 0) (i := 0) (pc2 := 42) rfl hT.a61_4 (sh_okb1 c) (sh_okb2 c) rfl ?_
      refine sh_w (i := (.aload_n 0)) (len := 1) (pc2 := 43) (lv2 := [(0, .ref 62)]) (st2 := [.ref 62]) (h2 := (sh_rep m13.T m13.I (sh_u2 (sh_u2 m13.J (sh_rf m12.T 61 3) 1 r3) (sh_rf m13.T 61 4) 0 ((sh_u2 m13.J (sh_rf m12.T 61 3) 1 r3) (sh_rf m13.T 61 3) 0)))) rfl rfl rfl ?_
      refine sh_gR1 (len := 3) (x := .ref (sh_rf m13.T 61 4 + 1)) (pc2 := 46) rfl rfl hT.t61 rfl rfl ?_
      refine sh_w (i := (.iconst 1)) (len := 1) (pc2 := 47) (lv2 := [(0, .ref 62)]) (st2 := [.int 1, .ref ((sh_rf m13.T 61 4) + 1)]) (h2 := (sh_rep m13.T m13.I (sh_u2 (sh_u2 m13.J (sh_rf m12.T 61 3) 1 r3) (sh_rf m13.T 61 4) 0 ((sh_u2 m13.J (sh_rf m12.T 61 3) 1 r3) (sh_rf m13.T 61 3) 0)))) rfl rfl rfl ?_
      refine sh_w (i := (.aload_n 0)) (len := 1) (pc2 := 48) (lv2 := [(0, .ref 62)]) (st2 := [.ref 62, .int 1, .ref ((sh_rf m13.T 61 4) + 1)]) (h2 := (sh_rep m13.T m13.I (sh_u2 (sh_u2 m13.J (sh_rf m12.T 61 3) 1 r3) (sh_rf m13.T 61 4) 0 ((sh_u2 m13.J (sh_rf m12.T 61 3) 1 r3) (sh_rf m13.T 61 3) 0)))) rfl rfl rfl ?_
      refine sh_gR1 (len := 3) (x := .ref (sh_rf m13.T 61 3 + 1)) (pc2 := 51) rfl rfl hT.t61 rfl rfl ?_
      refine sh_w (i := (.iconst 1)) (len := 1) (pc2 := 52) (lv2 := [(0, .ref 62)]) (st2 := [.int 1, .ref ((sh_rf m13.T 61 3) + 1), .int 1, .ref ((sh_rf m13.T 61 4) + 1)]) (h2 := (sh_rep m13.T m13.I (sh_u2 (sh_u2 m13.J (sh_rf m12.T 61 3) 1 r3) (sh_rf m13.T 61 4) 0 ((sh_u2 m13.J (sh_rf m12.T 61 3) 1 r3) (sh_rf m13.T 61 3) 0)))) rfl rfl rfl ?_
      exact kk
    obtain ⟨c, e⟩ := sh_gd e
    refine sh_Lk_lift (T := m13.T) (I := m13.I) (J := sh_u2 (sh_u2 m13.J (sh_rf m12.T 61 3) 1 r3) (sh_rf m13.T 61 4) 0 ((sh_u2 m13.J (sh_rf m12.T 61 3) 1 r3) (sh_rf m13.T 61 3) 0)) (s := m13.s) (pc2 := 58) (lv2 := [(0, .ref 62)]) (st2 := [.long (((sh_u2 (sh_u2 m13.J (sh_rf m12.T 61 3) 1 r3) (sh_rf m13.T 61 4) 0 ((sh_u2 m13.J (sh_rf m12.T 61 3) 1 r3) (sh_rf m13.T 61 3) 0)) (sh_rf m13.T 61 3) 1) ^^^ ((sh_u2 (sh_u2 m13.J (sh_rf m12.T 61 3) 1 r3) (sh_rf m13.T 61 4) 0 ((sh_u2 m13.J (sh_rf m12.T 61 3) 1 r3) (sh_rf m13.T 61 3) 0)) 61 5)), .int 1, .ref ((sh_rf m13.T 61 4) + 1)]) (I2 := m13.I) (J2 := sh_u2 (sh_u2 m13.J (sh_rf m12.T 61 3) 1 r3) (sh_rf m13.T 61 4) 0 ((sh_u2 m13.J (sh_rf m12.T 61 3) 1 r3) (sh_rf m13.T 61 3) 0)) (fun hT v kk => ?_) ?_
    · refine sh_la1 (x := (sh_u2 (sh_u2 m13.J (sh_rf m12.T 61 3) 1 r3) (sh_rf m13.T 61 4) 0 ((sh_u2 m13.J (sh_rf m12.T 61 3) 1 r3) (sh_rf m13.T 61 3) 0)) (sh_rf m13.T 61 3) 1) (pc2 := 53) rfl hT.a61_3 (sh_okb1 c) (sh_okb2 c) rfl rfl ?_
      refine sh_w (i := (.aload_n 0)) (len := 1) (pc2 := 54) (lv2 := [(0, .ref 62)]) (st2 := [.ref 62, .long ((sh_u2 (sh_u2 m13.J (sh_rf m12.T 61 3) 1 r3) (sh_rf m13.T 61 4) 0 ((sh_u2 m13.J (sh_rf m12.T 61 3) 1 r3) (sh_rf m13.T 61 3) 0)) (sh_rf m13.T 61 3) 1), .int 1, .ref ((sh_rf m13.T 61 4) + 1)]) (h2 := (sh_rep m13.T m13.I (sh_u2 (sh_u2 m13.J (sh_rf m12.T 61 3) 1 r3) (sh_rf m13.T 61 4) 0 ((sh_u2 m13.J (sh_rf m12.T 61 3) 1 r3) (sh_rf m13.T 61 3) 0)))) rfl rfl rfl ?_
      refine sh_gJ1 (len := 3) (x := (sh_u2 (sh_u2 m13.J (sh_rf m12.T 61 3) 1 r3) (sh_rf m13.T 61 4) 0 ((sh_u2 m13.J (sh_rf m12.T 61 3) 1 r3) (sh_rf m13.T 61 3) 0)) 61 5) (pc2 := 57) rfl rfl hT.t61 rfl rfl rfl ?_
      refine sh_w (i := .lxor) (len := 1) (pc2 := 58) (lv2 := [(0, .ref 62)]) (st2 := [.long (((sh_u2 (sh_u2 m13.J (sh_rf m12.T 61 3) 1 r3) (sh_rf m13.T 61 4) 0 ((sh_u2 m13.J (sh_rf m12.T 61 3) 1 r3) (sh_rf m13.T 61 3) 0)) (sh_rf m13.T 61 3) 1) ^^^ ((sh_u2 (sh_u2 m13.J (sh_rf m12.T 61 3) 1 r3) (sh_rf m13.T 61 4) 0 ((sh_u2 m13.J (sh_rf m12.T 61 3) 1 r3) (sh_rf m13.T 61 3) 0)) 61 5)), .int 1, .ref ((sh_rf m13.T 61 4) + 1)]) (h2 := (sh_rep m13.T m13.I (sh_u2 (sh_u2 m13.J (sh_rf m12.T 61 3) 1 r3) (sh_rf m13.T 61 4) 0 ((sh_u2 m13.J (sh_rf m12.T 61 3) 1 r3) (sh_rf m13.T 61 3) 0)))) rfl rfl rfl ?_
      exact kk
    obtain ⟨c, e⟩ := sh_gd e
    refine sh_Lk_lift (T := m13.T) (I := m13.I) (J := sh_u2 (sh_u2 m13.J (sh_rf m12.T 61 3) 1 r3) (sh_rf m13.T 61 4) 0 ((sh_u2 m13.J (sh_rf m12.T 61 3) 1 r3) (sh_rf m13.T 61 3) 0)) (s := m13.s) (pc2 := 59) (lv2 := [(0, .ref 62)]) (st2 := []) (I2 := m13.I) (J2 := sh_u2 (sh_u2 (sh_u2 m13.J (sh_rf m12.T 61 3) 1 r3) (sh_rf m13.T 61 4) 0 ((sh_u2 m13.J (sh_rf m12.T 61 3) 1 r3) (sh_rf m13.T 61 3) 0)) (sh_rf m13.T 61 4) 1 (((sh_u2 (sh_u2 m13.J (sh_rf m12.T 61 3) 1 r3) (sh_rf m13.T 61 4) 0 ((sh_u2 m13.J (sh_rf m12.T 61 3) 1 r3) (sh_rf m13.T 61 3) 0)) (sh_rf m13.T 61 3) 1) ^^^ ((sh_u2 (sh_u2 m13.J (sh_rf m12.T 61 3) 1 r3) (sh_rf m13.T 61 4) 0 ((sh_u2 m13.J (sh_rf m12.T 61 3) 1 r3) (sh_rf m13.T 61 3) 0)) 61 5))) (fun hT v kk => ?_) ?_
    · refine sh_ls1 (x := ((sh_u2 (sh_u2 m13.J (sh_rf m12.T 61 3) 1 r3) (sh_rf m13.T 61 4) 0 ((sh_u2 m13.J (sh_rf m12.T 61 3) 1 r3) (sh_rf m13.T 61 3) 0)) (sh_rf m13.T 61 3) 1) ^^^ ((sh_u2 (sh_u2 m13.J (sh_rf m12.T 61 3) 1 r3) (sh_rf m13.T 61 4) 0 ((sh_u2 m13.J (sh_rf m12.T 61 3) 1 r3) (sh_rf m13.T 61 3) 0)) 61 5)) (i := 1) (pc2 := 59) rfl hT.a61_4 (sh_okb1 c) (sh_okb2 c) rfl ?_
      exact kk
    obtain rfl := Option.some.inj e
    obtain ⟨rfl, rfl⟩ := tg
    exact sh_Lk_ret (i := .return_) rfl rfl rfl (Nat.le_of_ble_eq_true rfl) (Nat.le_of_ble_eq_true rfl)
  · refine sh_Lk_lift (T := m.T) (I := m.I) (J := m.J) (s := m.s) (pc2 := 59) (lv2 := [(0, .ref 62)]) (st2 := []) (I2 := m.I) (J2 := m.J) (fun hT v kk => ?_) ?_
    · refine sh_j0 (c := .eq) (off := (54)) (pc2 := 59) true rfl (sh_Zeqt c) rfl ?_
      exact kk
    obtain rfl := Option.some.inj e
    obtain ⟨rfl, rfl⟩ := tg
    exact sh_Lk_ret (i := .return_) rfl rfl rfl (Nat.le_of_ble_eq_true rfl) (Nat.le_of_ble_eq_true rfl)
theorem sl_228 {x0 : Nat} {x1 : Int32} {m m2 : sh_X} {o : Outcome} {z : Bool} (hx0 : sh_isE x0) (e : sf_228 x0 x1 m = some z) (tg : (sh_tZc m o m2) z) : sh_Lk 228 0 [(0, .ref (x0 + 1)), (1, .int x1)] [] m o m2 8 200 := by
  unfold sf_228 at e
  rcases hx0 with rfl | rfl | rfl
  · refine sh_Lk_lift (T := m.T) (I := m.I) (J := m.J) (s := m.s) (pc2 := 1) (lv2 := [(0, .ref 14), (1, .int x1)]) (st2 := [.int x1]) (I2 := m.I) (J2 := m.J) (fun hT v kk => ?_) ?_
    · refine sh_w (i := (.iload_n 1)) (len := 1) (pc2 := 1) (lv2 := [(0, .ref 14), (1, .int x1)]) (st2 := [.int x1]) (h2 := (sh_rep m.T m.I m.J)) rfl rfl rfl ?_
      exact kk
    rcases sh_ite e with ⟨c, e⟩ | ⟨c, e⟩
    · refine sh_Lk_lift (T := m.T) (I := m.I) (J := m.J) (s := m.s) (pc2 := 17) (lv2 := [(0, .ref 14), (1, .int x1)]) (st2 := [.int 0]) (I2 := m.I) (J2 := m.J) (fun hT v kk => ?_) ?_
      · refine sh_j0 (c := .lt) (off := (15)) (pc2 := 16) true rfl (sh_Bltt c) rfl ?_
        refine sh_w (i := (.iconst 0)) (len := 1) (pc2 := 17) (lv2 := [(0, .ref 14), (1, .int x1)]) (st2 := [.int 0]) (h2 := (sh_rep m.T m.I m.J)) rfl rfl rfl ?_
        exact kk
      obtain rfl := Option.some.inj e
      obtain ⟨rfl, rfl⟩ := tg
      exact sh_Lk_ret (i := .ireturn) rfl rfl rfl (Nat.le_of_ble_eq_true rfl) (Nat.le_of_ble_eq_true rfl)
    · refine sh_Lk_lift (T := m.T) (I := m.I) (J := m.J) (s := m.s) (pc2 := 9) (lv2 := [(0, .ref 14), (1, .int x1)]) (st2 := [.int (m.I 13 4), .int x1]) (I2 := m.I) (J2 := m.J) (fun hT v kk => ?_) ?_
      · refine sh_j0 (c := .lt) (off := (15)) (pc2 := 4) false rfl (sh_Bltf c) rfl ?_
        refine sh_w (i := (.iload_n 1)) (len := 1) (pc2 := 5) (lv2 := [(0, .ref 14), (1, .int x1)]) (st2 := [.int x1]) (h2 := (sh_rep m.T m.I m.J)) rfl rfl rfl ?_
        refine sh_w (i := (.aload_n 0)) (len := 1) (pc2 := 6) (lv2 := [(0, .ref 14), (1, .int x1)]) (st2 := [.ref 14, .int x1]) (h2 := (sh_rep m.T m.I m.J)) rfl rfl rfl ?_
        refine sh_gI1 (len := 3) (x := m.I 13 4) (pc2 := 9) rfl rfl (sh_s13 hT.st) rfl rfl rfl ?_
        exact kk
      rcases sh_ite e with ⟨c, e⟩ | ⟨c, e⟩
      · refine sh_Lk_lift (T := m.T) (I := m.I) (J := m.J) (s := m.s) (pc2 := 17) (lv2 := [(0, .ref 14), (1, .int x1)]) (st2 := [.int 1]) (I2 := m.I) (J2 := m.J) (fun hT v kk => ?_) ?_
        · refine sh_jc (c := .ge) (off := (7)) (pc2 := 12) false rfl (sh_Bgef c) rfl ?_
          refine sh_w (i := (.iconst 1)) (len := 1) (pc2 := 13) (lv2 := [(0, .ref 14), (1, .int x1)]) (st2 := [.int 1]) (h2 := (sh_rep m.T m.I m.J)) rfl rfl rfl ?_
          refine sh_w (i := (.goto 4)) (len := 3) (pc2 := 17) (lv2 := [(0, .ref 14), (1, .int x1)]) (st2 := [.int 1]) (h2 := (sh_rep m.T m.I m.J)) rfl rfl rfl ?_
          exact kk
        obtain rfl := Option.some.inj e
        obtain ⟨rfl, rfl⟩ := tg
        exact sh_Lk_ret (i := .ireturn) rfl rfl rfl (Nat.le_of_ble_eq_true rfl) (Nat.le_of_ble_eq_true rfl)
      · refine sh_Lk_lift (T := m.T) (I := m.I) (J := m.J) (s := m.s) (pc2 := 17) (lv2 := [(0, .ref 14), (1, .int x1)]) (st2 := [.int 0]) (I2 := m.I) (J2 := m.J) (fun hT v kk => ?_) ?_
        · refine sh_jc (c := .ge) (off := (7)) (pc2 := 16) true rfl (sh_Bget c) rfl ?_
          refine sh_w (i := (.iconst 0)) (len := 1) (pc2 := 17) (lv2 := [(0, .ref 14), (1, .int x1)]) (st2 := [.int 0]) (h2 := (sh_rep m.T m.I m.J)) rfl rfl rfl ?_
          exact kk
        obtain rfl := Option.some.inj e
        obtain ⟨rfl, rfl⟩ := tg
        exact sh_Lk_ret (i := .ireturn) rfl rfl rfl (Nat.le_of_ble_eq_true rfl) (Nat.le_of_ble_eq_true rfl)
  · refine sh_Lk_lift (T := m.T) (I := m.I) (J := m.J) (s := m.s) (pc2 := 1) (lv2 := [(0, .ref 19), (1, .int x1)]) (st2 := [.int x1]) (I2 := m.I) (J2 := m.J) (fun hT v kk => ?_) ?_
    · refine sh_w (i := (.iload_n 1)) (len := 1) (pc2 := 1) (lv2 := [(0, .ref 19), (1, .int x1)]) (st2 := [.int x1]) (h2 := (sh_rep m.T m.I m.J)) rfl rfl rfl ?_
      exact kk
    rcases sh_ite e with ⟨c, e⟩ | ⟨c, e⟩
    · refine sh_Lk_lift (T := m.T) (I := m.I) (J := m.J) (s := m.s) (pc2 := 17) (lv2 := [(0, .ref 19), (1, .int x1)]) (st2 := [.int 0]) (I2 := m.I) (J2 := m.J) (fun hT v kk => ?_) ?_
      · refine sh_j0 (c := .lt) (off := (15)) (pc2 := 16) true rfl (sh_Bltt c) rfl ?_
        refine sh_w (i := (.iconst 0)) (len := 1) (pc2 := 17) (lv2 := [(0, .ref 19), (1, .int x1)]) (st2 := [.int 0]) (h2 := (sh_rep m.T m.I m.J)) rfl rfl rfl ?_
        exact kk
      obtain rfl := Option.some.inj e
      obtain ⟨rfl, rfl⟩ := tg
      exact sh_Lk_ret (i := .ireturn) rfl rfl rfl (Nat.le_of_ble_eq_true rfl) (Nat.le_of_ble_eq_true rfl)
    · refine sh_Lk_lift (T := m.T) (I := m.I) (J := m.J) (s := m.s) (pc2 := 9) (lv2 := [(0, .ref 19), (1, .int x1)]) (st2 := [.int (m.I 18 4), .int x1]) (I2 := m.I) (J2 := m.J) (fun hT v kk => ?_) ?_
      · refine sh_j0 (c := .lt) (off := (15)) (pc2 := 4) false rfl (sh_Bltf c) rfl ?_
        refine sh_w (i := (.iload_n 1)) (len := 1) (pc2 := 5) (lv2 := [(0, .ref 19), (1, .int x1)]) (st2 := [.int x1]) (h2 := (sh_rep m.T m.I m.J)) rfl rfl rfl ?_
        refine sh_w (i := (.aload_n 0)) (len := 1) (pc2 := 6) (lv2 := [(0, .ref 19), (1, .int x1)]) (st2 := [.ref 19, .int x1]) (h2 := (sh_rep m.T m.I m.J)) rfl rfl rfl ?_
        refine sh_gI1 (len := 3) (x := m.I 18 4) (pc2 := 9) rfl rfl (sh_s18 hT.st) rfl rfl rfl ?_
        exact kk
      rcases sh_ite e with ⟨c, e⟩ | ⟨c, e⟩
      · refine sh_Lk_lift (T := m.T) (I := m.I) (J := m.J) (s := m.s) (pc2 := 17) (lv2 := [(0, .ref 19), (1, .int x1)]) (st2 := [.int 1]) (I2 := m.I) (J2 := m.J) (fun hT v kk => ?_) ?_
        · refine sh_jc (c := .ge) (off := (7)) (pc2 := 12) false rfl (sh_Bgef c) rfl ?_
          refine sh_w (i := (.iconst 1)) (len := 1) (pc2 := 13) (lv2 := [(0, .ref 19), (1, .int x1)]) (st2 := [.int 1]) (h2 := (sh_rep m.T m.I m.J)) rfl rfl rfl ?_
          refine sh_w (i := (.goto 4)) (len := 3) (pc2 := 17) (lv2 := [(0, .ref 19), (1, .int x1)]) (st2 := [.int 1]) (h2 := (sh_rep m.T m.I m.J)) rfl rfl rfl ?_
          exact kk
        obtain rfl := Option.some.inj e
        obtain ⟨rfl, rfl⟩ := tg
        exact sh_Lk_ret (i := .ireturn) rfl rfl rfl (Nat.le_of_ble_eq_true rfl) (Nat.le_of_ble_eq_true rfl)
      · refine sh_Lk_lift (T := m.T) (I := m.I) (J := m.J) (s := m.s) (pc2 := 17) (lv2 := [(0, .ref 19), (1, .int x1)]) (st2 := [.int 0]) (I2 := m.I) (J2 := m.J) (fun hT v kk => ?_) ?_
        · refine sh_jc (c := .ge) (off := (7)) (pc2 := 16) true rfl (sh_Bget c) rfl ?_
          refine sh_w (i := (.iconst 0)) (len := 1) (pc2 := 17) (lv2 := [(0, .ref 19), (1, .int x1)]) (st2 := [.int 0]) (h2 := (sh_rep m.T m.I m.J)) rfl rfl rfl ?_
          exact kk
        obtain rfl := Option.some.inj e
        obtain ⟨rfl, rfl⟩ := tg
        exact sh_Lk_ret (i := .ireturn) rfl rfl rfl (Nat.le_of_ble_eq_true rfl) (Nat.le_of_ble_eq_true rfl)
  · refine sh_Lk_lift (T := m.T) (I := m.I) (J := m.J) (s := m.s) (pc2 := 1) (lv2 := [(0, .ref 24), (1, .int x1)]) (st2 := [.int x1]) (I2 := m.I) (J2 := m.J) (fun hT v kk => ?_) ?_
    · refine sh_w (i := (.iload_n 1)) (len := 1) (pc2 := 1) (lv2 := [(0, .ref 24), (1, .int x1)]) (st2 := [.int x1]) (h2 := (sh_rep m.T m.I m.J)) rfl rfl rfl ?_
      exact kk
    rcases sh_ite e with ⟨c, e⟩ | ⟨c, e⟩
    · refine sh_Lk_lift (T := m.T) (I := m.I) (J := m.J) (s := m.s) (pc2 := 17) (lv2 := [(0, .ref 24), (1, .int x1)]) (st2 := [.int 0]) (I2 := m.I) (J2 := m.J) (fun hT v kk => ?_) ?_
      · refine sh_j0 (c := .lt) (off := (15)) (pc2 := 16) true rfl (sh_Bltt c) rfl ?_
        refine sh_w (i := (.iconst 0)) (len := 1) (pc2 := 17) (lv2 := [(0, .ref 24), (1, .int x1)]) (st2 := [.int 0]) (h2 := (sh_rep m.T m.I m.J)) rfl rfl rfl ?_
        exact kk
      obtain rfl := Option.some.inj e
      obtain ⟨rfl, rfl⟩ := tg
      exact sh_Lk_ret (i := .ireturn) rfl rfl rfl (Nat.le_of_ble_eq_true rfl) (Nat.le_of_ble_eq_true rfl)
    · refine sh_Lk_lift (T := m.T) (I := m.I) (J := m.J) (s := m.s) (pc2 := 9) (lv2 := [(0, .ref 24), (1, .int x1)]) (st2 := [.int (m.I 23 4), .int x1]) (I2 := m.I) (J2 := m.J) (fun hT v kk => ?_) ?_
      · refine sh_j0 (c := .lt) (off := (15)) (pc2 := 4) false rfl (sh_Bltf c) rfl ?_
        refine sh_w (i := (.iload_n 1)) (len := 1) (pc2 := 5) (lv2 := [(0, .ref 24), (1, .int x1)]) (st2 := [.int x1]) (h2 := (sh_rep m.T m.I m.J)) rfl rfl rfl ?_
        refine sh_w (i := (.aload_n 0)) (len := 1) (pc2 := 6) (lv2 := [(0, .ref 24), (1, .int x1)]) (st2 := [.ref 24, .int x1]) (h2 := (sh_rep m.T m.I m.J)) rfl rfl rfl ?_
        refine sh_gI1 (len := 3) (x := m.I 23 4) (pc2 := 9) rfl rfl (sh_s23 hT.st) rfl rfl rfl ?_
        exact kk
      rcases sh_ite e with ⟨c, e⟩ | ⟨c, e⟩
      · refine sh_Lk_lift (T := m.T) (I := m.I) (J := m.J) (s := m.s) (pc2 := 17) (lv2 := [(0, .ref 24), (1, .int x1)]) (st2 := [.int 1]) (I2 := m.I) (J2 := m.J) (fun hT v kk => ?_) ?_
        · refine sh_jc (c := .ge) (off := (7)) (pc2 := 12) false rfl (sh_Bgef c) rfl ?_
          refine sh_w (i := (.iconst 1)) (len := 1) (pc2 := 13) (lv2 := [(0, .ref 24), (1, .int x1)]) (st2 := [.int 1]) (h2 := (sh_rep m.T m.I m.J)) rfl rfl rfl ?_
          refine sh_w (i := (.goto 4)) (len := 3) (pc2 := 17) (lv2 := [(0, .ref 24), (1, .int x1)]) (st2 := [.int 1]) (h2 := (sh_rep m.T m.I m.J)) rfl rfl rfl ?_
          exact kk
        obtain rfl := Option.some.inj e
        obtain ⟨rfl, rfl⟩ := tg
        exact sh_Lk_ret (i := .ireturn) rfl rfl rfl (Nat.le_of_ble_eq_true rfl) (Nat.le_of_ble_eq_true rfl)
      · refine sh_Lk_lift (T := m.T) (I := m.I) (J := m.J) (s := m.s) (pc2 := 17) (lv2 := [(0, .ref 24), (1, .int x1)]) (st2 := [.int 0]) (I2 := m.I) (J2 := m.J) (fun hT v kk => ?_) ?_
        · refine sh_jc (c := .ge) (off := (7)) (pc2 := 16) true rfl (sh_Bget c) rfl ?_
          refine sh_w (i := (.iconst 0)) (len := 1) (pc2 := 17) (lv2 := [(0, .ref 24), (1, .int x1)]) (st2 := [.int 0]) (h2 := (sh_rep m.T m.I m.J)) rfl rfl rfl ?_
          exact kk
        obtain rfl := Option.some.inj e
        obtain ⟨rfl, rfl⟩ := tg
        exact sh_Lk_ret (i := .ireturn) rfl rfl rfl (Nat.le_of_ble_eq_true rfl) (Nat.le_of_ble_eq_true rfl)
theorem sl_227_20 {x0 : Nat} {y0 : Int32} {m m2 : sh_X} {o : Outcome} {z : Int32} (hx0 : sh_isE x0) (e : sf_227_20 x0 y0 m = some z) (tg : (sh_tIc m o m2) z) : sh_Lk 227 20 [(0, .ref (x0 + 1))] [.int y0] m o m2 9 221 := by
  unfold sf_227_20 at e
  rcases hx0 with rfl | rfl | rfl
  · refine sh_Lk_lift (T := m.T) (I := m.I) (J := m.J) (s := m.s) (pc2 := 22) (lv2 := [(3, .int y0), (0, .ref 14)]) (st2 := [.int y0]) (I2 := m.I) (J2 := m.J) (fun hT v kk => ?_) ?_
    · refine sh_w (i := (.istore_n 3)) (len := 1) (pc2 := 21) (lv2 := [(3, .int y0), (0, .ref 14)]) (st2 := []) (h2 := (sh_rep m.T m.I m.J)) rfl rfl rfl ?_
      refine sh_w (i := (.iload_n 3)) (len := 1) (pc2 := 22) (lv2 := [(3, .int y0), (0, .ref 14)]) (st2 := [.int y0]) (h2 := (sh_rep m.T m.I m.J)) rfl rfl rfl ?_
      exact kk
    rcases sh_ite e with ⟨c, e⟩ | ⟨c, e⟩
    · refine sh_Lk_lift (T := m.T) (I := m.I) (J := m.J) (s := m.s) (pc2 := 43) (lv2 := [(3, .int y0), (0, .ref 14)]) (st2 := [.int 0]) (I2 := m.I) (J2 := m.J) (fun hT v kk => ?_) ?_
      · refine sh_j0 (c := .lt) (off := (20)) (pc2 := 42) true rfl (sh_Bltt c) rfl ?_
        refine sh_w (i := (.iconst 0)) (len := 1) (pc2 := 43) (lv2 := [(3, .int y0), (0, .ref 14)]) (st2 := [.int 0]) (h2 := (sh_rep m.T m.I m.J)) rfl rfl rfl ?_
        exact kk
      obtain rfl := Option.some.inj e
      obtain ⟨rfl, rfl⟩ := tg
      exact sh_Lk_ret (i := .ireturn) rfl rfl rfl (Nat.le_of_ble_eq_true rfl) (Nat.le_of_ble_eq_true rfl)
    · refine sh_Lk_lift (T := m.T) (I := m.I) (J := m.J) (s := m.s) (pc2 := 30) (lv2 := [(3, .int y0), (0, .ref 14)]) (st2 := [.int (m.I 13 5), .int y0]) (I2 := m.I) (J2 := m.J) (fun hT v kk => ?_) ?_
      · refine sh_j0 (c := .lt) (off := (20)) (pc2 := 25) false rfl (sh_Bltf c) rfl ?_
        refine sh_w (i := (.iload_n 3)) (len := 1) (pc2 := 26) (lv2 := [(3, .int y0), (0, .ref 14)]) (st2 := [.int y0]) (h2 := (sh_rep m.T m.I m.J)) rfl rfl rfl ?_
        refine sh_w (i := (.aload_n 0)) (len := 1) (pc2 := 27) (lv2 := [(3, .int y0), (0, .ref 14)]) (st2 := [.ref 14, .int y0]) (h2 := (sh_rep m.T m.I m.J)) rfl rfl rfl ?_
        refine sh_gI1 (len := 3) (x := m.I 13 5) (pc2 := 30) rfl rfl (sh_s13 hT.st) rfl rfl rfl ?_
        exact kk
      rcases sh_ite e with ⟨c, e⟩ | ⟨c, e⟩
      · refine sh_Lk_lift (T := m.T) (I := m.I) (J := m.J) (s := m.s) (pc2 := 38) (lv2 := [(3, .int y0), (0, .ref 14)]) (st2 := [.int y0, .ref 18]) (I2 := m.I) (J2 := m.J) (fun hT v kk => ?_) ?_
        · refine sh_jc (c := .ge) (off := (12)) (pc2 := 33) false rfl (sh_Bgef c) rfl ?_
          refine sh_w (i := (.aload_n 0)) (len := 1) (pc2 := 34) (lv2 := [(3, .int y0), (0, .ref 14)]) (st2 := [.ref 14]) (h2 := (sh_rep m.T m.I m.J)) rfl rfl rfl ?_
          refine sh_gR1 (len := 3) (x := .ref 18) (pc2 := 37) rfl rfl (sh_s13 hT.st) rfl rfl ?_
          refine sh_w (i := (.iload_n 3)) (len := 1) (pc2 := 38) (lv2 := [(3, .int y0), (0, .ref 14)]) (st2 := [.int y0, .ref 18]) (h2 := (sh_rep m.T m.I m.J)) rfl rfl rfl ?_
          exact kk
        obtain ⟨c, e⟩ := sh_gd e
        refine sh_Lk_lift (T := m.T) (I := m.I) (J := m.J) (s := m.s) (pc2 := 43) (lv2 := [(3, .int y0), (0, .ref 14)]) (st2 := [.int (m.I 17 (Int32.toNatClampNeg y0))]) (I2 := m.I) (J2 := m.J) (fun hT v kk => ?_) ?_
        · refine sh_ia1 (x := m.I 17 (Int32.toNatClampNeg y0)) (pc2 := 39) rfl (sh_s17 hT.st) (sh_okb1 c) (sh_okb2 c) rfl rfl ?_
          refine sh_w (i := (.goto 4)) (len := 3) (pc2 := 43) (lv2 := [(3, .int y0), (0, .ref 14)]) (st2 := [.int (m.I 17 (Int32.toNatClampNeg y0))]) (h2 := (sh_rep m.T m.I m.J)) rfl rfl rfl ?_
          exact kk
        obtain rfl := Option.some.inj e
        obtain ⟨rfl, rfl⟩ := tg
        exact sh_Lk_ret (i := .ireturn) rfl rfl rfl (Nat.le_of_ble_eq_true rfl) (Nat.le_of_ble_eq_true rfl)
      · refine sh_Lk_lift (T := m.T) (I := m.I) (J := m.J) (s := m.s) (pc2 := 43) (lv2 := [(3, .int y0), (0, .ref 14)]) (st2 := [.int 0]) (I2 := m.I) (J2 := m.J) (fun hT v kk => ?_) ?_
        · refine sh_jc (c := .ge) (off := (12)) (pc2 := 42) true rfl (sh_Bget c) rfl ?_
          refine sh_w (i := (.iconst 0)) (len := 1) (pc2 := 43) (lv2 := [(3, .int y0), (0, .ref 14)]) (st2 := [.int 0]) (h2 := (sh_rep m.T m.I m.J)) rfl rfl rfl ?_
          exact kk
        obtain rfl := Option.some.inj e
        obtain ⟨rfl, rfl⟩ := tg
        exact sh_Lk_ret (i := .ireturn) rfl rfl rfl (Nat.le_of_ble_eq_true rfl) (Nat.le_of_ble_eq_true rfl)
  · refine sh_Lk_lift (T := m.T) (I := m.I) (J := m.J) (s := m.s) (pc2 := 22) (lv2 := [(3, .int y0), (0, .ref 19)]) (st2 := [.int y0]) (I2 := m.I) (J2 := m.J) (fun hT v kk => ?_) ?_
    · refine sh_w (i := (.istore_n 3)) (len := 1) (pc2 := 21) (lv2 := [(3, .int y0), (0, .ref 19)]) (st2 := []) (h2 := (sh_rep m.T m.I m.J)) rfl rfl rfl ?_
      refine sh_w (i := (.iload_n 3)) (len := 1) (pc2 := 22) (lv2 := [(3, .int y0), (0, .ref 19)]) (st2 := [.int y0]) (h2 := (sh_rep m.T m.I m.J)) rfl rfl rfl ?_
      exact kk
    rcases sh_ite e with ⟨c, e⟩ | ⟨c, e⟩
    · refine sh_Lk_lift (T := m.T) (I := m.I) (J := m.J) (s := m.s) (pc2 := 43) (lv2 := [(3, .int y0), (0, .ref 19)]) (st2 := [.int 0]) (I2 := m.I) (J2 := m.J) (fun hT v kk => ?_) ?_
      · refine sh_j0 (c := .lt) (off := (20)) (pc2 := 42) true rfl (sh_Bltt c) rfl ?_
        refine sh_w (i := (.iconst 0)) (len := 1) (pc2 := 43) (lv2 := [(3, .int y0), (0, .ref 19)]) (st2 := [.int 0]) (h2 := (sh_rep m.T m.I m.J)) rfl rfl rfl ?_
        exact kk
      obtain rfl := Option.some.inj e
      obtain ⟨rfl, rfl⟩ := tg
      exact sh_Lk_ret (i := .ireturn) rfl rfl rfl (Nat.le_of_ble_eq_true rfl) (Nat.le_of_ble_eq_true rfl)
    · refine sh_Lk_lift (T := m.T) (I := m.I) (J := m.J) (s := m.s) (pc2 := 30) (lv2 := [(3, .int y0), (0, .ref 19)]) (st2 := [.int (m.I 18 5), .int y0]) (I2 := m.I) (J2 := m.J) (fun hT v kk => ?_) ?_
      · refine sh_j0 (c := .lt) (off := (20)) (pc2 := 25) false rfl (sh_Bltf c) rfl ?_
        refine sh_w (i := (.iload_n 3)) (len := 1) (pc2 := 26) (lv2 := [(3, .int y0), (0, .ref 19)]) (st2 := [.int y0]) (h2 := (sh_rep m.T m.I m.J)) rfl rfl rfl ?_
        refine sh_w (i := (.aload_n 0)) (len := 1) (pc2 := 27) (lv2 := [(3, .int y0), (0, .ref 19)]) (st2 := [.ref 19, .int y0]) (h2 := (sh_rep m.T m.I m.J)) rfl rfl rfl ?_
        refine sh_gI1 (len := 3) (x := m.I 18 5) (pc2 := 30) rfl rfl (sh_s18 hT.st) rfl rfl rfl ?_
        exact kk
      rcases sh_ite e with ⟨c, e⟩ | ⟨c, e⟩
      · refine sh_Lk_lift (T := m.T) (I := m.I) (J := m.J) (s := m.s) (pc2 := 38) (lv2 := [(3, .int y0), (0, .ref 19)]) (st2 := [.int y0, .ref 23]) (I2 := m.I) (J2 := m.J) (fun hT v kk => ?_) ?_
        · refine sh_jc (c := .ge) (off := (12)) (pc2 := 33) false rfl (sh_Bgef c) rfl ?_
          refine sh_w (i := (.aload_n 0)) (len := 1) (pc2 := 34) (lv2 := [(3, .int y0), (0, .ref 19)]) (st2 := [.ref 19]) (h2 := (sh_rep m.T m.I m.J)) rfl rfl rfl ?_
          refine sh_gR1 (len := 3) (x := .ref 23) (pc2 := 37) rfl rfl (sh_s18 hT.st) rfl rfl ?_
          refine sh_w (i := (.iload_n 3)) (len := 1) (pc2 := 38) (lv2 := [(3, .int y0), (0, .ref 19)]) (st2 := [.int y0, .ref 23]) (h2 := (sh_rep m.T m.I m.J)) rfl rfl rfl ?_
          exact kk
        obtain ⟨c, e⟩ := sh_gd e
        refine sh_Lk_lift (T := m.T) (I := m.I) (J := m.J) (s := m.s) (pc2 := 43) (lv2 := [(3, .int y0), (0, .ref 19)]) (st2 := [.int (m.I 22 (Int32.toNatClampNeg y0))]) (I2 := m.I) (J2 := m.J) (fun hT v kk => ?_) ?_
        · refine sh_ia1 (x := m.I 22 (Int32.toNatClampNeg y0)) (pc2 := 39) rfl (sh_s22 hT.st) (sh_okb1 c) (sh_okb2 c) rfl rfl ?_
          refine sh_w (i := (.goto 4)) (len := 3) (pc2 := 43) (lv2 := [(3, .int y0), (0, .ref 19)]) (st2 := [.int (m.I 22 (Int32.toNatClampNeg y0))]) (h2 := (sh_rep m.T m.I m.J)) rfl rfl rfl ?_
          exact kk
        obtain rfl := Option.some.inj e
        obtain ⟨rfl, rfl⟩ := tg
        exact sh_Lk_ret (i := .ireturn) rfl rfl rfl (Nat.le_of_ble_eq_true rfl) (Nat.le_of_ble_eq_true rfl)
      · refine sh_Lk_lift (T := m.T) (I := m.I) (J := m.J) (s := m.s) (pc2 := 43) (lv2 := [(3, .int y0), (0, .ref 19)]) (st2 := [.int 0]) (I2 := m.I) (J2 := m.J) (fun hT v kk => ?_) ?_
        · refine sh_jc (c := .ge) (off := (12)) (pc2 := 42) true rfl (sh_Bget c) rfl ?_
          refine sh_w (i := (.iconst 0)) (len := 1) (pc2 := 43) (lv2 := [(3, .int y0), (0, .ref 19)]) (st2 := [.int 0]) (h2 := (sh_rep m.T m.I m.J)) rfl rfl rfl ?_
          exact kk
        obtain rfl := Option.some.inj e
        obtain ⟨rfl, rfl⟩ := tg
        exact sh_Lk_ret (i := .ireturn) rfl rfl rfl (Nat.le_of_ble_eq_true rfl) (Nat.le_of_ble_eq_true rfl)
  · refine sh_Lk_lift (T := m.T) (I := m.I) (J := m.J) (s := m.s) (pc2 := 22) (lv2 := [(3, .int y0), (0, .ref 24)]) (st2 := [.int y0]) (I2 := m.I) (J2 := m.J) (fun hT v kk => ?_) ?_
    · refine sh_w (i := (.istore_n 3)) (len := 1) (pc2 := 21) (lv2 := [(3, .int y0), (0, .ref 24)]) (st2 := []) (h2 := (sh_rep m.T m.I m.J)) rfl rfl rfl ?_
      refine sh_w (i := (.iload_n 3)) (len := 1) (pc2 := 22) (lv2 := [(3, .int y0), (0, .ref 24)]) (st2 := [.int y0]) (h2 := (sh_rep m.T m.I m.J)) rfl rfl rfl ?_
      exact kk
    rcases sh_ite e with ⟨c, e⟩ | ⟨c, e⟩
    · refine sh_Lk_lift (T := m.T) (I := m.I) (J := m.J) (s := m.s) (pc2 := 43) (lv2 := [(3, .int y0), (0, .ref 24)]) (st2 := [.int 0]) (I2 := m.I) (J2 := m.J) (fun hT v kk => ?_) ?_
      · refine sh_j0 (c := .lt) (off := (20)) (pc2 := 42) true rfl (sh_Bltt c) rfl ?_
        refine sh_w (i := (.iconst 0)) (len := 1) (pc2 := 43) (lv2 := [(3, .int y0), (0, .ref 24)]) (st2 := [.int 0]) (h2 := (sh_rep m.T m.I m.J)) rfl rfl rfl ?_
        exact kk
      obtain rfl := Option.some.inj e
      obtain ⟨rfl, rfl⟩ := tg
      exact sh_Lk_ret (i := .ireturn) rfl rfl rfl (Nat.le_of_ble_eq_true rfl) (Nat.le_of_ble_eq_true rfl)
    · refine sh_Lk_lift (T := m.T) (I := m.I) (J := m.J) (s := m.s) (pc2 := 30) (lv2 := [(3, .int y0), (0, .ref 24)]) (st2 := [.int (m.I 23 5), .int y0]) (I2 := m.I) (J2 := m.J) (fun hT v kk => ?_) ?_
      · refine sh_j0 (c := .lt) (off := (20)) (pc2 := 25) false rfl (sh_Bltf c) rfl ?_
        refine sh_w (i := (.iload_n 3)) (len := 1) (pc2 := 26) (lv2 := [(3, .int y0), (0, .ref 24)]) (st2 := [.int y0]) (h2 := (sh_rep m.T m.I m.J)) rfl rfl rfl ?_
        refine sh_w (i := (.aload_n 0)) (len := 1) (pc2 := 27) (lv2 := [(3, .int y0), (0, .ref 24)]) (st2 := [.ref 24, .int y0]) (h2 := (sh_rep m.T m.I m.J)) rfl rfl rfl ?_
        refine sh_gI1 (len := 3) (x := m.I 23 5) (pc2 := 30) rfl rfl (sh_s23 hT.st) rfl rfl rfl ?_
        exact kk
      rcases sh_ite e with ⟨c, e⟩ | ⟨c, e⟩
      · refine sh_Lk_lift (T := m.T) (I := m.I) (J := m.J) (s := m.s) (pc2 := 38) (lv2 := [(3, .int y0), (0, .ref 24)]) (st2 := [.int y0, .ref 28]) (I2 := m.I) (J2 := m.J) (fun hT v kk => ?_) ?_
        · refine sh_jc (c := .ge) (off := (12)) (pc2 := 33) false rfl (sh_Bgef c) rfl ?_
          refine sh_w (i := (.aload_n 0)) (len := 1) (pc2 := 34) (lv2 := [(3, .int y0), (0, .ref 24)]) (st2 := [.ref 24]) (h2 := (sh_rep m.T m.I m.J)) rfl rfl rfl ?_
          refine sh_gR1 (len := 3) (x := .ref 28) (pc2 := 37) rfl rfl (sh_s23 hT.st) rfl rfl ?_
          refine sh_w (i := (.iload_n 3)) (len := 1) (pc2 := 38) (lv2 := [(3, .int y0), (0, .ref 24)]) (st2 := [.int y0, .ref 28]) (h2 := (sh_rep m.T m.I m.J)) rfl rfl rfl ?_
          exact kk
        obtain ⟨c, e⟩ := sh_gd e
        refine sh_Lk_lift (T := m.T) (I := m.I) (J := m.J) (s := m.s) (pc2 := 43) (lv2 := [(3, .int y0), (0, .ref 24)]) (st2 := [.int (m.I 27 (Int32.toNatClampNeg y0))]) (I2 := m.I) (J2 := m.J) (fun hT v kk => ?_) ?_
        · refine sh_ia1 (x := m.I 27 (Int32.toNatClampNeg y0)) (pc2 := 39) rfl (sh_s27 hT.st) (sh_okb1 c) (sh_okb2 c) rfl rfl ?_
          refine sh_w (i := (.goto 4)) (len := 3) (pc2 := 43) (lv2 := [(3, .int y0), (0, .ref 24)]) (st2 := [.int (m.I 27 (Int32.toNatClampNeg y0))]) (h2 := (sh_rep m.T m.I m.J)) rfl rfl rfl ?_
          exact kk
        obtain rfl := Option.some.inj e
        obtain ⟨rfl, rfl⟩ := tg
        exact sh_Lk_ret (i := .ireturn) rfl rfl rfl (Nat.le_of_ble_eq_true rfl) (Nat.le_of_ble_eq_true rfl)
      · refine sh_Lk_lift (T := m.T) (I := m.I) (J := m.J) (s := m.s) (pc2 := 43) (lv2 := [(3, .int y0), (0, .ref 24)]) (st2 := [.int 0]) (I2 := m.I) (J2 := m.J) (fun hT v kk => ?_) ?_
        · refine sh_jc (c := .ge) (off := (12)) (pc2 := 42) true rfl (sh_Bget c) rfl ?_
          refine sh_w (i := (.iconst 0)) (len := 1) (pc2 := 43) (lv2 := [(3, .int y0), (0, .ref 24)]) (st2 := [.int 0]) (h2 := (sh_rep m.T m.I m.J)) rfl rfl rfl ?_
          exact kk
        obtain rfl := Option.some.inj e
        obtain ⟨rfl, rfl⟩ := tg
        exact sh_Lk_ret (i := .ireturn) rfl rfl rfl (Nat.le_of_ble_eq_true rfl) (Nat.le_of_ble_eq_true rfl)
theorem sl_227 {x0 : Nat} {x1 : Int32} {x2 : Int32} {m m2 : sh_X} {o : Outcome} {z : Int32} (hx0 : sh_isE x0) (e : sf_227 x0 x1 x2 m = some z) (tg : (sh_tIc m o m2) z) : sh_Lk 227 0 [(0, .ref (x0 + 1)), (1, .int x1), (2, .int x2)] [] m o m2 9 221 := by
  unfold sf_227 at e
  rcases hx0 with rfl | rfl | rfl
  · refine sh_Lk_lift (T := m.T) (I := m.I) (J := m.J) (s := m.s) (pc2 := 2) (lv2 := [(0, .ref 14), (1, .int x1), (2, .int x2)]) (st2 := [.int x1, .ref 14]) (I2 := m.I) (J2 := m.J) (fun hT v kk => ?_) ?_
    · refine sh_w (i := (.aload_n 0)) (len := 1) (pc2 := 1) (lv2 := [(0, .ref 14), (1, .int x1), (2, .int x2)]) (st2 := [.ref 14]) (h2 := (sh_rep m.T m.I m.J)) rfl rfl rfl ?_
      refine sh_w (i := (.iload_n 1)) (len := 1) (pc2 := 2) (lv2 := [(0, .ref 14), (1, .int x1), (2, .int x2)]) (st2 := [.int x1, .ref 14]) (h2 := (sh_rep m.T m.I m.J)) rfl rfl rfl ?_
      exact kk
    obtain ⟨r1, e1, e⟩ := sh_bc_e e
    refine sh_Lk_cV (r := (some (.int (sh_b2 r1)))) (st2 := [.int (sh_b2 r1)]) (pc2 := 5) (k2 := 228) (a := 13) (as := [.ref 14, .int x1]) (rest := []) rfl rfl rfl (fun hT => (sh_s13 hT.st)) rfl rfl ⟨Nat.le_of_ble_eq_true rfl, Nat.le_of_ble_eq_true rfl⟩ (sl_228 (by decide) e1 ⟨rfl, rfl⟩) rfl rfl (Nat.le_of_ble_eq_true rfl) (Nat.le_of_ble_eq_true rfl) ?_
    rcases sh_ite e with ⟨c, e⟩ | ⟨c, e⟩
    · refine sh_Lk_lift (T := m.T) (I := m.I) (J := m.J) (s := m.s) (pc2 := 13) (lv2 := [(0, .ref 14), (1, .int x1), (2, .int x2)]) (st2 := [.int x1, .ref 15]) (I2 := m.I) (J2 := m.J) (fun hT v kk => ?_) ?_
      · refine sh_j0 (c := .eq) (off := (14)) (pc2 := 8) false rfl (sh_Zeqf c) rfl ?_
        refine sh_w (i := (.aload_n 0)) (len := 1) (pc2 := 9) (lv2 := [(0, .ref 14), (1, .int x1), (2, .int x2)]) (st2 := [.ref 14]) (h2 := (sh_rep m.T m.I m.J)) rfl rfl rfl ?_
        refine sh_gR1 (len := 3) (x := .ref 15) (pc2 := 12) rfl rfl (sh_s13 hT.st) rfl rfl ?_
        refine sh_w (i := (.iload_n 1)) (len := 1) (pc2 := 13) (lv2 := [(0, .ref 14), (1, .int x1), (2, .int x2)]) (st2 := [.int x1, .ref 15]) (h2 := (sh_rep m.T m.I m.J)) rfl rfl rfl ?_
        exact kk
      obtain ⟨c, e⟩ := sh_gd e
      refine sh_Lk_lift (T := m.T) (I := m.I) (J := m.J) (s := m.s) (pc2 := 20) (lv2 := [(0, .ref 14), (1, .int x1), (2, .int x2)]) (st2 := [.int ((m.I 14 (Int32.toNatClampNeg x1)) + x2)]) (I2 := m.I) (J2 := m.J) (fun hT v kk => ?_) ?_
      · refine sh_ia1 (x := m.I 14 (Int32.toNatClampNeg x1)) (pc2 := 14) rfl (sh_s14 hT.st) (sh_okb1 c) (sh_okb2 c) rfl rfl ?_
        refine sh_w (i := (.iload_n 2)) (len := 1) (pc2 := 15) (lv2 := [(0, .ref 14), (1, .int x1), (2, .int x2)]) (st2 := [.int x2, .int (m.I 14 (Int32.toNatClampNeg x1))]) (h2 := (sh_rep m.T m.I m.J)) rfl rfl rfl ?_
        refine sh_w (i := .iadd) (len := 1) (pc2 := 16) (lv2 := [(0, .ref 14), (1, .int x1), (2, .int x2)]) (st2 := [.int ((m.I 14 (Int32.toNatClampNeg x1)) + x2)]) (h2 := (sh_rep m.T m.I m.J)) rfl rfl rfl ?_
        refine sh_w (i := (.goto 4)) (len := 3) (pc2 := 20) (lv2 := [(0, .ref 14), (1, .int x1), (2, .int x2)]) (st2 := [.int ((m.I 14 (Int32.toNatClampNeg x1)) + x2)]) (h2 := (sh_rep m.T m.I m.J)) rfl rfl rfl ?_
        exact kk
      exact sh_Lk_sub (sh_sub_c rfl (sh_sub_n)) (sl_227_20 (by decide) e tg)
    · refine sh_Lk_lift (T := m.T) (I := m.I) (J := m.J) (s := m.s) (pc2 := 20) (lv2 := [(0, .ref 14), (1, .int x1), (2, .int x2)]) (st2 := [.int (-1)]) (I2 := m.I) (J2 := m.J) (fun hT v kk => ?_) ?_
      · refine sh_j0 (c := .eq) (off := (14)) (pc2 := 19) true rfl (sh_Zeqt c) rfl ?_
        refine sh_w (i := (.iconst (-1))) (len := 1) (pc2 := 20) (lv2 := [(0, .ref 14), (1, .int x1), (2, .int x2)]) (st2 := [.int (-1)]) (h2 := (sh_rep m.T m.I m.J)) rfl rfl rfl ?_
        exact kk
      exact sh_Lk_sub (sh_sub_c rfl (sh_sub_n)) (sl_227_20 (by decide) e tg)
  · refine sh_Lk_lift (T := m.T) (I := m.I) (J := m.J) (s := m.s) (pc2 := 2) (lv2 := [(0, .ref 19), (1, .int x1), (2, .int x2)]) (st2 := [.int x1, .ref 19]) (I2 := m.I) (J2 := m.J) (fun hT v kk => ?_) ?_
    · refine sh_w (i := (.aload_n 0)) (len := 1) (pc2 := 1) (lv2 := [(0, .ref 19), (1, .int x1), (2, .int x2)]) (st2 := [.ref 19]) (h2 := (sh_rep m.T m.I m.J)) rfl rfl rfl ?_
      refine sh_w (i := (.iload_n 1)) (len := 1) (pc2 := 2) (lv2 := [(0, .ref 19), (1, .int x1), (2, .int x2)]) (st2 := [.int x1, .ref 19]) (h2 := (sh_rep m.T m.I m.J)) rfl rfl rfl ?_
      exact kk
    obtain ⟨r1, e1, e⟩ := sh_bc_e e
    refine sh_Lk_cV (r := (some (.int (sh_b2 r1)))) (st2 := [.int (sh_b2 r1)]) (pc2 := 5) (k2 := 228) (a := 18) (as := [.ref 19, .int x1]) (rest := []) rfl rfl rfl (fun hT => (sh_s18 hT.st)) rfl rfl ⟨Nat.le_of_ble_eq_true rfl, Nat.le_of_ble_eq_true rfl⟩ (sl_228 (by decide) e1 ⟨rfl, rfl⟩) rfl rfl (Nat.le_of_ble_eq_true rfl) (Nat.le_of_ble_eq_true rfl) ?_
    rcases sh_ite e with ⟨c, e⟩ | ⟨c, e⟩
    · refine sh_Lk_lift (T := m.T) (I := m.I) (J := m.J) (s := m.s) (pc2 := 13) (lv2 := [(0, .ref 19), (1, .int x1), (2, .int x2)]) (st2 := [.int x1, .ref 20]) (I2 := m.I) (J2 := m.J) (fun hT v kk => ?_) ?_
      · refine sh_j0 (c := .eq) (off := (14)) (pc2 := 8) false rfl (sh_Zeqf c) rfl ?_
        refine sh_w (i := (.aload_n 0)) (len := 1) (pc2 := 9) (lv2 := [(0, .ref 19), (1, .int x1), (2, .int x2)]) (st2 := [.ref 19]) (h2 := (sh_rep m.T m.I m.J)) rfl rfl rfl ?_
        refine sh_gR1 (len := 3) (x := .ref 20) (pc2 := 12) rfl rfl (sh_s18 hT.st) rfl rfl ?_
        refine sh_w (i := (.iload_n 1)) (len := 1) (pc2 := 13) (lv2 := [(0, .ref 19), (1, .int x1), (2, .int x2)]) (st2 := [.int x1, .ref 20]) (h2 := (sh_rep m.T m.I m.J)) rfl rfl rfl ?_
        exact kk
      obtain ⟨c, e⟩ := sh_gd e
      refine sh_Lk_lift (T := m.T) (I := m.I) (J := m.J) (s := m.s) (pc2 := 20) (lv2 := [(0, .ref 19), (1, .int x1), (2, .int x2)]) (st2 := [.int ((m.I 19 (Int32.toNatClampNeg x1)) + x2)]) (I2 := m.I) (J2 := m.J) (fun hT v kk => ?_) ?_
      · refine sh_ia1 (x := m.I 19 (Int32.toNatClampNeg x1)) (pc2 := 14) rfl (sh_s19 hT.st) (sh_okb1 c) (sh_okb2 c) rfl rfl ?_
        refine sh_w (i := (.iload_n 2)) (len := 1) (pc2 := 15) (lv2 := [(0, .ref 19), (1, .int x1), (2, .int x2)]) (st2 := [.int x2, .int (m.I 19 (Int32.toNatClampNeg x1))]) (h2 := (sh_rep m.T m.I m.J)) rfl rfl rfl ?_
        refine sh_w (i := .iadd) (len := 1) (pc2 := 16) (lv2 := [(0, .ref 19), (1, .int x1), (2, .int x2)]) (st2 := [.int ((m.I 19 (Int32.toNatClampNeg x1)) + x2)]) (h2 := (sh_rep m.T m.I m.J)) rfl rfl rfl ?_
        refine sh_w (i := (.goto 4)) (len := 3) (pc2 := 20) (lv2 := [(0, .ref 19), (1, .int x1), (2, .int x2)]) (st2 := [.int ((m.I 19 (Int32.toNatClampNeg x1)) + x2)]) (h2 := (sh_rep m.T m.I m.J)) rfl rfl rfl ?_
        exact kk
      exact sh_Lk_sub (sh_sub_c rfl (sh_sub_n)) (sl_227_20 (by decide) e tg)
    · refine sh_Lk_lift (T := m.T) (I := m.I) (J := m.J) (s := m.s) (pc2 := 20) (lv2 := [(0, .ref 19), (1, .int x1), (2, .int x2)]) (st2 := [.int (-1)]) (I2 := m.I) (J2 := m.J) (fun hT v kk => ?_) ?_
      · refine sh_j0 (c := .eq) (off := (14)) (pc2 := 19) true rfl (sh_Zeqt c) rfl ?_
        refine sh_w (i := (.iconst (-1))) (len := 1) (pc2 := 20) (lv2 := [(0, .ref 19), (1, .int x1), (2, .int x2)]) (st2 := [.int (-1)]) (h2 := (sh_rep m.T m.I m.J)) rfl rfl rfl ?_
        exact kk
      exact sh_Lk_sub (sh_sub_c rfl (sh_sub_n)) (sl_227_20 (by decide) e tg)
  · refine sh_Lk_lift (T := m.T) (I := m.I) (J := m.J) (s := m.s) (pc2 := 2) (lv2 := [(0, .ref 24), (1, .int x1), (2, .int x2)]) (st2 := [.int x1, .ref 24]) (I2 := m.I) (J2 := m.J) (fun hT v kk => ?_) ?_
    · refine sh_w (i := (.aload_n 0)) (len := 1) (pc2 := 1) (lv2 := [(0, .ref 24), (1, .int x1), (2, .int x2)]) (st2 := [.ref 24]) (h2 := (sh_rep m.T m.I m.J)) rfl rfl rfl ?_
      refine sh_w (i := (.iload_n 1)) (len := 1) (pc2 := 2) (lv2 := [(0, .ref 24), (1, .int x1), (2, .int x2)]) (st2 := [.int x1, .ref 24]) (h2 := (sh_rep m.T m.I m.J)) rfl rfl rfl ?_
      exact kk
    obtain ⟨r1, e1, e⟩ := sh_bc_e e
    refine sh_Lk_cV (r := (some (.int (sh_b2 r1)))) (st2 := [.int (sh_b2 r1)]) (pc2 := 5) (k2 := 228) (a := 23) (as := [.ref 24, .int x1]) (rest := []) rfl rfl rfl (fun hT => (sh_s23 hT.st)) rfl rfl ⟨Nat.le_of_ble_eq_true rfl, Nat.le_of_ble_eq_true rfl⟩ (sl_228 (by decide) e1 ⟨rfl, rfl⟩) rfl rfl (Nat.le_of_ble_eq_true rfl) (Nat.le_of_ble_eq_true rfl) ?_
    rcases sh_ite e with ⟨c, e⟩ | ⟨c, e⟩
    · refine sh_Lk_lift (T := m.T) (I := m.I) (J := m.J) (s := m.s) (pc2 := 13) (lv2 := [(0, .ref 24), (1, .int x1), (2, .int x2)]) (st2 := [.int x1, .ref 25]) (I2 := m.I) (J2 := m.J) (fun hT v kk => ?_) ?_
      · refine sh_j0 (c := .eq) (off := (14)) (pc2 := 8) false rfl (sh_Zeqf c) rfl ?_
        refine sh_w (i := (.aload_n 0)) (len := 1) (pc2 := 9) (lv2 := [(0, .ref 24), (1, .int x1), (2, .int x2)]) (st2 := [.ref 24]) (h2 := (sh_rep m.T m.I m.J)) rfl rfl rfl ?_
        refine sh_gR1 (len := 3) (x := .ref 25) (pc2 := 12) rfl rfl (sh_s23 hT.st) rfl rfl ?_
        refine sh_w (i := (.iload_n 1)) (len := 1) (pc2 := 13) (lv2 := [(0, .ref 24), (1, .int x1), (2, .int x2)]) (st2 := [.int x1, .ref 25]) (h2 := (sh_rep m.T m.I m.J)) rfl rfl rfl ?_
        exact kk
      obtain ⟨c, e⟩ := sh_gd e
      refine sh_Lk_lift (T := m.T) (I := m.I) (J := m.J) (s := m.s) (pc2 := 20) (lv2 := [(0, .ref 24), (1, .int x1), (2, .int x2)]) (st2 := [.int ((m.I 24 (Int32.toNatClampNeg x1)) + x2)]) (I2 := m.I) (J2 := m.J) (fun hT v kk => ?_) ?_
      · refine sh_ia1 (x := m.I 24 (Int32.toNatClampNeg x1)) (pc2 := 14) rfl (sh_s24 hT.st) (sh_okb1 c) (sh_okb2 c) rfl rfl ?_
        refine sh_w (i := (.iload_n 2)) (len := 1) (pc2 := 15) (lv2 := [(0, .ref 24), (1, .int x1), (2, .int x2)]) (st2 := [.int x2, .int (m.I 24 (Int32.toNatClampNeg x1))]) (h2 := (sh_rep m.T m.I m.J)) rfl rfl rfl ?_
        refine sh_w (i := .iadd) (len := 1) (pc2 := 16) (lv2 := [(0, .ref 24), (1, .int x1), (2, .int x2)]) (st2 := [.int ((m.I 24 (Int32.toNatClampNeg x1)) + x2)]) (h2 := (sh_rep m.T m.I m.J)) rfl rfl rfl ?_
        refine sh_w (i := (.goto 4)) (len := 3) (pc2 := 20) (lv2 := [(0, .ref 24), (1, .int x1), (2, .int x2)]) (st2 := [.int ((m.I 24 (Int32.toNatClampNeg x1)) + x2)]) (h2 := (sh_rep m.T m.I m.J)) rfl rfl rfl ?_
        exact kk
      exact sh_Lk_sub (sh_sub_c rfl (sh_sub_n)) (sl_227_20 (by decide) e tg)
    · refine sh_Lk_lift (T := m.T) (I := m.I) (J := m.J) (s := m.s) (pc2 := 20) (lv2 := [(0, .ref 24), (1, .int x1), (2, .int x2)]) (st2 := [.int (-1)]) (I2 := m.I) (J2 := m.J) (fun hT v kk => ?_) ?_
      · refine sh_j0 (c := .eq) (off := (14)) (pc2 := 19) true rfl (sh_Zeqt c) rfl ?_
        refine sh_w (i := (.iconst (-1))) (len := 1) (pc2 := 20) (lv2 := [(0, .ref 24), (1, .int x1), (2, .int x2)]) (st2 := [.int (-1)]) (h2 := (sh_rep m.T m.I m.J)) rfl rfl rfl ?_
        exact kk
      exact sh_Lk_sub (sh_sub_c rfl (sh_sub_n)) (sl_227_20 (by decide) e tg)
theorem sl_226_81 {x2 : Int32} {x3 : Int32} {m m2 : sh_X} {o : Outcome} {z : ((Int32 × sh_X) ⊕ ((Int32 × sh_X) ⊕ (Unit × sh_X)))} (e : sf_226_81 x2 x3 m = some z) (tg : (sh_el (fun q => sh_Lk 226 12 [(0, .ref 62), (1, .ref 14), (2, .int x2), (3, .int q.1)] [] q.2 o m2 10 244) (sh_el (fun q => sh_Lk 226 2 [(0, .ref 62), (1, .ref 14), (2, .int q.1)] [] q.2 o m2 10 244) (sh_tV o m2))) z) : sh_Lk 226 81 [(0, .ref 62), (1, .ref 14), (2, .int x2), (3, .int x3)] [] m o m2 10 244 := by
  unfold sf_226_81 at e
  refine sh_Lk_lift (T := m.T) (I := m.I) (J := m.J) (s := m.s) (pc2 := 12) (lv2 := [(3, .int (x3 + 1)), (0, .ref 62), (1, .ref 14), (2, .int x2)]) (st2 := []) (I2 := m.I) (J2 := m.J) (fun hT v kk => ?_) ?_
  · refine sh_w (i := (.iinc 3 1)) (len := 3) (pc2 := 84) (lv2 := [(3, .int (x3 + 1)), (0, .ref 62), (1, .ref 14), (2, .int x2)]) (st2 := []) (h2 := (sh_rep m.T m.I m.J)) rfl rfl rfl ?_
    refine sh_w (i := (.goto (-72))) (len := 3) (pc2 := 12) (lv2 := [(3, .int (x3 + 1)), (0, .ref 62), (1, .ref 14), (2, .int x2)]) (st2 := []) (h2 := (sh_rep m.T m.I m.J)) rfl rfl rfl ?_
    exact kk
  obtain rfl := Option.some.inj e
  exact sh_Lk_sub (sh_sub_c rfl (sh_sub_c rfl (sh_sub_c rfl (sh_sub_c rfl (sh_sub_n))))) tg
theorem sl_226_12s {x2 : Int32} {x3 : Int32} {m m2 : sh_X} {o : Outcome} {z : ((Int32 × sh_X) ⊕ ((Int32 × sh_X) ⊕ (Unit × sh_X)))} (e : sf_226_12s x2 x3 m = some z) (tg : (sh_el (fun q => sh_Lk 226 12 [(0, .ref 62), (1, .ref 14), (2, .int x2), (3, .int q.1)] [] q.2 o m2 10 244) (sh_el (fun q => sh_Lk 226 2 [(0, .ref 62), (1, .ref 14), (2, .int q.1)] [] q.2 o m2 10 244) (sh_tV o m2))) z) : sh_Lk 226 12 [(0, .ref 62), (1, .ref 14), (2, .int x2), (3, .int x3)] [] m o m2 10 244 := by
  unfold sf_226_12s at e
  refine sh_Lk_lift (T := m.T) (I := m.I) (J := m.J) (s := m.s) (pc2 := 18) (lv2 := [(0, .ref 62), (1, .ref 14), (2, .int x2), (3, .int x3)]) (st2 := [.int x2, .ref 16, .int x3]) (I2 := m.I) (J2 := m.J) (fun hT v kk => ?_) ?_
  · refine sh_w (i := (.iload_n 3)) (len := 1) (pc2 := 13) (lv2 := [(0, .ref 62), (1, .ref 14), (2, .int x2), (3, .int x3)]) (st2 := [.int x3]) (h2 := (sh_rep m.T m.I m.J)) rfl rfl rfl ?_
    refine sh_w (i := (.aload_n 1)) (len := 1) (pc2 := 14) (lv2 := [(0, .ref 62), (1, .ref 14), (2, .int x2), (3, .int x3)]) (st2 := [.ref 14, .int x3]) (h2 := (sh_rep m.T m.I m.J)) rfl rfl rfl ?_
    refine sh_gR1 (len := 3) (x := .ref 16) (pc2 := 17) rfl rfl (sh_s13 hT.st) rfl rfl ?_
    refine sh_w (i := (.iload_n 2)) (len := 1) (pc2 := 18) (lv2 := [(0, .ref 62), (1, .ref 14), (2, .int x2), (3, .int x3)]) (st2 := [.int x2, .ref 16, .int x3]) (h2 := (sh_rep m.T m.I m.J)) rfl rfl rfl ?_
    exact kk
  obtain ⟨c, e⟩ := sh_gd e
  refine sh_Lk_lift (T := m.T) (I := m.I) (J := m.J) (s := m.s) (pc2 := 19) (lv2 := [(0, .ref 62), (1, .ref 14), (2, .int x2), (3, .int x3)]) (st2 := [.int (m.I 15 (Int32.toNatClampNeg x2)), .int x3]) (I2 := m.I) (J2 := m.J) (fun hT v kk => ?_) ?_
  · refine sh_ia1 (x := m.I 15 (Int32.toNatClampNeg x2)) (pc2 := 19) rfl (sh_s15 hT.st) (sh_okb1 c) (sh_okb2 c) rfl rfl ?_
    exact kk
  rcases sh_ite e with ⟨c, e⟩ | ⟨c, e⟩
  · refine sh_Lk_lift (T := m.T) (I := m.I) (J := m.J) (s := m.s) (pc2 := 25) (lv2 := [(0, .ref 62), (1, .ref 14), (2, .int x2), (3, .int x3)]) (st2 := [.int x3, .int x2, .ref 14]) (I2 := m.I) (J2 := m.J) (fun hT v kk => ?_) ?_
    · refine sh_jc (c := .ge) (off := (68)) (pc2 := 22) false rfl (sh_Bgef c) rfl ?_
      refine sh_w (i := (.aload_n 1)) (len := 1) (pc2 := 23) (lv2 := [(0, .ref 62), (1, .ref 14), (2, .int x2), (3, .int x3)]) (st2 := [.ref 14]) (h2 := (sh_rep m.T m.I m.J)) rfl rfl rfl ?_
      refine sh_w (i := (.iload_n 2)) (len := 1) (pc2 := 24) (lv2 := [(0, .ref 62), (1, .ref 14), (2, .int x2), (3, .int x3)]) (st2 := [.int x2, .ref 14]) (h2 := (sh_rep m.T m.I m.J)) rfl rfl rfl ?_
      refine sh_w (i := (.iload_n 3)) (len := 1) (pc2 := 25) (lv2 := [(0, .ref 62), (1, .ref 14), (2, .int x2), (3, .int x3)]) (st2 := [.int x3, .int x2, .ref 14]) (h2 := (sh_rep m.T m.I m.J)) rfl rfl rfl ?_
      exact kk
    obtain ⟨r1, e1, e⟩ := sh_bc_e e
    refine sh_Lk_cV (r := (some (.int r1))) (st2 := [.int r1]) (pc2 := 28) (k2 := 227) (a := 13) (as := [.ref 14, .int x2, .int x3]) (rest := []) rfl rfl rfl (fun hT => (sh_s13 hT.st)) rfl rfl ⟨Nat.le_of_ble_eq_true rfl, Nat.le_of_ble_eq_true rfl⟩ (sl_227 (by decide) e1 ⟨rfl, rfl⟩) rfl rfl (Nat.le_of_ble_eq_true rfl) (Nat.le_of_ble_eq_true rfl) ?_
    refine sh_Lk_lift (T := m.T) (I := m.I) (J := m.J) (s := m.s) (pc2 := 33) (lv2 := [(4, .int r1), (0, .ref 62), (1, .ref 14), (2, .int x2), (3, .int x3)]) (st2 := [.int r1, .ref 62]) (I2 := m.I) (J2 := m.J) (fun hT v kk => ?_) ?_
    · refine sh_w (i := (.istore 4)) (len := 2) (pc2 := 30) (lv2 := [(4, .int r1), (0, .ref 62), (1, .ref 14), (2, .int x2), (3, .int x3)]) (st2 := []) (h2 := (sh_rep m.T m.I m.J)) rfl rfl rfl ?_
      refine sh_w (i := (.aload_n 0)) (len := 1) (pc2 := 31) (lv2 := [(4, .int r1), (0, .ref 62), (1, .ref 14), (2, .int x2), (3, .int x3)]) (st2 := [.ref 62]) (h2 := (sh_rep m.T m.I m.J)) rfl rfl rfl ?_
      refine sh_w (i := (.iload 4)) (len := 2) (pc2 := 33) (lv2 := [(4, .int r1), (0, .ref 62), (1, .ref 14), (2, .int x2), (3, .int x3)]) (st2 := [.int r1, .ref 62]) (h2 := (sh_rep m.T m.I m.J)) rfl rfl rfl ?_
      exact kk
    obtain ⟨r2, e2, e⟩ := sh_bc_e e
    refine sh_Lk_cV (r := (some (.int (sh_b2 r2)))) (st2 := [.int (sh_b2 r2)]) (pc2 := 36) (k2 := 225) (a := 61) (as := [.ref 62, .int r1]) (rest := []) rfl rfl rfl (fun hT => hT.t61) rfl rfl ⟨Nat.le_of_ble_eq_true rfl, Nat.le_of_ble_eq_true rfl⟩ (sl_225 e2 ⟨rfl, rfl⟩) rfl rfl (Nat.le_of_ble_eq_true rfl) (Nat.le_of_ble_eq_true rfl) ?_
    rcases sh_ite e with ⟨c, e⟩ | ⟨c, e⟩
    · refine sh_Lk_lift (T := m.T) (I := m.I) (J := m.J) (s := m.s) (pc2 := 47) (lv2 := [(4, .int r1), (0, .ref 62), (1, .ref 14), (2, .int x2), (3, .int x3)]) (st2 := [.int 0, .ref 62, .int r1, .ref ((sh_rf m.T 61 3) + 1)]) (I2 := m.I) (J2 := m.J) (fun hT v kk => ?_) ?_
      · refine sh_j0 (c := .eq) (off := (45)) (pc2 := 39) false rfl (sh_Zeqf c) rfl ?_
        refine sh_w (i := (.aload_n 0)) (len := 1) (pc2 := 40) (lv2 := [(4, .int r1), (0, .ref 62), (1, .ref 14), (2, .int x2), (3, .int x3)]) (st2 := [.ref 62]) (h2 := (sh_rep m.T m.I m.J)) rfl rfl rfl ?_
        refine sh_gR1 (len := 3) (x := .ref (sh_rf m.T 61 3 + 1)) (pc2 := 43) rfl rfl hT.t61 rfl rfl ?_
        refine sh_w (i := (.iload 4)) (len := 2) (pc2 := 45) (lv2 := [(4, .int r1), (0, .ref 62), (1, .ref 14), (2, .int x2), (3, .int x3)]) (st2 := [.int r1, .ref ((sh_rf m.T 61 3) + 1)]) (h2 := (sh_rep m.T m.I m.J)) rfl rfl rfl ?_
        refine sh_w (i := (.aload_n 0)) (len := 1) (pc2 := 46) (lv2 := [(4, .int r1), (0, .ref 62), (1, .ref 14), (2, .int x2), (3, .int x3)]) (st2 := [.ref 62, .int r1, .ref ((sh_rf m.T 61 3) + 1)]) (h2 := (sh_rep m.T m.I m.J)) rfl rfl rfl ?_
        refine sh_w (i := (.iconst 0)) (len := 1) (pc2 := 47) (lv2 := [(4, .int r1), (0, .ref 62), (1, .ref 14), (2, .int x2), (3, .int x3)]) (st2 := [.int 0, .ref 62, .int r1, .ref ((sh_rf m.T 61 3) + 1)]) (h2 := (sh_rep m.T m.I m.J)) rfl rfl rfl ?_
        exact kk
      obtain ⟨r3, m13, e3, e⟩ := sh_bn_e e
      refine sh_Lk_cVk (r := (some (.long r3))) (st2 := [.long r3, .int r1, .ref ((sh_rf m.T 61 3) + 1)]) (pc2 := 50) (k2 := 222) (a := 61) (as := [.ref 62, .int 0]) (rest := [.int r1, .ref ((sh_rf m.T 61 3) + 1)]) rfl rfl rfl (fun hT => hT.t61) rfl rfl ⟨Nat.le_of_ble_eq_true rfl, Nat.le_of_ble_eq_true rfl⟩ (sl_222 e3 ⟨rfl, rfl⟩) rfl rfl (Nat.le_of_ble_eq_true rfl) (Nat.le_of_ble_eq_true rfl) (fun hD3 hp3 => ?_)
      obtain ⟨c, e⟩ := sh_gd e
      refine sh_Lk_lift (T := m13.T) (I := m13.I) (J := m13.J) (s := m13.s) (pc2 := 63) (lv2 := [(4, .int r1), (0, .ref 62), (1, .ref 14), (2, .int x2), (3, .int x3)]) (st2 := [.int r1, .ref ((sh_rf m13.T 61 3) + 1), .int r1, .ref ((sh_rf m13.T 61 4) + 1)]) (I2 := m13.I) (J2 := sh_u2 m13.J (sh_rf m.T 61 3) (Int32.toNatClampNeg r1) r3) (fun hT v kk => ?_) ?_
      · refine sh_ls1 (x := r3) (i := r1) (pc2 := 51) rfl (hp3 _ _ hD3.a61_3) (sh_okb1 c) (sh_okb2 c) rfl ?_
        refine sh_w (i := (.aload_n 0)) (len := 1) (pc2 := 52) (lv2 := [(4, .int r1), (0, .ref 62), (1, .ref 14), (2, .int x2), (3, .int x3)]) (st2 := [.ref 62]) (h2 := (sh_rep m13.T m13.I (sh_u2 m13.J (sh_rf m.T 61 3) (Int32.toNatClampNeg r1) r3))) rfl rfl rfl ?_
        refine sh_gR1 (len := 3) (x := .ref (sh_rf m13.T 61 4 + 1)) (pc2 := 55) rfl rfl hT.t61 rfl rfl ?_
        refine sh_w (i := (.iload 4)) (len := 2) (pc2 := 57) (lv2 := [(4, .int r1), (0, .ref 62), (1, .ref 14), (2, .int x2), (3, .int x3)]) (st2 := [.int r1, .ref ((sh_rf m13.T 61 4) + 1)]) (h2 := (sh_rep m13.T m13.I (sh_u2 m13.J (sh_rf m.T 61 3) (Int32.toNatClampNeg r1) r3))) rfl rfl rfl ?_
        refine sh_w (i := (.aload_n 0)) (len := 1) (pc2 := 58) (lv2 := [(4, .int r1), (0, .ref 62), (1, .ref 14), (2, .int x2), (3, .int x3)]) (st2 := [.ref 62, .int r1, .ref ((sh_rf m13.T 61 4) + 1)]) (h2 := (sh_rep m13.T m13.I (sh_u2 m13.J (sh_rf m.T 61 3) (Int32.toNatClampNeg r1) r3))) rfl rfl rfl ?_
        refine sh_gR1 (len := 3) (x := .ref (sh_rf m13.T 61 3 + 1)) (pc2 := 61) rfl rfl hT.t61 rfl rfl ?_
        refine sh_w (i := (.iload 4)) (len := 2) (pc2 := 63) (lv2 := [(4, .int r1), (0, .ref 62), (1, .ref 14), (2, .int x2), (3, .int x3)]) (st2 := [.int r1, .ref ((sh_rf m13.T 61 3) + 1), .int r1, .ref ((sh_rf m13.T 61 4) + 1)]) (h2 := (sh_rep m13.T m13.I (sh_u2 m13.J (sh_rf m.T 61 3) (Int32.toNatClampNeg r1) r3))) rfl rfl rfl ?_
        exact kk
      obtain ⟨c, e⟩ := sh_gd e
      refine sh_Lk_lift (T := m13.T) (I := m13.I) (J := sh_u2 m13.J (sh_rf m.T 61 3) (Int32.toNatClampNeg r1) r3) (s := m13.s) (pc2 := 69) (lv2 := [(4, .int r1), (0, .ref 62), (1, .ref 14), (2, .int x2), (3, .int x3)]) (st2 := [.int x2, .ref 17, .long ((sh_u2 m13.J (sh_rf m.T 61 3) (Int32.toNatClampNeg r1) r3) (sh_rf m13.T 61 3) (Int32.toNatClampNeg r1)), .int r1, .ref ((sh_rf m13.T 61 4) + 1)]) (I2 := m13.I) (J2 := sh_u2 m13.J (sh_rf m.T 61 3) (Int32.toNatClampNeg r1) r3) (fun hT v kk => ?_) ?_
      · refine sh_la1 (x := (sh_u2 m13.J (sh_rf m.T 61 3) (Int32.toNatClampNeg r1) r3) (sh_rf m13.T 61 3) (Int32.toNatClampNeg r1)) (pc2 := 64) rfl hT.a61_3 (sh_okb1 c) (sh_okb2 c) rfl rfl ?_
        refine sh_w (i := (.aload_n 1)) (len := 1) (pc2 := 65) (lv2 := [(4, .int r1), (0, .ref 62), (1, .ref 14), (2, .int x2), (3, .int x3)]) (st2 := [.ref 14, .long ((sh_u2 m13.J (sh_rf m.T 61 3) (Int32.toNatClampNeg r1) r3) (sh_rf m13.T 61 3) (Int32.toNatClampNeg r1)), .int r1, .ref ((sh_rf m13.T 61 4) + 1)]) (h2 := (sh_rep m13.T m13.I (sh_u2 m13.J (sh_rf m.T 61 3) (Int32.toNatClampNeg r1) r3))) rfl rfl rfl ?_
        refine sh_gR1 (len := 3) (x := .ref 17) (pc2 := 68) rfl rfl (sh_s13 hT.st) rfl rfl ?_
        refine sh_w (i := (.iload_n 2)) (len := 1) (pc2 := 69) (lv2 := [(4, .int r1), (0, .ref 62), (1, .ref 14), (2, .int x2), (3, .int x3)]) (st2 := [.int x2, .ref 17, .long ((sh_u2 m13.J (sh_rf m.T 61 3) (Int32.toNatClampNeg r1) r3) (sh_rf m13.T 61 3) (Int32.toNatClampNeg r1)), .int r1, .ref ((sh_rf m13.T 61 4) + 1)]) (h2 := (sh_rep m13.T m13.I (sh_u2 m13.J (sh_rf m.T 61 3) (Int32.toNatClampNeg r1) r3))) rfl rfl rfl ?_
        exact kk
      obtain ⟨c, e⟩ := sh_gd e
      refine sh_Lk_lift (T := m13.T) (I := m13.I) (J := sh_u2 m13.J (sh_rf m.T 61 3) (Int32.toNatClampNeg r1) r3) (s := m13.s) (pc2 := 80) (lv2 := [(4, .int r1), (0, .ref 62), (1, .ref 14), (2, .int x2), (3, .int x3)]) (st2 := [.long (((sh_u2 m13.J (sh_rf m.T 61 3) (Int32.toNatClampNeg r1) r3) (sh_rf m13.T 61 3) (Int32.toNatClampNeg r1)) ^^^ ((((((sh_u2 m13.J (sh_rf m.T 61 3) (Int32.toNatClampNeg r1) r3) 16 (Int32.toNatClampNeg x2)).toUInt64 >>> ((Int32.toInt64 x3).toUInt64 &&& Int64.toUInt64 63)).toInt64) &&& (1 : Int64)) * ((sh_u2 m13.J (sh_rf m.T 61 3) (Int32.toNatClampNeg r1) r3) 61 5))), .int r1, .ref ((sh_rf m13.T 61 4) + 1)]) (I2 := m13.I) (J2 := sh_u2 m13.J (sh_rf m.T 61 3) (Int32.toNatClampNeg r1) r3) (fun hT v kk => ?_) ?_
      · refine sh_la1 (x := (sh_u2 m13.J (sh_rf m.T 61 3) (Int32.toNatClampNeg r1) r3) 16 (Int32.toNatClampNeg x2)) (pc2 := 70) rfl (sh_s16 hT.st) (sh_okb1 c) (sh_okb2 c) rfl rfl ?_
        refine sh_w (i := (.iload_n 3)) (len := 1) (pc2 := 71) (lv2 := [(4, .int r1), (0, .ref 62), (1, .ref 14), (2, .int x2), (3, .int x3)]) (st2 := [.int x3, .long ((sh_u2 m13.J (sh_rf m.T 61 3) (Int32.toNatClampNeg r1) r3) 16 (Int32.toNatClampNeg x2)), .long ((sh_u2 m13.J (sh_rf m.T 61 3) (Int32.toNatClampNeg r1) r3) (sh_rf m13.T 61 3) (Int32.toNatClampNeg r1)), .int r1, .ref ((sh_rf m13.T 61 4) + 1)]) (h2 := (sh_rep m13.T m13.I (sh_u2 m13.J (sh_rf m.T 61 3) (Int32.toNatClampNeg r1) r3))) rfl rfl rfl ?_
        refine sh_w (i := .lushr) (len := 1) (pc2 := 72) (lv2 := [(4, .int r1), (0, .ref 62), (1, .ref 14), (2, .int x2), (3, .int x3)]) (st2 := [.long ((((sh_u2 m13.J (sh_rf m.T 61 3) (Int32.toNatClampNeg r1) r3) 16 (Int32.toNatClampNeg x2)).toUInt64 >>> ((Int32.toInt64 x3).toUInt64 &&& Int64.toUInt64 63)).toInt64), .long ((sh_u2 m13.J (sh_rf m.T 61 3) (Int32.toNatClampNeg r1) r3) (sh_rf m13.T 61 3) (Int32.toNatClampNeg r1)), .int r1, .ref ((sh_rf m13.T 61 4) + 1)]) (h2 := (sh_rep m13.T m13.I (sh_u2 m13.J (sh_rf m.T 61 3) (Int32.toNatClampNeg r1) r3))) rfl rfl rfl ?_
        refine sh_w (i := (.lconst 1)) (len := 1) (pc2 := 73) (lv2 := [(4, .int r1), (0, .ref 62), (1, .ref 14), (2, .int x2), (3, .int x3)]) (st2 := [.long 1, .long ((((sh_u2 m13.J (sh_rf m.T 61 3) (Int32.toNatClampNeg r1) r3) 16 (Int32.toNatClampNeg x2)).toUInt64 >>> ((Int32.toInt64 x3).toUInt64 &&& Int64.toUInt64 63)).toInt64), .long ((sh_u2 m13.J (sh_rf m.T 61 3) (Int32.toNatClampNeg r1) r3) (sh_rf m13.T 61 3) (Int32.toNatClampNeg r1)), .int r1, .ref ((sh_rf m13.T 61 4) + 1)]) (h2 := (sh_rep m13.T m13.I (sh_u2 m13.J (sh_rf m.T 61 3) (Int32.toNatClampNeg r1) r3))) rfl rfl rfl ?_
        refine sh_w (i := .land) (len := 1) (pc2 := 74) (lv2 := [(4, .int r1), (0, .ref 62), (1, .ref 14), (2, .int x2), (3, .int x3)]) (st2 := [.long (((((sh_u2 m13.J (sh_rf m.T 61 3) (Int32.toNatClampNeg r1) r3) 16 (Int32.toNatClampNeg x2)).toUInt64 >>> ((Int32.toInt64 x3).toUInt64 &&& Int64.toUInt64 63)).toInt64) &&& (1 : Int64)), .long ((sh_u2 m13.J (sh_rf m.T 61 3) (Int32.toNatClampNeg r1) r3) (sh_rf m13.T 61 3) (Int32.toNatClampNeg r1)), .int r1, .ref ((sh_rf m13.T 61 4) + 1)]) (h2 := (sh_rep m13.T m13.I (sh_u2 m13.J (sh_rf m.T 61 3) (Int32.toNatClampNeg r1) r3))) rfl rfl rfl ?_
        refine sh_w (i := (.aload_n 0)) (len := 1) (pc2 := 75) (lv2 := [(4, .int r1), (0, .ref 62), (1, .ref 14), (2, .int x2), (3, .int x3)]) (st2 := [.ref 62, .long (((((sh_u2 m13.J (sh_rf m.T 61 3) (Int32.toNatClampNeg r1) r3) 16 (Int32.toNatClampNeg x2)).toUInt64 >>> ((Int32.toInt64 x3).toUInt64 &&& Int64.toUInt64 63)).toInt64) &&& (1 : Int64)), .long ((sh_u2 m13.J (sh_rf m.T 61 3) (Int32.toNatClampNeg r1) r3) (sh_rf m13.T 61 3) (Int32.toNatClampNeg r1)), .int r1, .ref ((sh_rf m13.T 61 4) + 1)]) (h2 := (sh_rep m13.T m13.I (sh_u2 m13.J (sh_rf m.T 61 3) (Int32.toNatClampNeg r1) r3))) rfl rfl rfl ?_
        refine sh_gJ1 (len := 3) (x := (sh_u2 m13.J (sh_rf m.T 61 3) (Int32.toNatClampNeg r1) r3) 61 5) (pc2 := 78) rfl rfl hT.t61 rfl rfl rfl ?_
        refine sh_w (i := .lmul) (len := 1) (pc2 := 79) (lv2 := [(4, .int r1), (0, .ref 62), (1, .ref 14), (2, .int x2), (3, .int x3)]) (st2 := [.long ((((((sh_u2 m13.J (sh_rf m.T 61 3) (Int32.toNatClampNeg r1) r3) 16 (Int32.toNatClampNeg x2)).toUInt64 >>> ((Int32.toInt64 x3).toUInt64 &&& Int64.toUInt64 63)).toInt64) &&& (1 : Int64)) * ((sh_u2 m13.J (sh_rf m.T 61 3) (Int32.toNatClampNeg r1) r3) 61 5)), .long ((sh_u2 m13.J (sh_rf m.T 61 3) (Int32.toNatClampNeg r1) r3) (sh_rf m13.T 61 3) (Int32.toNatClampNeg r1)), .int r1, .ref ((sh_rf m13.T 61 4) + 1)]) (h2 := (sh_rep m13.T m13.I (sh_u2 m13.J (sh_rf m.T 61 3) (Int32.toNatClampNeg r1) r3))) rfl rfl rfl ?_
        refine sh_w (i := .lxor) (len := 1) (pc2 := 80) (lv2 := [(4, .int r1), (0, .ref 62), (1, .ref 14), (2, .int x2), (3, .int x3)]) (st2 := [.long (((sh_u2 m13.J (sh_rf m.T 61 3) (Int32.toNatClampNeg r1) r3) (sh_rf m13.T 61 3) (Int32.toNatClampNeg r1)) ^^^ ((((((sh_u2 m13.J (sh_rf m.T 61 3) (Int32.toNatClampNeg r1) r3) 16 (Int32.toNatClampNeg x2)).toUInt64 >>> ((Int32.toInt64 x3).toUInt64 &&& Int64.toUInt64 63)).toInt64) &&& (1 : Int64)) * ((sh_u2 m13.J (sh_rf m.T 61 3) (Int32.toNatClampNeg r1) r3) 61 5))), .int r1, .ref ((sh_rf m13.T 61 4) + 1)]) (h2 := (sh_rep m13.T m13.I (sh_u2 m13.J (sh_rf m.T 61 3) (Int32.toNatClampNeg r1) r3))) rfl rfl rfl ?_
        exact kk
      obtain ⟨c, e⟩ := sh_gd e
      refine sh_Lk_lift (T := m13.T) (I := m13.I) (J := sh_u2 m13.J (sh_rf m.T 61 3) (Int32.toNatClampNeg r1) r3) (s := m13.s) (pc2 := 81) (lv2 := [(4, .int r1), (0, .ref 62), (1, .ref 14), (2, .int x2), (3, .int x3)]) (st2 := []) (I2 := m13.I) (J2 := sh_u2 (sh_u2 m13.J (sh_rf m.T 61 3) (Int32.toNatClampNeg r1) r3) (sh_rf m13.T 61 4) (Int32.toNatClampNeg r1) (((sh_u2 m13.J (sh_rf m.T 61 3) (Int32.toNatClampNeg r1) r3) (sh_rf m13.T 61 3) (Int32.toNatClampNeg r1)) ^^^ ((((((sh_u2 m13.J (sh_rf m.T 61 3) (Int32.toNatClampNeg r1) r3) 16 (Int32.toNatClampNeg x2)).toUInt64 >>> ((Int32.toInt64 x3).toUInt64 &&& Int64.toUInt64 63)).toInt64) &&& (1 : Int64)) * ((sh_u2 m13.J (sh_rf m.T 61 3) (Int32.toNatClampNeg r1) r3) 61 5)))) (fun hT v kk => ?_) ?_
      · refine sh_ls1 (x := ((sh_u2 m13.J (sh_rf m.T 61 3) (Int32.toNatClampNeg r1) r3) (sh_rf m13.T 61 3) (Int32.toNatClampNeg r1)) ^^^ ((((((sh_u2 m13.J (sh_rf m.T 61 3) (Int32.toNatClampNeg r1) r3) 16 (Int32.toNatClampNeg x2)).toUInt64 >>> ((Int32.toInt64 x3).toUInt64 &&& Int64.toUInt64 63)).toInt64) &&& (1 : Int64)) * ((sh_u2 m13.J (sh_rf m.T 61 3) (Int32.toNatClampNeg r1) r3) 61 5))) (i := r1) (pc2 := 81) rfl hT.a61_4 (sh_okb1 c) (sh_okb2 c) rfl ?_
        exact kk
      exact sh_Lk_sub (sh_sub_c rfl (sh_sub_c rfl (sh_sub_c rfl (sh_sub_c rfl (sh_sub_n))))) (sl_226_81 e tg)
    · refine sh_Lk_lift (T := m.T) (I := m.I) (J := m.J) (s := m.s) (pc2 := 81) (lv2 := [(4, .int r1), (0, .ref 62), (1, .ref 14), (2, .int x2), (3, .int x3)]) (st2 := []) (I2 := m.I) (J2 := m.J) (fun hT v kk => ?_) ?_
      · refine sh_j0 (c := .eq) (off := (45)) (pc2 := 81) true rfl (sh_Zeqt c) rfl ?_
        exact kk
      exact sh_Lk_sub (sh_sub_c rfl (sh_sub_c rfl (sh_sub_c rfl (sh_sub_c rfl (sh_sub_n))))) (sl_226_81 e tg)
  · refine sh_Lk_lift (T := m.T) (I := m.I) (J := m.J) (s := m.s) (pc2 := 2) (lv2 := [(2, .int (x2 + 1)), (0, .ref 62), (1, .ref 14), (3, .int x3)]) (st2 := []) (I2 := m.I) (J2 := m.J) (fun hT v kk => ?_) ?_
    · refine sh_jc (c := .ge) (off := (68)) (pc2 := 87) true rfl (sh_Bget c) rfl ?_
      refine sh_w (i := (.iinc 2 1)) (len := 3) (pc2 := 90) (lv2 := [(2, .int (x2 + 1)), (0, .ref 62), (1, .ref 14), (3, .int x3)]) (st2 := []) (h2 := (sh_rep m.T m.I m.J)) rfl rfl rfl ?_
      refine sh_w (i := (.goto (-88))) (len := 3) (pc2 := 2) (lv2 := [(2, .int (x2 + 1)), (0, .ref 62), (1, .ref 14), (3, .int x3)]) (st2 := []) (h2 := (sh_rep m.T m.I m.J)) rfl rfl rfl ?_
      exact kk
    obtain rfl := Option.some.inj e
    exact sh_Lk_sub (sh_sub_c rfl (sh_sub_c rfl (sh_sub_c rfl (sh_sub_n)))) tg
theorem sl_226_12 {x2 : Int32} {x3 : Int32} {m m2 : sh_X} {o : Outcome} {z : ((Int32 × sh_X) ⊕ (Unit × sh_X))} (e : sf_226_12 x2 x3 m = some z) (tg : (sh_el (fun q => sh_Lk 226 2 [(0, .ref 62), (1, .ref 14), (2, .int q.1)] [] q.2 o m2 10 244) (sh_tV o m2)) z) : sh_Lk 226 12 [(0, .ref 62), (1, .ref 14), (2, .int x2), (3, .int x3)] [] m o m2 10 244 := by
  unfold sf_226_12 at e
  exact sh_while_lk (P := fun q => sh_Lk 226 12 [(0, .ref 62), (1, .ref 14), (2, .int x2), (3, .int q.1)] [] q.2 o m2 10 244) (Q := (sh_el (fun q => sh_Lk 226 2 [(0, .ref 62), (1, .ref 14), (2, .int q.1)] [] q.2 o m2 10 244) (sh_tV o m2))) (fun q z e tg => sl_226_12s (x2 := x2) (x3 := q.1) (m := q.2) e tg) (s := (x3, m)) e tg
theorem sl_226_2s {x2 : Int32} {m m2 : sh_X} {o : Outcome} {z : ((Int32 × sh_X) ⊕ (Unit × sh_X))} (e : sf_226_2s x2 m = some z) (tg : (sh_el (fun q => sh_Lk 226 2 [(0, .ref 62), (1, .ref 14), (2, .int q.1)] [] q.2 o m2 10 244) (sh_tV o m2)) z) : sh_Lk 226 2 [(0, .ref 62), (1, .ref 14), (2, .int x2)] [] m o m2 10 244 := by
  unfold sf_226_2s at e
  refine sh_Lk_lift (T := m.T) (I := m.I) (J := m.J) (s := m.s) (pc2 := 7) (lv2 := [(0, .ref 62), (1, .ref 14), (2, .int x2)]) (st2 := [.int (m.I 13 4), .int x2]) (I2 := m.I) (J2 := m.J) (fun hT v kk => ?_) ?_
  · refine sh_w (i := (.iload_n 2)) (len := 1) (pc2 := 3) (lv2 := [(0, .ref 62), (1, .ref 14), (2, .int x2)]) (st2 := [.int x2]) (h2 := (sh_rep m.T m.I m.J)) rfl rfl rfl ?_
    refine sh_w (i := (.aload_n 1)) (len := 1) (pc2 := 4) (lv2 := [(0, .ref 62), (1, .ref 14), (2, .int x2)]) (st2 := [.ref 14, .int x2]) (h2 := (sh_rep m.T m.I m.J)) rfl rfl rfl ?_
    refine sh_gI1 (len := 3) (x := m.I 13 4) (pc2 := 7) rfl rfl (sh_s13 hT.st) rfl rfl rfl ?_
    exact kk
  rcases sh_ite e with ⟨c, e⟩ | ⟨c, e⟩
  · refine sh_Lk_lift (T := m.T) (I := m.I) (J := m.J) (s := m.s) (pc2 := 12) (lv2 := [(3, .int 0), (0, .ref 62), (1, .ref 14), (2, .int x2)]) (st2 := []) (I2 := m.I) (J2 := m.J) (fun hT v kk => ?_) ?_
    · refine sh_jc (c := .ge) (off := (86)) (pc2 := 10) false rfl (sh_Bgef c) rfl ?_
      refine sh_w (i := (.iconst 0)) (len := 1) (pc2 := 11) (lv2 := [(0, .ref 62), (1, .ref 14), (2, .int x2)]) (st2 := [.int 0]) (h2 := (sh_rep m.T m.I m.J)) rfl rfl rfl ?_
      refine sh_w (i := (.istore_n 3)) (len := 1) (pc2 := 12) (lv2 := [(3, .int 0), (0, .ref 62), (1, .ref 14), (2, .int x2)]) (st2 := []) (h2 := (sh_rep m.T m.I m.J)) rfl rfl rfl ?_
      exact kk
    exact sh_Lk_sub (sh_sub_c rfl (sh_sub_c rfl (sh_sub_c rfl (sh_sub_c rfl (sh_sub_n))))) (sl_226_12 e tg)
  · refine sh_Lk_lift (T := m.T) (I := m.I) (J := m.J) (s := m.s) (pc2 := 93) (lv2 := [(0, .ref 62), (1, .ref 14), (2, .int x2)]) (st2 := []) (I2 := m.I) (J2 := m.J) (fun hT v kk => ?_) ?_
    · refine sh_jc (c := .ge) (off := (86)) (pc2 := 93) true rfl (sh_Bget c) rfl ?_
      exact kk
    obtain rfl := Option.some.inj e
    obtain ⟨rfl, rfl⟩ := tg
    exact sh_Lk_ret (i := .return_) rfl rfl rfl (Nat.le_of_ble_eq_true rfl) (Nat.le_of_ble_eq_true rfl)
theorem sl_226_2 {x2 : Int32} {m m2 : sh_X} {o : Outcome} {z : (Unit × sh_X)} (e : sf_226_2 x2 m = some z) (tg : (sh_tV o m2) z) : sh_Lk 226 2 [(0, .ref 62), (1, .ref 14), (2, .int x2)] [] m o m2 10 244 := by
  unfold sf_226_2 at e
  exact sh_while_lk (P := fun q => sh_Lk 226 2 [(0, .ref 62), (1, .ref 14), (2, .int q.1)] [] q.2 o m2 10 244) (Q := (sh_tV o m2)) (fun q z e tg => sl_226_2s (x2 := q.1) (m := q.2) e tg) (s := (x2, m)) e tg
theorem sl_226 {m m2 : sh_X} {o : Outcome} {z : (Unit × sh_X)} (e : sf_226 m = some z) (tg : (sh_tV o m2) z) : sh_Lk 226 0 [(0, .ref 62), (1, .ref 14)] [] m o m2 10 244 := by
  unfold sf_226 at e
  refine sh_Lk_lift (T := m.T) (I := m.I) (J := m.J) (s := m.s) (pc2 := 2) (lv2 := [(2, .int 0), (0, .ref 62), (1, .ref 14)]) (st2 := []) (I2 := m.I) (J2 := m.J) (fun hT v kk => ?_) ?_
  · refine sh_w (i := (.iconst 0)) (len := 1) (pc2 := 1) (lv2 := [(0, .ref 62), (1, .ref 14)]) (st2 := [.int 0]) (h2 := (sh_rep m.T m.I m.J)) rfl rfl rfl ?_
    refine sh_w (i := (.istore_n 2)) (len := 1) (pc2 := 2) (lv2 := [(2, .int 0), (0, .ref 62), (1, .ref 14)]) (st2 := []) (h2 := (sh_rep m.T m.I m.J)) rfl rfl rfl ?_
    exact kk
  exact sh_Lk_sub (sh_sub_c rfl (sh_sub_c rfl (sh_sub_c rfl (sh_sub_n)))) (sl_226_2 e tg)
theorem sl_230_92 {x9 : Int64} {y0 : Int64} {m m2 : sh_X} {o : Outcome} {z : (Int64 × sh_X)} (e : sf_230_92 x9 y0 m = some z) (tg : (sh_tJ o m2) z) : sh_Lk 230 92 [(9, .long x9)] [.long y0] m o m2 10 244 := by
  unfold sf_230_92 at e
  refine sh_Lk_lift (T := m.T) (I := m.I) (J := m.J) (s := m.s) (pc2 := 95) (lv2 := [(9, .long x9)]) (st2 := [.long (y0 ^^^ x9)]) (I2 := m.I) (J2 := m.J) (fun hT v kk => ?_) ?_
  · refine sh_w (i := (.lload 9)) (len := 2) (pc2 := 94) (lv2 := [(9, .long x9)]) (st2 := [.long x9, .long y0]) (h2 := (sh_rep m.T m.I m.J)) rfl rfl rfl ?_
    refine sh_w (i := .lxor) (len := 1) (pc2 := 95) (lv2 := [(9, .long x9)]) (st2 := [.long (y0 ^^^ x9)]) (h2 := (sh_rep m.T m.I m.J)) rfl rfl rfl ?_
    exact kk
  obtain rfl := Option.some.inj e
  obtain ⟨rfl, rfl⟩ := tg
  exact sh_Lk_ret (i := .lreturn) rfl rfl rfl (Nat.le_of_ble_eq_true rfl) (Nat.le_of_ble_eq_true rfl)
theorem sl_230_78 {x3 : Int32} {x9 : Int64} {x12 : Int64} {y0 : Int64} {y1 : Int64} {m m2 : sh_X} {o : Outcome} {z : (Int64 × sh_X)} (e : sf_230_78 x3 x9 x12 y0 y1 m = some z) (tg : (sh_tJ o m2) z) : sh_Lk 230 78 [(3, .int x3), (9, .long x9), (12, .long x12)] [.long y1, .long y0] m o m2 10 244 := by
  unfold sf_230_78 at e
  refine sh_Lk_lift (T := m.T) (I := m.I) (J := m.J) (s := m.s) (pc2 := 82) (lv2 := [(14, .long (y0 ^^^ y1)), (3, .int x3), (9, .long x9), (12, .long x12)]) (st2 := [.int x3]) (I2 := m.I) (J2 := m.J) (fun hT v kk => ?_) ?_
  · refine sh_w (i := .lxor) (len := 1) (pc2 := 79) (lv2 := [(3, .int x3), (9, .long x9), (12, .long x12)]) (st2 := [.long (y0 ^^^ y1)]) (h2 := (sh_rep m.T m.I m.J)) rfl rfl rfl ?_
    refine sh_w (i := (.lstore 14)) (len := 2) (pc2 := 81) (lv2 := [(14, .long (y0 ^^^ y1)), (3, .int x3), (9, .long x9), (12, .long x12)]) (st2 := []) (h2 := (sh_rep m.T m.I m.J)) rfl rfl rfl ?_
    refine sh_w (i := (.iload_n 3)) (len := 1) (pc2 := 82) (lv2 := [(14, .long (y0 ^^^ y1)), (3, .int x3), (9, .long x9), (12, .long x12)]) (st2 := [.int x3]) (h2 := (sh_rep m.T m.I m.J)) rfl rfl rfl ?_
    exact kk
  rcases sh_ite e with ⟨c, e⟩ | ⟨c, e⟩
  · refine sh_Lk_lift (T := m.T) (I := m.I) (J := m.J) (s := m.s) (pc2 := 92) (lv2 := [(14, .long (y0 ^^^ y1)), (3, .int x3), (9, .long x9), (12, .long x12)]) (st2 := [.long x12]) (I2 := m.I) (J2 := m.J) (fun hT v kk => ?_) ?_
    · refine sh_j0 (c := .ne) (off := (8)) (pc2 := 85) false rfl (sh_Bnef c) rfl ?_
      refine sh_w (i := (.lload 12)) (len := 2) (pc2 := 87) (lv2 := [(14, .long (y0 ^^^ y1)), (3, .int x3), (9, .long x9), (12, .long x12)]) (st2 := [.long x12]) (h2 := (sh_rep m.T m.I m.J)) rfl rfl rfl ?_
      refine sh_w (i := (.goto 5)) (len := 3) (pc2 := 92) (lv2 := [(14, .long (y0 ^^^ y1)), (3, .int x3), (9, .long x9), (12, .long x12)]) (st2 := [.long x12]) (h2 := (sh_rep m.T m.I m.J)) rfl rfl rfl ?_
      exact kk
    exact sh_Lk_sub (sh_sub_c rfl (sh_sub_n)) (sl_230_92 e tg)
  · refine sh_Lk_lift (T := m.T) (I := m.I) (J := m.J) (s := m.s) (pc2 := 92) (lv2 := [(14, .long (y0 ^^^ y1)), (3, .int x3), (9, .long x9), (12, .long x12)]) (st2 := [.long (y0 ^^^ y1)]) (I2 := m.I) (J2 := m.J) (fun hT v kk => ?_) ?_
    · refine sh_j0 (c := .ne) (off := (8)) (pc2 := 90) true rfl (sh_Bnet c) rfl ?_
      refine sh_w (i := (.lload 14)) (len := 2) (pc2 := 92) (lv2 := [(14, .long (y0 ^^^ y1)), (3, .int x3), (9, .long x9), (12, .long x12)]) (st2 := [.long (y0 ^^^ y1)]) (h2 := (sh_rep m.T m.I m.J)) rfl rfl rfl ?_
      exact kk
    exact sh_Lk_sub (sh_sub_c rfl (sh_sub_n)) (sl_230_92 e tg)
theorem sl_230_57 {x1 : Int64} {x3 : Int32} {x4 : Int64} {x6 : Int64} {x9 : Int64} {x11 : Int32} {y0 : Int64} {y1 : Int64} {m m2 : sh_X} {o : Outcome} {z : (Int64 × sh_X)} (e : sf_230_57 x1 x3 x4 x6 x9 x11 y0 y1 m = some z) (tg : (sh_tJ o m2) z) : sh_Lk 230 57 [(0, .ref 62), (1, .long x1), (3, .int x3), (4, .long x4), (6, .long x6), (9, .long x9), (11, .int x11)] [.long y1, .long y0] m o m2 10 244 := by
  unfold sf_230_57 at e
  refine sh_Lk_lift (T := m.T) (I := m.I) (J := m.J) (s := m.s) (pc2 := 68) (lv2 := [(12, .long (y0 ^^^ y1)), (0, .ref 62), (1, .long x1), (3, .int x3), (4, .long x4), (6, .long x6), (9, .long x9), (11, .int x11)]) (st2 := [.int x11, .long (x1 ^^^ (m.J 61 5))]) (I2 := m.I) (J2 := m.J) (fun hT v kk => ?_) ?_
  · refine sh_w (i := .lxor) (len := 1) (pc2 := 58) (lv2 := [(0, .ref 62), (1, .long x1), (3, .int x3), (4, .long x4), (6, .long x6), (9, .long x9), (11, .int x11)]) (st2 := [.long (y0 ^^^ y1)]) (h2 := (sh_rep m.T m.I m.J)) rfl rfl rfl ?_
    refine sh_w (i := (.lstore 12)) (len := 2) (pc2 := 60) (lv2 := [(12, .long (y0 ^^^ y1)), (0, .ref 62), (1, .long x1), (3, .int x3), (4, .long x4), (6, .long x6), (9, .long x9), (11, .int x11)]) (st2 := []) (h2 := (sh_rep m.T m.I m.J)) rfl rfl rfl ?_
    refine sh_w (i := (.lload_n 1)) (len := 1) (pc2 := 61) (lv2 := [(12, .long (y0 ^^^ y1)), (0, .ref 62), (1, .long x1), (3, .int x3), (4, .long x4), (6, .long x6), (9, .long x9), (11, .int x11)]) (st2 := [.long x1]) (h2 := (sh_rep m.T m.I m.J)) rfl rfl rfl ?_
    refine sh_w (i := (.aload_n 0)) (len := 1) (pc2 := 62) (lv2 := [(12, .long (y0 ^^^ y1)), (0, .ref 62), (1, .long x1), (3, .int x3), (4, .long x4), (6, .long x6), (9, .long x9), (11, .int x11)]) (st2 := [.ref 62, .long x1]) (h2 := (sh_rep m.T m.I m.J)) rfl rfl rfl ?_
    refine sh_gJ1 (len := 3) (x := m.J 61 5) (pc2 := 65) rfl rfl hT.t61 rfl rfl rfl ?_
    refine sh_w (i := .lxor) (len := 1) (pc2 := 66) (lv2 := [(12, .long (y0 ^^^ y1)), (0, .ref 62), (1, .long x1), (3, .int x3), (4, .long x4), (6, .long x6), (9, .long x9), (11, .int x11)]) (st2 := [.long (x1 ^^^ (m.J 61 5))]) (h2 := (sh_rep m.T m.I m.J)) rfl rfl rfl ?_
    refine sh_w (i := (.iload 11)) (len := 2) (pc2 := 68) (lv2 := [(12, .long (y0 ^^^ y1)), (0, .ref 62), (1, .long x1), (3, .int x3), (4, .long x4), (6, .long x6), (9, .long x9), (11, .int x11)]) (st2 := [.int x11, .long (x1 ^^^ (m.J 61 5))]) (h2 := (sh_rep m.T m.I m.J)) rfl rfl rfl ?_
    exact kk
  rcases sh_ite e with ⟨c, e⟩ | ⟨c, e⟩
  · refine sh_Lk_lift (T := m.T) (I := m.I) (J := m.J) (s := m.s) (pc2 := 78) (lv2 := [(12, .long (y0 ^^^ y1)), (0, .ref 62), (1, .long x1), (3, .int x3), (4, .long x4), (6, .long x6), (9, .long x9), (11, .int x11)]) (st2 := [.long x6, .long (x1 ^^^ (m.J 61 5))]) (I2 := m.I) (J2 := m.J) (fun hT v kk => ?_) ?_
    · refine sh_j0 (c := .ne) (off := (8)) (pc2 := 71) false rfl (sh_Bnef c) rfl ?_
      refine sh_w (i := (.lload 6)) (len := 2) (pc2 := 73) (lv2 := [(12, .long (y0 ^^^ y1)), (0, .ref 62), (1, .long x1), (3, .int x3), (4, .long x4), (6, .long x6), (9, .long x9), (11, .int x11)]) (st2 := [.long x6, .long (x1 ^^^ (m.J 61 5))]) (h2 := (sh_rep m.T m.I m.J)) rfl rfl rfl ?_
      refine sh_w (i := (.goto 5)) (len := 3) (pc2 := 78) (lv2 := [(12, .long (y0 ^^^ y1)), (0, .ref 62), (1, .long x1), (3, .int x3), (4, .long x4), (6, .long x6), (9, .long x9), (11, .int x11)]) (st2 := [.long x6, .long (x1 ^^^ (m.J 61 5))]) (h2 := (sh_rep m.T m.I m.J)) rfl rfl rfl ?_
      exact kk
    exact sh_Lk_sub (sh_sub_c rfl (sh_sub_c rfl (sh_sub_c rfl (sh_sub_n)))) (sl_230_78 e tg)
  · refine sh_Lk_lift (T := m.T) (I := m.I) (J := m.J) (s := m.s) (pc2 := 78) (lv2 := [(12, .long (y0 ^^^ y1)), (0, .ref 62), (1, .long x1), (3, .int x3), (4, .long x4), (6, .long x6), (9, .long x9), (11, .int x11)]) (st2 := [.long x4, .long (x1 ^^^ (m.J 61 5))]) (I2 := m.I) (J2 := m.J) (fun hT v kk => ?_) ?_
    · refine sh_j0 (c := .ne) (off := (8)) (pc2 := 76) true rfl (sh_Bnet c) rfl ?_
      refine sh_w (i := (.lload 4)) (len := 2) (pc2 := 78) (lv2 := [(12, .long (y0 ^^^ y1)), (0, .ref 62), (1, .long x1), (3, .int x3), (4, .long x4), (6, .long x6), (9, .long x9), (11, .int x11)]) (st2 := [.long x4, .long (x1 ^^^ (m.J 61 5))]) (h2 := (sh_rep m.T m.I m.J)) rfl rfl rfl ?_
      exact kk
    exact sh_Lk_sub (sh_sub_c rfl (sh_sub_c rfl (sh_sub_c rfl (sh_sub_n)))) (sl_230_78 e tg)
theorem sl_230_36 {x1 : Int64} {x3 : Int32} {x4 : Int64} {x6 : Int64} {x8 : Int32} {y0 : Int64} {m m2 : sh_X} {o : Outcome} {z : (Int64 × sh_X)} (e : sf_230_36 x1 x3 x4 x6 x8 y0 m = some z) (tg : (sh_tJ o m2) z) : sh_Lk 230 36 [(0, .ref 62), (1, .long x1), (3, .int x3), (4, .long x4), (6, .long x6), (8, .int x8)] [.long y0] m o m2 10 244 := by
  unfold sf_230_36 at e
  refine sh_Lk_lift (T := m.T) (I := m.I) (J := m.J) (s := m.s) (pc2 := 47) (lv2 := [(11, .int (x3 ^^^ x8)), (9, .long y0), (0, .ref 62), (1, .long x1), (3, .int x3), (4, .long x4), (6, .long x6), (8, .int x8)]) (st2 := [.int (x3 ^^^ x8), .long x1]) (I2 := m.I) (J2 := m.J) (fun hT v kk => ?_) ?_
  · refine sh_w (i := (.lstore 9)) (len := 2) (pc2 := 38) (lv2 := [(9, .long y0), (0, .ref 62), (1, .long x1), (3, .int x3), (4, .long x4), (6, .long x6), (8, .int x8)]) (st2 := []) (h2 := (sh_rep m.T m.I m.J)) rfl rfl rfl ?_
    refine sh_w (i := (.iload_n 3)) (len := 1) (pc2 := 39) (lv2 := [(9, .long y0), (0, .ref 62), (1, .long x1), (3, .int x3), (4, .long x4), (6, .long x6), (8, .int x8)]) (st2 := [.int x3]) (h2 := (sh_rep m.T m.I m.J)) rfl rfl rfl ?_
    refine sh_w (i := (.iload 8)) (len := 2) (pc2 := 41) (lv2 := [(9, .long y0), (0, .ref 62), (1, .long x1), (3, .int x3), (4, .long x4), (6, .long x6), (8, .int x8)]) (st2 := [.int x8, .int x3]) (h2 := (sh_rep m.T m.I m.J)) rfl rfl rfl ?_
    refine sh_w (i := .ixor) (len := 1) (pc2 := 42) (lv2 := [(9, .long y0), (0, .ref 62), (1, .long x1), (3, .int x3), (4, .long x4), (6, .long x6), (8, .int x8)]) (st2 := [.int (x3 ^^^ x8)]) (h2 := (sh_rep m.T m.I m.J)) rfl rfl rfl ?_
    refine sh_w (i := (.istore 11)) (len := 2) (pc2 := 44) (lv2 := [(11, .int (x3 ^^^ x8)), (9, .long y0), (0, .ref 62), (1, .long x1), (3, .int x3), (4, .long x4), (6, .long x6), (8, .int x8)]) (st2 := []) (h2 := (sh_rep m.T m.I m.J)) rfl rfl rfl ?_
    refine sh_w (i := (.lload_n 1)) (len := 1) (pc2 := 45) (lv2 := [(11, .int (x3 ^^^ x8)), (9, .long y0), (0, .ref 62), (1, .long x1), (3, .int x3), (4, .long x4), (6, .long x6), (8, .int x8)]) (st2 := [.long x1]) (h2 := (sh_rep m.T m.I m.J)) rfl rfl rfl ?_
    refine sh_w (i := (.iload 11)) (len := 2) (pc2 := 47) (lv2 := [(11, .int (x3 ^^^ x8)), (9, .long y0), (0, .ref 62), (1, .long x1), (3, .int x3), (4, .long x4), (6, .long x6), (8, .int x8)]) (st2 := [.int (x3 ^^^ x8), .long x1]) (h2 := (sh_rep m.T m.I m.J)) rfl rfl rfl ?_
    exact kk
  rcases sh_ite e with ⟨c, e⟩ | ⟨c, e⟩
  · refine sh_Lk_lift (T := m.T) (I := m.I) (J := m.J) (s := m.s) (pc2 := 57) (lv2 := [(11, .int (x3 ^^^ x8)), (9, .long y0), (0, .ref 62), (1, .long x1), (3, .int x3), (4, .long x4), (6, .long x6), (8, .int x8)]) (st2 := [.long x4, .long x1]) (I2 := m.I) (J2 := m.J) (fun hT v kk => ?_) ?_
    · refine sh_j0 (c := .ne) (off := (8)) (pc2 := 50) false rfl (sh_Bnef c) rfl ?_
      refine sh_w (i := (.lload 4)) (len := 2) (pc2 := 52) (lv2 := [(11, .int (x3 ^^^ x8)), (9, .long y0), (0, .ref 62), (1, .long x1), (3, .int x3), (4, .long x4), (6, .long x6), (8, .int x8)]) (st2 := [.long x4, .long x1]) (h2 := (sh_rep m.T m.I m.J)) rfl rfl rfl ?_
      refine sh_w (i := (.goto 5)) (len := 3) (pc2 := 57) (lv2 := [(11, .int (x3 ^^^ x8)), (9, .long y0), (0, .ref 62), (1, .long x1), (3, .int x3), (4, .long x4), (6, .long x6), (8, .int x8)]) (st2 := [.long x4, .long x1]) (h2 := (sh_rep m.T m.I m.J)) rfl rfl rfl ?_
      exact kk
    exact sh_Lk_sub (sh_sub_c rfl (sh_sub_c rfl (sh_sub_c rfl (sh_sub_c rfl (sh_sub_c rfl (sh_sub_c rfl (sh_sub_c rfl (sh_sub_n)))))))) (sl_230_57 e tg)
  · refine sh_Lk_lift (T := m.T) (I := m.I) (J := m.J) (s := m.s) (pc2 := 57) (lv2 := [(11, .int (x3 ^^^ x8)), (9, .long y0), (0, .ref 62), (1, .long x1), (3, .int x3), (4, .long x4), (6, .long x6), (8, .int x8)]) (st2 := [.long x6, .long x1]) (I2 := m.I) (J2 := m.J) (fun hT v kk => ?_) ?_
    · refine sh_j0 (c := .ne) (off := (8)) (pc2 := 55) true rfl (sh_Bnet c) rfl ?_
      refine sh_w (i := (.lload 6)) (len := 2) (pc2 := 57) (lv2 := [(11, .int (x3 ^^^ x8)), (9, .long y0), (0, .ref 62), (1, .long x1), (3, .int x3), (4, .long x4), (6, .long x6), (8, .int x8)]) (st2 := [.long x6, .long x1]) (h2 := (sh_rep m.T m.I m.J)) rfl rfl rfl ?_
      exact kk
    exact sh_Lk_sub (sh_sub_c rfl (sh_sub_c rfl (sh_sub_c rfl (sh_sub_c rfl (sh_sub_c rfl (sh_sub_c rfl (sh_sub_c rfl (sh_sub_n)))))))) (sl_230_57 e tg)
theorem sl_230 {x1 : Int64} {x3 : Int32} {m m2 : sh_X} {o : Outcome} {z : (Int64 × sh_X)} (e : sf_230 x1 x3 m = some z) (tg : (sh_tJ o m2) z) : sh_Lk 230 0 [(0, .ref 62), (1, .long x1), (3, .int x3)] [] m o m2 10 244 := by
  unfold sf_230 at e
  refine sh_Lk_lift (T := m.T) (I := m.I) (J := m.J) (s := m.s) (pc2 := 2) (lv2 := [(0, .ref 62), (1, .long x1), (3, .int x3)]) (st2 := [.int 0, .ref 62]) (I2 := m.I) (J2 := m.J) (fun hT v kk => ?_) ?_
  · refine sh_w (i := (.aload_n 0)) (len := 1) (pc2 := 1) (lv2 := [(0, .ref 62), (1, .long x1), (3, .int x3)]) (st2 := [.ref 62]) (h2 := (sh_rep m.T m.I m.J)) rfl rfl rfl ?_
    refine sh_w (i := (.iconst 0)) (len := 1) (pc2 := 2) (lv2 := [(0, .ref 62), (1, .long x1), (3, .int x3)]) (st2 := [.int 0, .ref 62]) (h2 := (sh_rep m.T m.I m.J)) rfl rfl rfl ?_
    exact kk
  obtain ⟨r1, m11, e1, e⟩ := sh_bn_e e
  refine sh_Lk_cV (r := (some (.long r1))) (st2 := [.long r1]) (pc2 := 5) (k2 := 222) (a := 61) (as := [.ref 62, .int 0]) (rest := []) rfl rfl rfl (fun hT => hT.t61) rfl rfl ⟨Nat.le_of_ble_eq_true rfl, Nat.le_of_ble_eq_true rfl⟩ (sl_222 e1 ⟨rfl, rfl⟩) rfl rfl (Nat.le_of_ble_eq_true rfl) (Nat.le_of_ble_eq_true rfl) ?_
  refine sh_Lk_lift (T := m11.T) (I := m11.I) (J := m11.J) (s := m11.s) (pc2 := 9) (lv2 := [(4, .long r1), (0, .ref 62), (1, .long x1), (3, .int x3)]) (st2 := [.int 0, .ref 62]) (I2 := m11.I) (J2 := m11.J) (fun hT v kk => ?_) ?_
  · refine sh_w (i := (.lstore 4)) (len := 2) (pc2 := 7) (lv2 := [(4, .long r1), (0, .ref 62), (1, .long x1), (3, .int x3)]) (st2 := []) (h2 := (sh_rep m11.T m11.I m11.J)) rfl rfl rfl ?_
    refine sh_w (i := (.aload_n 0)) (len := 1) (pc2 := 8) (lv2 := [(4, .long r1), (0, .ref 62), (1, .long x1), (3, .int x3)]) (st2 := [.ref 62]) (h2 := (sh_rep m11.T m11.I m11.J)) rfl rfl rfl ?_
    refine sh_w (i := (.iconst 0)) (len := 1) (pc2 := 9) (lv2 := [(4, .long r1), (0, .ref 62), (1, .long x1), (3, .int x3)]) (st2 := [.int 0, .ref 62]) (h2 := (sh_rep m11.T m11.I m11.J)) rfl rfl rfl ?_
    exact kk
  obtain ⟨r2, m12, e2, e⟩ := sh_bn_e e
  refine sh_Lk_cV (r := (some (.long r2))) (st2 := [.long r2]) (pc2 := 12) (k2 := 222) (a := 61) (as := [.ref 62, .int 0]) (rest := []) rfl rfl rfl (fun hT => hT.t61) rfl rfl ⟨Nat.le_of_ble_eq_true rfl, Nat.le_of_ble_eq_true rfl⟩ (sl_222 e2 ⟨rfl, rfl⟩) rfl rfl (Nat.le_of_ble_eq_true rfl) (Nat.le_of_ble_eq_true rfl) ?_
  refine sh_Lk_lift (T := m12.T) (I := m12.I) (J := m12.J) (s := m12.s) (pc2 := 16) (lv2 := [(6, .long r2), (4, .long r1), (0, .ref 62), (1, .long x1), (3, .int x3)]) (st2 := [.int 1, .ref 62]) (I2 := m12.I) (J2 := m12.J) (fun hT v kk => ?_) ?_
  · refine sh_w (i := (.lstore 6)) (len := 2) (pc2 := 14) (lv2 := [(6, .long r2), (4, .long r1), (0, .ref 62), (1, .long x1), (3, .int x3)]) (st2 := []) (h2 := (sh_rep m12.T m12.I m12.J)) rfl rfl rfl ?_
    refine sh_w (i := (.aload_n 0)) (len := 1) (pc2 := 15) (lv2 := [(6, .long r2), (4, .long r1), (0, .ref 62), (1, .long x1), (3, .int x3)]) (st2 := [.ref 62]) (h2 := (sh_rep m12.T m12.I m12.J)) rfl rfl rfl ?_
    refine sh_w (i := (.iconst 1)) (len := 1) (pc2 := 16) (lv2 := [(6, .long r2), (4, .long r1), (0, .ref 62), (1, .long x1), (3, .int x3)]) (st2 := [.int 1, .ref 62]) (h2 := (sh_rep m12.T m12.I m12.J)) rfl rfl rfl ?_
    exact kk
  obtain ⟨r3, m13, e3, e⟩ := sh_bn_e e
  refine sh_Lk_cV (r := (some (.long r3))) (st2 := [.long r3]) (pc2 := 19) (k2 := 222) (a := 61) (as := [.ref 62, .int 1]) (rest := []) rfl rfl rfl (fun hT => hT.t61) rfl rfl ⟨Nat.le_of_ble_eq_true rfl, Nat.le_of_ble_eq_true rfl⟩ (sl_222 e3 ⟨rfl, rfl⟩) rfl rfl (Nat.le_of_ble_eq_true rfl) (Nat.le_of_ble_eq_true rfl) ?_
  refine sh_Lk_lift (T := m13.T) (I := m13.I) (J := m13.J) (s := m13.s) (pc2 := 26) (lv2 := [(8, .int (Int64.toInt32 (r3 &&& (1 : Int64)))), (6, .long r2), (4, .long r1), (0, .ref 62), (1, .long x1), (3, .int x3)]) (st2 := [.int (Int64.toInt32 (r3 &&& (1 : Int64)))]) (I2 := m13.I) (J2 := m13.J) (fun hT v kk => ?_) ?_
  · refine sh_w (i := (.lconst 1)) (len := 1) (pc2 := 20) (lv2 := [(6, .long r2), (4, .long r1), (0, .ref 62), (1, .long x1), (3, .int x3)]) (st2 := [.long 1, .long r3]) (h2 := (sh_rep m13.T m13.I m13.J)) rfl rfl rfl ?_
    refine sh_w (i := .land) (len := 1) (pc2 := 21) (lv2 := [(6, .long r2), (4, .long r1), (0, .ref 62), (1, .long x1), (3, .int x3)]) (st2 := [.long (r3 &&& (1 : Int64))]) (h2 := (sh_rep m13.T m13.I m13.J)) rfl rfl rfl ?_
    refine sh_w (i := .l2i) (len := 1) (pc2 := 22) (lv2 := [(6, .long r2), (4, .long r1), (0, .ref 62), (1, .long x1), (3, .int x3)]) (st2 := [.int (Int64.toInt32 (r3 &&& (1 : Int64)))]) (h2 := (sh_rep m13.T m13.I m13.J)) rfl rfl rfl ?_
    refine sh_w (i := (.istore 8)) (len := 2) (pc2 := 24) (lv2 := [(8, .int (Int64.toInt32 (r3 &&& (1 : Int64)))), (6, .long r2), (4, .long r1), (0, .ref 62), (1, .long x1), (3, .int x3)]) (st2 := []) (h2 := (sh_rep m13.T m13.I m13.J)) rfl rfl rfl ?_
    refine sh_w (i := (.iload 8)) (len := 2) (pc2 := 26) (lv2 := [(8, .int (Int64.toInt32 (r3 &&& (1 : Int64)))), (6, .long r2), (4, .long r1), (0, .ref 62), (1, .long x1), (3, .int x3)]) (st2 := [.int (Int64.toInt32 (r3 &&& (1 : Int64)))]) (h2 := (sh_rep m13.T m13.I m13.J)) rfl rfl rfl ?_
    exact kk
  rcases sh_ite e with ⟨c, e⟩ | ⟨c, e⟩
  · refine sh_Lk_lift (T := m13.T) (I := m13.I) (J := m13.J) (s := m13.s) (pc2 := 36) (lv2 := [(8, .int (Int64.toInt32 (r3 &&& (1 : Int64)))), (6, .long r2), (4, .long r1), (0, .ref 62), (1, .long x1), (3, .int x3)]) (st2 := [.long r1]) (I2 := m13.I) (J2 := m13.J) (fun hT v kk => ?_) ?_
    · refine sh_j0 (c := .ne) (off := (8)) (pc2 := 29) false rfl (sh_Bnef c) rfl ?_
      refine sh_w (i := (.lload 4)) (len := 2) (pc2 := 31) (lv2 := [(8, .int (Int64.toInt32 (r3 &&& (1 : Int64)))), (6, .long r2), (4, .long r1), (0, .ref 62), (1, .long x1), (3, .int x3)]) (st2 := [.long r1]) (h2 := (sh_rep m13.T m13.I m13.J)) rfl rfl rfl ?_
      refine sh_w (i := (.goto 5)) (len := 3) (pc2 := 36) (lv2 := [(8, .int (Int64.toInt32 (r3 &&& (1 : Int64)))), (6, .long r2), (4, .long r1), (0, .ref 62), (1, .long x1), (3, .int x3)]) (st2 := [.long r1]) (h2 := (sh_rep m13.T m13.I m13.J)) rfl rfl rfl ?_
      exact kk
    exact sh_Lk_sub (sh_sub_c rfl (sh_sub_c rfl (sh_sub_c rfl (sh_sub_c rfl (sh_sub_c rfl (sh_sub_c rfl (sh_sub_n))))))) (sl_230_36 e tg)
  · refine sh_Lk_lift (T := m13.T) (I := m13.I) (J := m13.J) (s := m13.s) (pc2 := 36) (lv2 := [(8, .int (Int64.toInt32 (r3 &&& (1 : Int64)))), (6, .long r2), (4, .long r1), (0, .ref 62), (1, .long x1), (3, .int x3)]) (st2 := [.long r2]) (I2 := m13.I) (J2 := m13.J) (fun hT v kk => ?_) ?_
    · refine sh_j0 (c := .ne) (off := (8)) (pc2 := 34) true rfl (sh_Bnet c) rfl ?_
      refine sh_w (i := (.lload 6)) (len := 2) (pc2 := 36) (lv2 := [(8, .int (Int64.toInt32 (r3 &&& (1 : Int64)))), (6, .long r2), (4, .long r1), (0, .ref 62), (1, .long x1), (3, .int x3)]) (st2 := [.long r2]) (h2 := (sh_rep m13.T m13.I m13.J)) rfl rfl rfl ?_
      exact kk
    exact sh_Lk_sub (sh_sub_c rfl (sh_sub_c rfl (sh_sub_c rfl (sh_sub_c rfl (sh_sub_c rfl (sh_sub_c rfl (sh_sub_n))))))) (sl_230_36 e tg)
theorem sl_229_80 {x2 : Int32} {x3 : Int32} {m m2 : sh_X} {o : Outcome} {z : ((Int32 × sh_X) ⊕ ((Int32 × sh_X) ⊕ (Unit × sh_X)))} (e : sf_229_80 x2 x3 m = some z) (tg : (sh_el (fun q => sh_Lk 229 12 [(0, .ref 62), (1, .ref 19), (2, .int x2), (3, .int q.1)] [] q.2 o m2 11 279) (sh_el (fun q => sh_Lk 229 2 [(0, .ref 62), (1, .ref 19), (2, .int q.1)] [] q.2 o m2 11 279) (sh_tV o m2))) z) : sh_Lk 229 80 [(0, .ref 62), (1, .ref 19), (2, .int x2), (3, .int x3)] [] m o m2 11 279 := by
  unfold sf_229_80 at e
  refine sh_Lk_lift (T := m.T) (I := m.I) (J := m.J) (s := m.s) (pc2 := 12) (lv2 := [(3, .int (x3 + 1)), (0, .ref 62), (1, .ref 19), (2, .int x2)]) (st2 := []) (I2 := m.I) (J2 := m.J) (fun hT v kk => ?_) ?_
  · refine sh_w (i := (.iinc 3 1)) (len := 3) (pc2 := 83) (lv2 := [(3, .int (x3 + 1)), (0, .ref 62), (1, .ref 19), (2, .int x2)]) (st2 := []) (h2 := (sh_rep m.T m.I m.J)) rfl rfl rfl ?_
    refine sh_w (i := (.goto (-71))) (len := 3) (pc2 := 12) (lv2 := [(3, .int (x3 + 1)), (0, .ref 62), (1, .ref 19), (2, .int x2)]) (st2 := []) (h2 := (sh_rep m.T m.I m.J)) rfl rfl rfl ?_
    exact kk
  obtain rfl := Option.some.inj e
  exact sh_Lk_sub (sh_sub_c rfl (sh_sub_c rfl (sh_sub_c rfl (sh_sub_c rfl (sh_sub_n))))) tg
theorem sl_229_12s {x2 : Int32} {x3 : Int32} {m m2 : sh_X} {o : Outcome} {z : ((Int32 × sh_X) ⊕ ((Int32 × sh_X) ⊕ (Unit × sh_X)))} (e : sf_229_12s x2 x3 m = some z) (tg : (sh_el (fun q => sh_Lk 229 12 [(0, .ref 62), (1, .ref 19), (2, .int x2), (3, .int q.1)] [] q.2 o m2 11 279) (sh_el (fun q => sh_Lk 229 2 [(0, .ref 62), (1, .ref 19), (2, .int q.1)] [] q.2 o m2 11 279) (sh_tV o m2))) z) : sh_Lk 229 12 [(0, .ref 62), (1, .ref 19), (2, .int x2), (3, .int x3)] [] m o m2 11 279 := by
  unfold sf_229_12s at e
  refine sh_Lk_lift (T := m.T) (I := m.I) (J := m.J) (s := m.s) (pc2 := 18) (lv2 := [(0, .ref 62), (1, .ref 19), (2, .int x2), (3, .int x3)]) (st2 := [.int x2, .ref 21, .int x3]) (I2 := m.I) (J2 := m.J) (fun hT v kk => ?_) ?_
  · refine sh_w (i := (.iload_n 3)) (len := 1) (pc2 := 13) (lv2 := [(0, .ref 62), (1, .ref 19), (2, .int x2), (3, .int x3)]) (st2 := [.int x3]) (h2 := (sh_rep m.T m.I m.J)) rfl rfl rfl ?_
    refine sh_w (i := (.aload_n 1)) (len := 1) (pc2 := 14) (lv2 := [(0, .ref 62), (1, .ref 19), (2, .int x2), (3, .int x3)]) (st2 := [.ref 19, .int x3]) (h2 := (sh_rep m.T m.I m.J)) rfl rfl rfl ?_
    refine sh_gR1 (len := 3) (x := .ref 21) (pc2 := 17) rfl rfl (sh_s18 hT.st) rfl rfl ?_
    refine sh_w (i := (.iload_n 2)) (len := 1) (pc2 := 18) (lv2 := [(0, .ref 62), (1, .ref 19), (2, .int x2), (3, .int x3)]) (st2 := [.int x2, .ref 21, .int x3]) (h2 := (sh_rep m.T m.I m.J)) rfl rfl rfl ?_
    exact kk
  obtain ⟨c, e⟩ := sh_gd e
  refine sh_Lk_lift (T := m.T) (I := m.I) (J := m.J) (s := m.s) (pc2 := 19) (lv2 := [(0, .ref 62), (1, .ref 19), (2, .int x2), (3, .int x3)]) (st2 := [.int (m.I 20 (Int32.toNatClampNeg x2)), .int x3]) (I2 := m.I) (J2 := m.J) (fun hT v kk => ?_) ?_
  · refine sh_ia1 (x := m.I 20 (Int32.toNatClampNeg x2)) (pc2 := 19) rfl (sh_s20 hT.st) (sh_okb1 c) (sh_okb2 c) rfl rfl ?_
    exact kk
  rcases sh_ite e with ⟨c, e⟩ | ⟨c, e⟩
  · refine sh_Lk_lift (T := m.T) (I := m.I) (J := m.J) (s := m.s) (pc2 := 25) (lv2 := [(0, .ref 62), (1, .ref 19), (2, .int x2), (3, .int x3)]) (st2 := [.int x3, .int x2, .ref 19]) (I2 := m.I) (J2 := m.J) (fun hT v kk => ?_) ?_
    · refine sh_jc (c := .ge) (off := (67)) (pc2 := 22) false rfl (sh_Bgef c) rfl ?_
      refine sh_w (i := (.aload_n 1)) (len := 1) (pc2 := 23) (lv2 := [(0, .ref 62), (1, .ref 19), (2, .int x2), (3, .int x3)]) (st2 := [.ref 19]) (h2 := (sh_rep m.T m.I m.J)) rfl rfl rfl ?_
      refine sh_w (i := (.iload_n 2)) (len := 1) (pc2 := 24) (lv2 := [(0, .ref 62), (1, .ref 19), (2, .int x2), (3, .int x3)]) (st2 := [.int x2, .ref 19]) (h2 := (sh_rep m.T m.I m.J)) rfl rfl rfl ?_
      refine sh_w (i := (.iload_n 3)) (len := 1) (pc2 := 25) (lv2 := [(0, .ref 62), (1, .ref 19), (2, .int x2), (3, .int x3)]) (st2 := [.int x3, .int x2, .ref 19]) (h2 := (sh_rep m.T m.I m.J)) rfl rfl rfl ?_
      exact kk
    obtain ⟨r1, e1, e⟩ := sh_bc_e e
    refine sh_Lk_cV (r := (some (.int r1))) (st2 := [.int r1]) (pc2 := 28) (k2 := 227) (a := 18) (as := [.ref 19, .int x2, .int x3]) (rest := []) rfl rfl rfl (fun hT => (sh_s18 hT.st)) rfl rfl ⟨Nat.le_of_ble_eq_true rfl, Nat.le_of_ble_eq_true rfl⟩ (sl_227 (by decide) e1 ⟨rfl, rfl⟩) rfl rfl (Nat.le_of_ble_eq_true rfl) (Nat.le_of_ble_eq_true rfl) ?_
    refine sh_Lk_lift (T := m.T) (I := m.I) (J := m.J) (s := m.s) (pc2 := 33) (lv2 := [(4, .int r1), (0, .ref 62), (1, .ref 19), (2, .int x2), (3, .int x3)]) (st2 := [.int r1, .ref 62]) (I2 := m.I) (J2 := m.J) (fun hT v kk => ?_) ?_
    · refine sh_w (i := (.istore 4)) (len := 2) (pc2 := 30) (lv2 := [(4, .int r1), (0, .ref 62), (1, .ref 19), (2, .int x2), (3, .int x3)]) (st2 := []) (h2 := (sh_rep m.T m.I m.J)) rfl rfl rfl ?_
      refine sh_w (i := (.aload_n 0)) (len := 1) (pc2 := 31) (lv2 := [(4, .int r1), (0, .ref 62), (1, .ref 19), (2, .int x2), (3, .int x3)]) (st2 := [.ref 62]) (h2 := (sh_rep m.T m.I m.J)) rfl rfl rfl ?_
      refine sh_w (i := (.iload 4)) (len := 2) (pc2 := 33) (lv2 := [(4, .int r1), (0, .ref 62), (1, .ref 19), (2, .int x2), (3, .int x3)]) (st2 := [.int r1, .ref 62]) (h2 := (sh_rep m.T m.I m.J)) rfl rfl rfl ?_
      exact kk
    obtain ⟨r2, e2, e⟩ := sh_bc_e e
    refine sh_Lk_cV (r := (some (.int (sh_b2 r2)))) (st2 := [.int (sh_b2 r2)]) (pc2 := 36) (k2 := 225) (a := 61) (as := [.ref 62, .int r1]) (rest := []) rfl rfl rfl (fun hT => hT.t61) rfl rfl ⟨Nat.le_of_ble_eq_true rfl, Nat.le_of_ble_eq_true rfl⟩ (sl_225 e2 ⟨rfl, rfl⟩) rfl rfl (Nat.le_of_ble_eq_true rfl) (Nat.le_of_ble_eq_true rfl) ?_
    rcases sh_ite e with ⟨c, e⟩ | ⟨c, e⟩
    · refine sh_Lk_lift (T := m.T) (I := m.I) (J := m.J) (s := m.s) (pc2 := 47) (lv2 := [(4, .int r1), (0, .ref 62), (1, .ref 19), (2, .int x2), (3, .int x3)]) (st2 := [.int 0, .ref 62, .int r1, .ref ((sh_rf m.T 61 3) + 1)]) (I2 := m.I) (J2 := m.J) (fun hT v kk => ?_) ?_
      · refine sh_j0 (c := .eq) (off := (44)) (pc2 := 39) false rfl (sh_Zeqf c) rfl ?_
        refine sh_w (i := (.aload_n 0)) (len := 1) (pc2 := 40) (lv2 := [(4, .int r1), (0, .ref 62), (1, .ref 19), (2, .int x2), (3, .int x3)]) (st2 := [.ref 62]) (h2 := (sh_rep m.T m.I m.J)) rfl rfl rfl ?_
        refine sh_gR1 (len := 3) (x := .ref (sh_rf m.T 61 3 + 1)) (pc2 := 43) rfl rfl hT.t61 rfl rfl ?_
        refine sh_w (i := (.iload 4)) (len := 2) (pc2 := 45) (lv2 := [(4, .int r1), (0, .ref 62), (1, .ref 19), (2, .int x2), (3, .int x3)]) (st2 := [.int r1, .ref ((sh_rf m.T 61 3) + 1)]) (h2 := (sh_rep m.T m.I m.J)) rfl rfl rfl ?_
        refine sh_w (i := (.aload_n 0)) (len := 1) (pc2 := 46) (lv2 := [(4, .int r1), (0, .ref 62), (1, .ref 19), (2, .int x2), (3, .int x3)]) (st2 := [.ref 62, .int r1, .ref ((sh_rf m.T 61 3) + 1)]) (h2 := (sh_rep m.T m.I m.J)) rfl rfl rfl ?_
        refine sh_w (i := (.iconst 0)) (len := 1) (pc2 := 47) (lv2 := [(4, .int r1), (0, .ref 62), (1, .ref 19), (2, .int x2), (3, .int x3)]) (st2 := [.int 0, .ref 62, .int r1, .ref ((sh_rf m.T 61 3) + 1)]) (h2 := (sh_rep m.T m.I m.J)) rfl rfl rfl ?_
        exact kk
      obtain ⟨r3, m13, e3, e⟩ := sh_bn_e e
      refine sh_Lk_cVk (r := (some (.long r3))) (st2 := [.long r3, .int r1, .ref ((sh_rf m.T 61 3) + 1)]) (pc2 := 50) (k2 := 222) (a := 61) (as := [.ref 62, .int 0]) (rest := [.int r1, .ref ((sh_rf m.T 61 3) + 1)]) rfl rfl rfl (fun hT => hT.t61) rfl rfl ⟨Nat.le_of_ble_eq_true rfl, Nat.le_of_ble_eq_true rfl⟩ (sl_222 e3 ⟨rfl, rfl⟩) rfl rfl (Nat.le_of_ble_eq_true rfl) (Nat.le_of_ble_eq_true rfl) (fun hD3 hp3 => ?_)
      obtain ⟨c, e⟩ := sh_gd e
      refine sh_Lk_lift (T := m13.T) (I := m13.I) (J := m13.J) (s := m13.s) (pc2 := 64) (lv2 := [(4, .int r1), (0, .ref 62), (1, .ref 19), (2, .int x2), (3, .int x3)]) (st2 := [.int r1, .ref ((sh_rf m13.T 61 3) + 1), .ref 62, .int r1, .ref ((sh_rf m13.T 61 4) + 1)]) (I2 := m13.I) (J2 := sh_u2 m13.J (sh_rf m.T 61 3) (Int32.toNatClampNeg r1) r3) (fun hT v kk => ?_) ?_
      · refine sh_ls1 (x := r3) (i := r1) (pc2 := 51) rfl (hp3 _ _ hD3.a61_3) (sh_okb1 c) (sh_okb2 c) rfl ?_
        refine sh_w (i := (.aload_n 0)) (len := 1) (pc2 := 52) (lv2 := [(4, .int r1), (0, .ref 62), (1, .ref 19), (2, .int x2), (3, .int x3)]) (st2 := [.ref 62]) (h2 := (sh_rep m13.T m13.I (sh_u2 m13.J (sh_rf m.T 61 3) (Int32.toNatClampNeg r1) r3))) rfl rfl rfl ?_
        refine sh_gR1 (len := 3) (x := .ref (sh_rf m13.T 61 4 + 1)) (pc2 := 55) rfl rfl hT.t61 rfl rfl ?_
        refine sh_w (i := (.iload 4)) (len := 2) (pc2 := 57) (lv2 := [(4, .int r1), (0, .ref 62), (1, .ref 19), (2, .int x2), (3, .int x3)]) (st2 := [.int r1, .ref ((sh_rf m13.T 61 4) + 1)]) (h2 := (sh_rep m13.T m13.I (sh_u2 m13.J (sh_rf m.T 61 3) (Int32.toNatClampNeg r1) r3))) rfl rfl rfl ?_
        refine sh_w (i := (.aload_n 0)) (len := 1) (pc2 := 58) (lv2 := [(4, .int r1), (0, .ref 62), (1, .ref 19), (2, .int x2), (3, .int x3)]) (st2 := [.ref 62, .int r1, .ref ((sh_rf m13.T 61 4) + 1)]) (h2 := (sh_rep m13.T m13.I (sh_u2 m13.J (sh_rf m.T 61 3) (Int32.toNatClampNeg r1) r3))) rfl rfl rfl ?_
        refine sh_w (i := (.aload_n 0)) (len := 1) (pc2 := 59) (lv2 := [(4, .int r1), (0, .ref 62), (1, .ref 19), (2, .int x2), (3, .int x3)]) (st2 := [.ref 62, .ref 62, .int r1, .ref ((sh_rf m13.T 61 4) + 1)]) (h2 := (sh_rep m13.T m13.I (sh_u2 m13.J (sh_rf m.T 61 3) (Int32.toNatClampNeg r1) r3))) rfl rfl rfl ?_
        refine sh_gR1 (len := 3) (x := .ref (sh_rf m13.T 61 3 + 1)) (pc2 := 62) rfl rfl hT.t61 rfl rfl ?_
        refine sh_w (i := (.iload 4)) (len := 2) (pc2 := 64) (lv2 := [(4, .int r1), (0, .ref 62), (1, .ref 19), (2, .int x2), (3, .int x3)]) (st2 := [.int r1, .ref ((sh_rf m13.T 61 3) + 1), .ref 62, .int r1, .ref ((sh_rf m13.T 61 4) + 1)]) (h2 := (sh_rep m13.T m13.I (sh_u2 m13.J (sh_rf m.T 61 3) (Int32.toNatClampNeg r1) r3))) rfl rfl rfl ?_
        exact kk
      obtain ⟨c, e⟩ := sh_gd e
      refine sh_Lk_lift (T := m13.T) (I := m13.I) (J := sh_u2 m13.J (sh_rf m.T 61 3) (Int32.toNatClampNeg r1) r3) (s := m13.s) (pc2 := 70) (lv2 := [(4, .int r1), (0, .ref 62), (1, .ref 19), (2, .int x2), (3, .int x3)]) (st2 := [.int x2, .ref 22, .long ((sh_u2 m13.J (sh_rf m.T 61 3) (Int32.toNatClampNeg r1) r3) (sh_rf m13.T 61 3) (Int32.toNatClampNeg r1)), .ref 62, .int r1, .ref ((sh_rf m13.T 61 4) + 1)]) (I2 := m13.I) (J2 := sh_u2 m13.J (sh_rf m.T 61 3) (Int32.toNatClampNeg r1) r3) (fun hT v kk => ?_) ?_
      · refine sh_la1 (x := (sh_u2 m13.J (sh_rf m.T 61 3) (Int32.toNatClampNeg r1) r3) (sh_rf m13.T 61 3) (Int32.toNatClampNeg r1)) (pc2 := 65) rfl hT.a61_3 (sh_okb1 c) (sh_okb2 c) rfl rfl ?_
        refine sh_w (i := (.aload_n 1)) (len := 1) (pc2 := 66) (lv2 := [(4, .int r1), (0, .ref 62), (1, .ref 19), (2, .int x2), (3, .int x3)]) (st2 := [.ref 19, .long ((sh_u2 m13.J (sh_rf m.T 61 3) (Int32.toNatClampNeg r1) r3) (sh_rf m13.T 61 3) (Int32.toNatClampNeg r1)), .ref 62, .int r1, .ref ((sh_rf m13.T 61 4) + 1)]) (h2 := (sh_rep m13.T m13.I (sh_u2 m13.J (sh_rf m.T 61 3) (Int32.toNatClampNeg r1) r3))) rfl rfl rfl ?_
        refine sh_gR1 (len := 3) (x := .ref 22) (pc2 := 69) rfl rfl (sh_s18 hT.st) rfl rfl ?_
        refine sh_w (i := (.iload_n 2)) (len := 1) (pc2 := 70) (lv2 := [(4, .int r1), (0, .ref 62), (1, .ref 19), (2, .int x2), (3, .int x3)]) (st2 := [.int x2, .ref 22, .long ((sh_u2 m13.J (sh_rf m.T 61 3) (Int32.toNatClampNeg r1) r3) (sh_rf m13.T 61 3) (Int32.toNatClampNeg r1)), .ref 62, .int r1, .ref ((sh_rf m13.T 61 4) + 1)]) (h2 := (sh_rep m13.T m13.I (sh_u2 m13.J (sh_rf m.T 61 3) (Int32.toNatClampNeg r1) r3))) rfl rfl rfl ?_
        exact kk
      obtain ⟨c, e⟩ := sh_gd e
      refine sh_Lk_lift (T := m13.T) (I := m13.I) (J := sh_u2 m13.J (sh_rf m.T 61 3) (Int32.toNatClampNeg r1) r3) (s := m13.s) (pc2 := 76) (lv2 := [(4, .int r1), (0, .ref 62), (1, .ref 19), (2, .int x2), (3, .int x3)]) (st2 := [.int (Int64.toInt32 (((((sh_u2 m13.J (sh_rf m.T 61 3) (Int32.toNatClampNeg r1) r3) 21 (Int32.toNatClampNeg x2)).toUInt64 >>> ((Int32.toInt64 x3).toUInt64 &&& Int64.toUInt64 63)).toInt64) &&& (1 : Int64))), .long ((sh_u2 m13.J (sh_rf m.T 61 3) (Int32.toNatClampNeg r1) r3) (sh_rf m13.T 61 3) (Int32.toNatClampNeg r1)), .ref 62, .int r1, .ref ((sh_rf m13.T 61 4) + 1)]) (I2 := m13.I) (J2 := sh_u2 m13.J (sh_rf m.T 61 3) (Int32.toNatClampNeg r1) r3) (fun hT v kk => ?_) ?_
      · refine sh_la1 (x := (sh_u2 m13.J (sh_rf m.T 61 3) (Int32.toNatClampNeg r1) r3) 21 (Int32.toNatClampNeg x2)) (pc2 := 71) rfl (sh_s21 hT.st) (sh_okb1 c) (sh_okb2 c) rfl rfl ?_
        refine sh_w (i := (.iload_n 3)) (len := 1) (pc2 := 72) (lv2 := [(4, .int r1), (0, .ref 62), (1, .ref 19), (2, .int x2), (3, .int x3)]) (st2 := [.int x3, .long ((sh_u2 m13.J (sh_rf m.T 61 3) (Int32.toNatClampNeg r1) r3) 21 (Int32.toNatClampNeg x2)), .long ((sh_u2 m13.J (sh_rf m.T 61 3) (Int32.toNatClampNeg r1) r3) (sh_rf m13.T 61 3) (Int32.toNatClampNeg r1)), .ref 62, .int r1, .ref ((sh_rf m13.T 61 4) + 1)]) (h2 := (sh_rep m13.T m13.I (sh_u2 m13.J (sh_rf m.T 61 3) (Int32.toNatClampNeg r1) r3))) rfl rfl rfl ?_
        refine sh_w (i := .lushr) (len := 1) (pc2 := 73) (lv2 := [(4, .int r1), (0, .ref 62), (1, .ref 19), (2, .int x2), (3, .int x3)]) (st2 := [.long ((((sh_u2 m13.J (sh_rf m.T 61 3) (Int32.toNatClampNeg r1) r3) 21 (Int32.toNatClampNeg x2)).toUInt64 >>> ((Int32.toInt64 x3).toUInt64 &&& Int64.toUInt64 63)).toInt64), .long ((sh_u2 m13.J (sh_rf m.T 61 3) (Int32.toNatClampNeg r1) r3) (sh_rf m13.T 61 3) (Int32.toNatClampNeg r1)), .ref 62, .int r1, .ref ((sh_rf m13.T 61 4) + 1)]) (h2 := (sh_rep m13.T m13.I (sh_u2 m13.J (sh_rf m.T 61 3) (Int32.toNatClampNeg r1) r3))) rfl rfl rfl ?_
        refine sh_w (i := (.lconst 1)) (len := 1) (pc2 := 74) (lv2 := [(4, .int r1), (0, .ref 62), (1, .ref 19), (2, .int x2), (3, .int x3)]) (st2 := [.long 1, .long ((((sh_u2 m13.J (sh_rf m.T 61 3) (Int32.toNatClampNeg r1) r3) 21 (Int32.toNatClampNeg x2)).toUInt64 >>> ((Int32.toInt64 x3).toUInt64 &&& Int64.toUInt64 63)).toInt64), .long ((sh_u2 m13.J (sh_rf m.T 61 3) (Int32.toNatClampNeg r1) r3) (sh_rf m13.T 61 3) (Int32.toNatClampNeg r1)), .ref 62, .int r1, .ref ((sh_rf m13.T 61 4) + 1)]) (h2 := (sh_rep m13.T m13.I (sh_u2 m13.J (sh_rf m.T 61 3) (Int32.toNatClampNeg r1) r3))) rfl rfl rfl ?_
        refine sh_w (i := .land) (len := 1) (pc2 := 75) (lv2 := [(4, .int r1), (0, .ref 62), (1, .ref 19), (2, .int x2), (3, .int x3)]) (st2 := [.long (((((sh_u2 m13.J (sh_rf m.T 61 3) (Int32.toNatClampNeg r1) r3) 21 (Int32.toNatClampNeg x2)).toUInt64 >>> ((Int32.toInt64 x3).toUInt64 &&& Int64.toUInt64 63)).toInt64) &&& (1 : Int64)), .long ((sh_u2 m13.J (sh_rf m.T 61 3) (Int32.toNatClampNeg r1) r3) (sh_rf m13.T 61 3) (Int32.toNatClampNeg r1)), .ref 62, .int r1, .ref ((sh_rf m13.T 61 4) + 1)]) (h2 := (sh_rep m13.T m13.I (sh_u2 m13.J (sh_rf m.T 61 3) (Int32.toNatClampNeg r1) r3))) rfl rfl rfl ?_
        refine sh_w (i := .l2i) (len := 1) (pc2 := 76) (lv2 := [(4, .int r1), (0, .ref 62), (1, .ref 19), (2, .int x2), (3, .int x3)]) (st2 := [.int (Int64.toInt32 (((((sh_u2 m13.J (sh_rf m.T 61 3) (Int32.toNatClampNeg r1) r3) 21 (Int32.toNatClampNeg x2)).toUInt64 >>> ((Int32.toInt64 x3).toUInt64 &&& Int64.toUInt64 63)).toInt64) &&& (1 : Int64))), .long ((sh_u2 m13.J (sh_rf m.T 61 3) (Int32.toNatClampNeg r1) r3) (sh_rf m13.T 61 3) (Int32.toNatClampNeg r1)), .ref 62, .int r1, .ref ((sh_rf m13.T 61 4) + 1)]) (h2 := (sh_rep m13.T m13.I (sh_u2 m13.J (sh_rf m.T 61 3) (Int32.toNatClampNeg r1) r3))) rfl rfl rfl ?_
        exact kk
      obtain ⟨r4, m14, e4, e⟩ := sh_bn_e e
      refine sh_Lk_cVk (r := (some (.long r4))) (st2 := [.long r4, .int r1, .ref ((sh_rf m13.T 61 4) + 1)]) (pc2 := 79) (k2 := 230) (a := 61) (as := [.ref 62, .long ((sh_u2 m13.J (sh_rf m.T 61 3) (Int32.toNatClampNeg r1) r3) (sh_rf m13.T 61 3) (Int32.toNatClampNeg r1)), .int (Int64.toInt32 (((((sh_u2 m13.J (sh_rf m.T 61 3) (Int32.toNatClampNeg r1) r3) 21 (Int32.toNatClampNeg x2)).toUInt64 >>> ((Int32.toInt64 x3).toUInt64 &&& Int64.toUInt64 63)).toInt64) &&& (1 : Int64)))]) (rest := [.int r1, .ref ((sh_rf m13.T 61 4) + 1)]) rfl rfl rfl (fun hT => hT.t61) rfl rfl ⟨Nat.le_of_ble_eq_true rfl, Nat.le_of_ble_eq_true rfl⟩ (sl_230 e4 ⟨rfl, rfl⟩) rfl rfl (Nat.le_of_ble_eq_true rfl) (Nat.le_of_ble_eq_true rfl) (fun hD4 hp4 => ?_)
      obtain ⟨c, e⟩ := sh_gd e
      refine sh_Lk_lift (T := m14.T) (I := m14.I) (J := m14.J) (s := m14.s) (pc2 := 80) (lv2 := [(4, .int r1), (0, .ref 62), (1, .ref 19), (2, .int x2), (3, .int x3)]) (st2 := []) (I2 := m14.I) (J2 := sh_u2 m14.J (sh_rf m13.T 61 4) (Int32.toNatClampNeg r1) r4) (fun hT v kk => ?_) ?_
      · refine sh_ls1 (x := r4) (i := r1) (pc2 := 80) rfl (hp4 _ _ hD4.a61_4) (sh_okb1 c) (sh_okb2 c) rfl ?_
        exact kk
      exact sh_Lk_sub (sh_sub_c rfl (sh_sub_c rfl (sh_sub_c rfl (sh_sub_c rfl (sh_sub_n))))) (sl_229_80 e tg)
    · refine sh_Lk_lift (T := m.T) (I := m.I) (J := m.J) (s := m.s) (pc2 := 80) (lv2 := [(4, .int r1), (0, .ref 62), (1, .ref 19), (2, .int x2), (3, .int x3)]) (st2 := []) (I2 := m.I) (J2 := m.J) (fun hT v kk => ?_) ?_
      · refine sh_j0 (c := .eq) (off := (44)) (pc2 := 80) true rfl (sh_Zeqt c) rfl ?_
        exact kk
      exact sh_Lk_sub (sh_sub_c rfl (sh_sub_c rfl (sh_sub_c rfl (sh_sub_c rfl (sh_sub_n))))) (sl_229_80 e tg)
  · refine sh_Lk_lift (T := m.T) (I := m.I) (J := m.J) (s := m.s) (pc2 := 2) (lv2 := [(2, .int (x2 + 1)), (0, .ref 62), (1, .ref 19), (3, .int x3)]) (st2 := []) (I2 := m.I) (J2 := m.J) (fun hT v kk => ?_) ?_
    · refine sh_jc (c := .ge) (off := (67)) (pc2 := 86) true rfl (sh_Bget c) rfl ?_
      refine sh_w (i := (.iinc 2 1)) (len := 3) (pc2 := 89) (lv2 := [(2, .int (x2 + 1)), (0, .ref 62), (1, .ref 19), (3, .int x3)]) (st2 := []) (h2 := (sh_rep m.T m.I m.J)) rfl rfl rfl ?_
      refine sh_w (i := (.goto (-87))) (len := 3) (pc2 := 2) (lv2 := [(2, .int (x2 + 1)), (0, .ref 62), (1, .ref 19), (3, .int x3)]) (st2 := []) (h2 := (sh_rep m.T m.I m.J)) rfl rfl rfl ?_
      exact kk
    obtain rfl := Option.some.inj e
    exact sh_Lk_sub (sh_sub_c rfl (sh_sub_c rfl (sh_sub_c rfl (sh_sub_n)))) tg
theorem sl_229_12 {x2 : Int32} {x3 : Int32} {m m2 : sh_X} {o : Outcome} {z : ((Int32 × sh_X) ⊕ (Unit × sh_X))} (e : sf_229_12 x2 x3 m = some z) (tg : (sh_el (fun q => sh_Lk 229 2 [(0, .ref 62), (1, .ref 19), (2, .int q.1)] [] q.2 o m2 11 279) (sh_tV o m2)) z) : sh_Lk 229 12 [(0, .ref 62), (1, .ref 19), (2, .int x2), (3, .int x3)] [] m o m2 11 279 := by
  unfold sf_229_12 at e
  exact sh_while_lk (P := fun q => sh_Lk 229 12 [(0, .ref 62), (1, .ref 19), (2, .int x2), (3, .int q.1)] [] q.2 o m2 11 279) (Q := (sh_el (fun q => sh_Lk 229 2 [(0, .ref 62), (1, .ref 19), (2, .int q.1)] [] q.2 o m2 11 279) (sh_tV o m2))) (fun q z e tg => sl_229_12s (x2 := x2) (x3 := q.1) (m := q.2) e tg) (s := (x3, m)) e tg
theorem sl_229_2s {x2 : Int32} {m m2 : sh_X} {o : Outcome} {z : ((Int32 × sh_X) ⊕ (Unit × sh_X))} (e : sf_229_2s x2 m = some z) (tg : (sh_el (fun q => sh_Lk 229 2 [(0, .ref 62), (1, .ref 19), (2, .int q.1)] [] q.2 o m2 11 279) (sh_tV o m2)) z) : sh_Lk 229 2 [(0, .ref 62), (1, .ref 19), (2, .int x2)] [] m o m2 11 279 := by
  unfold sf_229_2s at e
  refine sh_Lk_lift (T := m.T) (I := m.I) (J := m.J) (s := m.s) (pc2 := 7) (lv2 := [(0, .ref 62), (1, .ref 19), (2, .int x2)]) (st2 := [.int (m.I 18 4), .int x2]) (I2 := m.I) (J2 := m.J) (fun hT v kk => ?_) ?_
  · refine sh_w (i := (.iload_n 2)) (len := 1) (pc2 := 3) (lv2 := [(0, .ref 62), (1, .ref 19), (2, .int x2)]) (st2 := [.int x2]) (h2 := (sh_rep m.T m.I m.J)) rfl rfl rfl ?_
    refine sh_w (i := (.aload_n 1)) (len := 1) (pc2 := 4) (lv2 := [(0, .ref 62), (1, .ref 19), (2, .int x2)]) (st2 := [.ref 19, .int x2]) (h2 := (sh_rep m.T m.I m.J)) rfl rfl rfl ?_
    refine sh_gI1 (len := 3) (x := m.I 18 4) (pc2 := 7) rfl rfl (sh_s18 hT.st) rfl rfl rfl ?_
    exact kk
  rcases sh_ite e with ⟨c, e⟩ | ⟨c, e⟩
  · refine sh_Lk_lift (T := m.T) (I := m.I) (J := m.J) (s := m.s) (pc2 := 12) (lv2 := [(3, .int 0), (0, .ref 62), (1, .ref 19), (2, .int x2)]) (st2 := []) (I2 := m.I) (J2 := m.J) (fun hT v kk => ?_) ?_
    · refine sh_jc (c := .ge) (off := (85)) (pc2 := 10) false rfl (sh_Bgef c) rfl ?_
      refine sh_w (i := (.iconst 0)) (len := 1) (pc2 := 11) (lv2 := [(0, .ref 62), (1, .ref 19), (2, .int x2)]) (st2 := [.int 0]) (h2 := (sh_rep m.T m.I m.J)) rfl rfl rfl ?_
      refine sh_w (i := (.istore_n 3)) (len := 1) (pc2 := 12) (lv2 := [(3, .int 0), (0, .ref 62), (1, .ref 19), (2, .int x2)]) (st2 := []) (h2 := (sh_rep m.T m.I m.J)) rfl rfl rfl ?_
      exact kk
    exact sh_Lk_sub (sh_sub_c rfl (sh_sub_c rfl (sh_sub_c rfl (sh_sub_c rfl (sh_sub_n))))) (sl_229_12 e tg)
  · refine sh_Lk_lift (T := m.T) (I := m.I) (J := m.J) (s := m.s) (pc2 := 92) (lv2 := [(0, .ref 62), (1, .ref 19), (2, .int x2)]) (st2 := []) (I2 := m.I) (J2 := m.J) (fun hT v kk => ?_) ?_
    · refine sh_jc (c := .ge) (off := (85)) (pc2 := 92) true rfl (sh_Bget c) rfl ?_
      exact kk
    obtain rfl := Option.some.inj e
    obtain ⟨rfl, rfl⟩ := tg
    exact sh_Lk_ret (i := .return_) rfl rfl rfl (Nat.le_of_ble_eq_true rfl) (Nat.le_of_ble_eq_true rfl)
theorem sl_229_2 {x2 : Int32} {m m2 : sh_X} {o : Outcome} {z : (Unit × sh_X)} (e : sf_229_2 x2 m = some z) (tg : (sh_tV o m2) z) : sh_Lk 229 2 [(0, .ref 62), (1, .ref 19), (2, .int x2)] [] m o m2 11 279 := by
  unfold sf_229_2 at e
  exact sh_while_lk (P := fun q => sh_Lk 229 2 [(0, .ref 62), (1, .ref 19), (2, .int q.1)] [] q.2 o m2 11 279) (Q := (sh_tV o m2)) (fun q z e tg => sl_229_2s (x2 := q.1) (m := q.2) e tg) (s := (x2, m)) e tg
theorem sl_229 {m m2 : sh_X} {o : Outcome} {z : (Unit × sh_X)} (e : sf_229 m = some z) (tg : (sh_tV o m2) z) : sh_Lk 229 0 [(0, .ref 62), (1, .ref 19)] [] m o m2 11 279 := by
  unfold sf_229 at e
  refine sh_Lk_lift (T := m.T) (I := m.I) (J := m.J) (s := m.s) (pc2 := 2) (lv2 := [(2, .int 0), (0, .ref 62), (1, .ref 19)]) (st2 := []) (I2 := m.I) (J2 := m.J) (fun hT v kk => ?_) ?_
  · refine sh_w (i := (.iconst 0)) (len := 1) (pc2 := 1) (lv2 := [(0, .ref 62), (1, .ref 19)]) (st2 := [.int 0]) (h2 := (sh_rep m.T m.I m.J)) rfl rfl rfl ?_
    refine sh_w (i := (.istore_n 2)) (len := 1) (pc2 := 2) (lv2 := [(2, .int 0), (0, .ref 62), (1, .ref 19)]) (st2 := []) (h2 := (sh_rep m.T m.I m.J)) rfl rfl rfl ?_
    exact kk
  exact sh_Lk_sub (sh_sub_c rfl (sh_sub_c rfl (sh_sub_c rfl (sh_sub_n)))) (sl_229_2 e tg)
theorem sl_232 {x0 : Int64} {x2 : Int64} {x4 : Int32} {m m2 : sh_X} {o : Outcome} {z : Int64} (e : sf_232 x0 x2 x4 = z) (tg : (sh_tJc m o m2) z) : sh_Lk 232 0 [(0, .long x0), (2, .long x2), (4, .int x4)] [] m o m2 9 223 := by
  unfold sf_232 at e
  refine sh_Lk_lift (T := m.T) (I := m.I) (J := m.J) (s := m.s) (pc2 := 19) (lv2 := [(0, .long x0), (2, .long x2), (4, .int x4)]) (st2 := [.long (((x0 * (-7046029254386353131 : Int64)) + ((x2 <<< (Int32.toInt64 23 &&& 63)) ||| ((x2.toUInt64 >>> ((Int32.toInt64 41).toUInt64 &&& Int64.toUInt64 63)).toInt64))) + (Int32.toInt64 x4))]) (I2 := m.I) (J2 := m.J) (fun hT v kk => ?_) ?_
  · refine sh_w (i := (.lload_n 0)) (len := 1) (pc2 := 1) (lv2 := [(0, .long x0), (2, .long x2), (4, .int x4)]) (st2 := [.long x0]) (h2 := (sh_rep m.T m.I m.J)) rfl rfl rfl ?_
    refine sh_w (i := (.ldc2_w 80)) (len := 3) (pc2 := 4) (lv2 := [(0, .long x0), (2, .long x2), (4, .int x4)]) (st2 := [.long (-7046029254386353131), .long x0]) (h2 := (sh_rep m.T m.I m.J)) rfl rfl rfl ?_
    refine sh_w (i := .lmul) (len := 1) (pc2 := 5) (lv2 := [(0, .long x0), (2, .long x2), (4, .int x4)]) (st2 := [.long (x0 * (-7046029254386353131 : Int64))]) (h2 := (sh_rep m.T m.I m.J)) rfl rfl rfl ?_
    refine sh_w (i := (.lload_n 2)) (len := 1) (pc2 := 6) (lv2 := [(0, .long x0), (2, .long x2), (4, .int x4)]) (st2 := [.long x2, .long (x0 * (-7046029254386353131 : Int64))]) (h2 := (sh_rep m.T m.I m.J)) rfl rfl rfl ?_
    refine sh_w (i := (.bipush 23)) (len := 2) (pc2 := 8) (lv2 := [(0, .long x0), (2, .long x2), (4, .int x4)]) (st2 := [.int 23, .long x2, .long (x0 * (-7046029254386353131 : Int64))]) (h2 := (sh_rep m.T m.I m.J)) rfl rfl rfl ?_
    refine sh_w (i := .lshl) (len := 1) (pc2 := 9) (lv2 := [(0, .long x0), (2, .long x2), (4, .int x4)]) (st2 := [.long (x2 <<< (Int32.toInt64 23 &&& 63)), .long (x0 * (-7046029254386353131 : Int64))]) (h2 := (sh_rep m.T m.I m.J)) rfl rfl rfl ?_
    refine sh_w (i := (.lload_n 2)) (len := 1) (pc2 := 10) (lv2 := [(0, .long x0), (2, .long x2), (4, .int x4)]) (st2 := [.long x2, .long (x2 <<< (Int32.toInt64 23 &&& 63)), .long (x0 * (-7046029254386353131 : Int64))]) (h2 := (sh_rep m.T m.I m.J)) rfl rfl rfl ?_
    refine sh_w (i := (.bipush 41)) (len := 2) (pc2 := 12) (lv2 := [(0, .long x0), (2, .long x2), (4, .int x4)]) (st2 := [.int 41, .long x2, .long (x2 <<< (Int32.toInt64 23 &&& 63)), .long (x0 * (-7046029254386353131 : Int64))]) (h2 := (sh_rep m.T m.I m.J)) rfl rfl rfl ?_
    refine sh_w (i := .lushr) (len := 1) (pc2 := 13) (lv2 := [(0, .long x0), (2, .long x2), (4, .int x4)]) (st2 := [.long ((x2.toUInt64 >>> ((Int32.toInt64 41).toUInt64 &&& Int64.toUInt64 63)).toInt64), .long (x2 <<< (Int32.toInt64 23 &&& 63)), .long (x0 * (-7046029254386353131 : Int64))]) (h2 := (sh_rep m.T m.I m.J)) rfl rfl rfl ?_
    refine sh_w (i := .lor) (len := 1) (pc2 := 14) (lv2 := [(0, .long x0), (2, .long x2), (4, .int x4)]) (st2 := [.long ((x2 <<< (Int32.toInt64 23 &&& 63)) ||| ((x2.toUInt64 >>> ((Int32.toInt64 41).toUInt64 &&& Int64.toUInt64 63)).toInt64)), .long (x0 * (-7046029254386353131 : Int64))]) (h2 := (sh_rep m.T m.I m.J)) rfl rfl rfl ?_
    refine sh_w (i := .ladd) (len := 1) (pc2 := 15) (lv2 := [(0, .long x0), (2, .long x2), (4, .int x4)]) (st2 := [.long ((x0 * (-7046029254386353131 : Int64)) + ((x2 <<< (Int32.toInt64 23 &&& 63)) ||| ((x2.toUInt64 >>> ((Int32.toInt64 41).toUInt64 &&& Int64.toUInt64 63)).toInt64)))]) (h2 := (sh_rep m.T m.I m.J)) rfl rfl rfl ?_
    refine sh_w (i := (.iload 4)) (len := 2) (pc2 := 17) (lv2 := [(0, .long x0), (2, .long x2), (4, .int x4)]) (st2 := [.int x4, .long ((x0 * (-7046029254386353131 : Int64)) + ((x2 <<< (Int32.toInt64 23 &&& 63)) ||| ((x2.toUInt64 >>> ((Int32.toInt64 41).toUInt64 &&& Int64.toUInt64 63)).toInt64)))]) (h2 := (sh_rep m.T m.I m.J)) rfl rfl rfl ?_
    refine sh_w (i := .i2l) (len := 1) (pc2 := 18) (lv2 := [(0, .long x0), (2, .long x2), (4, .int x4)]) (st2 := [.long (Int32.toInt64 x4), .long ((x0 * (-7046029254386353131 : Int64)) + ((x2 <<< (Int32.toInt64 23 &&& 63)) ||| ((x2.toUInt64 >>> ((Int32.toInt64 41).toUInt64 &&& Int64.toUInt64 63)).toInt64)))]) (h2 := (sh_rep m.T m.I m.J)) rfl rfl rfl ?_
    refine sh_w (i := .ladd) (len := 1) (pc2 := 19) (lv2 := [(0, .long x0), (2, .long x2), (4, .int x4)]) (st2 := [.long (((x0 * (-7046029254386353131 : Int64)) + ((x2 <<< (Int32.toInt64 23 &&& 63)) ||| ((x2.toUInt64 >>> ((Int32.toInt64 41).toUInt64 &&& Int64.toUInt64 63)).toInt64))) + (Int32.toInt64 x4))]) (h2 := (sh_rep m.T m.I m.J)) rfl rfl rfl ?_
    exact kk
  refine sh_Lk_cS (r := (some (.long (sf_223 (((x0 * (-7046029254386353131 : Int64)) + ((x2 <<< (Int32.toInt64 23 &&& 63)) ||| ((x2.toUInt64 >>> ((Int32.toInt64 41).toUInt64 &&& Int64.toUInt64 63)).toInt64))) + (Int32.toInt64 x4)))))) (st2 := [.long (sf_223 (((x0 * (-7046029254386353131 : Int64)) + ((x2 <<< (Int32.toInt64 23 &&& 63)) ||| ((x2.toUInt64 >>> ((Int32.toInt64 41).toUInt64 &&& Int64.toUInt64 63)).toInt64))) + (Int32.toInt64 x4)))]) (pc2 := 22) (k2 := 223) (as := [.long (((x0 * (-7046029254386353131 : Int64)) + ((x2 <<< (Int32.toInt64 23 &&& 63)) ||| ((x2.toUInt64 >>> ((Int32.toInt64 41).toUInt64 &&& Int64.toUInt64 63)).toInt64))) + (Int32.toInt64 x4))]) (rest := []) rfl rfl (by decide) (Nat.le_of_ble_eq_true rfl) rfl rfl ⟨Nat.le_of_ble_eq_true rfl, Nat.le_of_ble_eq_true rfl⟩ (sl_223 (m := m) rfl ⟨rfl, rfl⟩) rfl rfl (Nat.le_of_ble_eq_true rfl) (Nat.le_of_ble_eq_true rfl) ?_
  obtain rfl := e
  obtain ⟨rfl, rfl⟩ := tg
  exact sh_Lk_ret (i := .lreturn) rfl rfl rfl (Nat.le_of_ble_eq_true rfl) (Nat.le_of_ble_eq_true rfl)
theorem sl_231_10s {x1 : Int32} {x2 : Int64} {x4 : Int64} {x6 : Int64} {x8 : Int32} {m m2 : sh_X} {o : Outcome} {z : ((Int32 × sh_X) ⊕ (Unit × sh_X))} (e : sf_231_10s x1 x2 x4 x6 x8 m = some z) (tg : (sh_el (fun q => sh_Lk 231 10 [(0, .ref 62), (1, .int x1), (2, .long x2), (4, .long x4), (6, .long x6), (8, .int q.1)] [] q.2 o m2 10 247) (sh_tV o m2)) z) : sh_Lk 231 10 [(0, .ref 62), (1, .int x1), (2, .long x2), (4, .long x4), (6, .long x6), (8, .int x8)] [] m o m2 10 247 := by
  unfold sf_231_10s at e
  refine sh_Lk_lift (T := m.T) (I := m.I) (J := m.J) (s := m.s) (pc2 := 13) (lv2 := [(0, .ref 62), (1, .int x1), (2, .long x2), (4, .long x4), (6, .long x6), (8, .int x8)]) (st2 := [.int 4, .int x8]) (I2 := m.I) (J2 := m.J) (fun hT v kk => ?_) ?_
  · refine sh_w (i := (.iload 8)) (len := 2) (pc2 := 12) (lv2 := [(0, .ref 62), (1, .int x1), (2, .long x2), (4, .long x4), (6, .long x6), (8, .int x8)]) (st2 := [.int x8]) (h2 := (sh_rep m.T m.I m.J)) rfl rfl rfl ?_
    refine sh_w (i := (.iconst 4)) (len := 1) (pc2 := 13) (lv2 := [(0, .ref 62), (1, .int x1), (2, .long x2), (4, .long x4), (6, .long x6), (8, .int x8)]) (st2 := [.int 4, .int x8]) (h2 := (sh_rep m.T m.I m.J)) rfl rfl rfl ?_
    exact kk
  rcases sh_ite e with ⟨c, e⟩ | ⟨c, e⟩
  · refine sh_Lk_lift (T := m.T) (I := m.I) (J := m.J) (s := m.s) (pc2 := 94) (lv2 := [(15, .int (Int64.toInt32 (((2 : Int64) * ((x2 ^^^ ((Int32.toInt64 (x8 >>> (1 &&& 31))) * (m.J 61 5))) &&& (1 : Int64))) + ((x4 ^^^ ((Int32.toInt64 (x8 &&& 1)) * (m.J 61 5))) &&& (1 : Int64))))), (13, .long (x4 ^^^ ((Int32.toInt64 (x8 &&& 1)) * (m.J 61 5)))), (11, .long (x2 ^^^ ((Int32.toInt64 (x8 >>> (1 &&& 31))) * (m.J 61 5)))), (10, .int (x8 &&& 1)), (9, .int (x8 >>> (1 &&& 31))), (0, .ref 62), (1, .int x1), (2, .long x2), (4, .long x4), (6, .long x6), (8, .int x8)]) (st2 := [.int x1, .long (x4 ^^^ ((Int32.toInt64 (x8 &&& 1)) * (m.J 61 5))), .long (x2 ^^^ ((Int32.toInt64 (x8 >>> (1 &&& 31))) * (m.J 61 5))), .long (x6 ^^^ ((Int32.toInt64 ((x8 >>> (1 &&& 31)) &&& (x8 &&& 1))) * (m.J 61 5))), .int (Int64.toInt32 (((2 : Int64) * ((x2 ^^^ ((Int32.toInt64 (x8 >>> (1 &&& 31))) * (m.J 61 5))) &&& (1 : Int64))) + ((x4 ^^^ ((Int32.toInt64 (x8 &&& 1)) * (m.J 61 5))) &&& (1 : Int64)))), .ref 64]) (I2 := m.I) (J2 := m.J) (fun hT v kk => ?_) ?_
    · refine sh_jc (c := .ge) (off := (92)) (pc2 := 16) false rfl (sh_Bgef c) rfl ?_
      refine sh_w (i := (.iload 8)) (len := 2) (pc2 := 18) (lv2 := [(0, .ref 62), (1, .int x1), (2, .long x2), (4, .long x4), (6, .long x6), (8, .int x8)]) (st2 := [.int x8]) (h2 := (sh_rep m.T m.I m.J)) rfl rfl rfl ?_
      refine sh_w (i := (.iconst 1)) (len := 1) (pc2 := 19) (lv2 := [(0, .ref 62), (1, .int x1), (2, .long x2), (4, .long x4), (6, .long x6), (8, .int x8)]) (st2 := [.int 1, .int x8]) (h2 := (sh_rep m.T m.I m.J)) rfl rfl rfl ?_
      refine sh_w (i := .ishr) (len := 1) (pc2 := 20) (lv2 := [(0, .ref 62), (1, .int x1), (2, .long x2), (4, .long x4), (6, .long x6), (8, .int x8)]) (st2 := [.int (x8 >>> (1 &&& 31))]) (h2 := (sh_rep m.T m.I m.J)) rfl rfl rfl ?_
      refine sh_w (i := (.istore 9)) (len := 2) (pc2 := 22) (lv2 := [(9, .int (x8 >>> (1 &&& 31))), (0, .ref 62), (1, .int x1), (2, .long x2), (4, .long x4), (6, .long x6), (8, .int x8)]) (st2 := []) (h2 := (sh_rep m.T m.I m.J)) rfl rfl rfl ?_
      refine sh_w (i := (.iload 8)) (len := 2) (pc2 := 24) (lv2 := [(9, .int (x8 >>> (1 &&& 31))), (0, .ref 62), (1, .int x1), (2, .long x2), (4, .long x4), (6, .long x6), (8, .int x8)]) (st2 := [.int x8]) (h2 := (sh_rep m.T m.I m.J)) rfl rfl rfl ?_
      refine sh_w (i := (.iconst 1)) (len := 1) (pc2 := 25) (lv2 := [(9, .int (x8 >>> (1 &&& 31))), (0, .ref 62), (1, .int x1), (2, .long x2), (4, .long x4), (6, .long x6), (8, .int x8)]) (st2 := [.int 1, .int x8]) (h2 := (sh_rep m.T m.I m.J)) rfl rfl rfl ?_
      refine sh_w (i := .iand) (len := 1) (pc2 := 26) (lv2 := [(9, .int (x8 >>> (1 &&& 31))), (0, .ref 62), (1, .int x1), (2, .long x2), (4, .long x4), (6, .long x6), (8, .int x8)]) (st2 := [.int (x8 &&& 1)]) (h2 := (sh_rep m.T m.I m.J)) rfl rfl rfl ?_
      refine sh_w (i := (.istore 10)) (len := 2) (pc2 := 28) (lv2 := [(10, .int (x8 &&& 1)), (9, .int (x8 >>> (1 &&& 31))), (0, .ref 62), (1, .int x1), (2, .long x2), (4, .long x4), (6, .long x6), (8, .int x8)]) (st2 := []) (h2 := (sh_rep m.T m.I m.J)) rfl rfl rfl ?_
      refine sh_w (i := (.lload_n 2)) (len := 1) (pc2 := 29) (lv2 := [(10, .int (x8 &&& 1)), (9, .int (x8 >>> (1 &&& 31))), (0, .ref 62), (1, .int x1), (2, .long x2), (4, .long x4), (6, .long x6), (8, .int x8)]) (st2 := [.long x2]) (h2 := (sh_rep m.T m.I m.J)) rfl rfl rfl ?_
      refine sh_w (i := (.iload 9)) (len := 2) (pc2 := 31) (lv2 := [(10, .int (x8 &&& 1)), (9, .int (x8 >>> (1 &&& 31))), (0, .ref 62), (1, .int x1), (2, .long x2), (4, .long x4), (6, .long x6), (8, .int x8)]) (st2 := [.int (x8 >>> (1 &&& 31)), .long x2]) (h2 := (sh_rep m.T m.I m.J)) rfl rfl rfl ?_
      refine sh_w (i := .i2l) (len := 1) (pc2 := 32) (lv2 := [(10, .int (x8 &&& 1)), (9, .int (x8 >>> (1 &&& 31))), (0, .ref 62), (1, .int x1), (2, .long x2), (4, .long x4), (6, .long x6), (8, .int x8)]) (st2 := [.long (Int32.toInt64 (x8 >>> (1 &&& 31))), .long x2]) (h2 := (sh_rep m.T m.I m.J)) rfl rfl rfl ?_
      refine sh_w (i := (.aload_n 0)) (len := 1) (pc2 := 33) (lv2 := [(10, .int (x8 &&& 1)), (9, .int (x8 >>> (1 &&& 31))), (0, .ref 62), (1, .int x1), (2, .long x2), (4, .long x4), (6, .long x6), (8, .int x8)]) (st2 := [.ref 62, .long (Int32.toInt64 (x8 >>> (1 &&& 31))), .long x2]) (h2 := (sh_rep m.T m.I m.J)) rfl rfl rfl ?_
      refine sh_gJ1 (len := 3) (x := m.J 61 5) (pc2 := 36) rfl rfl hT.t61 rfl rfl rfl ?_
      refine sh_w (i := .lmul) (len := 1) (pc2 := 37) (lv2 := [(10, .int (x8 &&& 1)), (9, .int (x8 >>> (1 &&& 31))), (0, .ref 62), (1, .int x1), (2, .long x2), (4, .long x4), (6, .long x6), (8, .int x8)]) (st2 := [.long ((Int32.toInt64 (x8 >>> (1 &&& 31))) * (m.J 61 5)), .long x2]) (h2 := (sh_rep m.T m.I m.J)) rfl rfl rfl ?_
      refine sh_w (i := .lxor) (len := 1) (pc2 := 38) (lv2 := [(10, .int (x8 &&& 1)), (9, .int (x8 >>> (1 &&& 31))), (0, .ref 62), (1, .int x1), (2, .long x2), (4, .long x4), (6, .long x6), (8, .int x8)]) (st2 := [.long (x2 ^^^ ((Int32.toInt64 (x8 >>> (1 &&& 31))) * (m.J 61 5)))]) (h2 := (sh_rep m.T m.I m.J)) rfl rfl rfl ?_
      refine sh_w (i := (.lstore 11)) (len := 2) (pc2 := 40) (lv2 := [(11, .long (x2 ^^^ ((Int32.toInt64 (x8 >>> (1 &&& 31))) * (m.J 61 5)))), (10, .int (x8 &&& 1)), (9, .int (x8 >>> (1 &&& 31))), (0, .ref 62), (1, .int x1), (2, .long x2), (4, .long x4), (6, .long x6), (8, .int x8)]) (st2 := []) (h2 := (sh_rep m.T m.I m.J)) rfl rfl rfl ?_
      refine sh_w (i := (.lload 4)) (len := 2) (pc2 := 42) (lv2 := [(11, .long (x2 ^^^ ((Int32.toInt64 (x8 >>> (1 &&& 31))) * (m.J 61 5)))), (10, .int (x8 &&& 1)), (9, .int (x8 >>> (1 &&& 31))), (0, .ref 62), (1, .int x1), (2, .long x2), (4, .long x4), (6, .long x6), (8, .int x8)]) (st2 := [.long x4]) (h2 := (sh_rep m.T m.I m.J)) rfl rfl rfl ?_
      refine sh_w (i := (.iload 10)) (len := 2) (pc2 := 44) (lv2 := [(11, .long (x2 ^^^ ((Int32.toInt64 (x8 >>> (1 &&& 31))) * (m.J 61 5)))), (10, .int (x8 &&& 1)), (9, .int (x8 >>> (1 &&& 31))), (0, .ref 62), (1, .int x1), (2, .long x2), (4, .long x4), (6, .long x6), (8, .int x8)]) (st2 := [.int (x8 &&& 1), .long x4]) (h2 := (sh_rep m.T m.I m.J)) rfl rfl rfl ?_
      refine sh_w (i := .i2l) (len := 1) (pc2 := 45) (lv2 := [(11, .long (x2 ^^^ ((Int32.toInt64 (x8 >>> (1 &&& 31))) * (m.J 61 5)))), (10, .int (x8 &&& 1)), (9, .int (x8 >>> (1 &&& 31))), (0, .ref 62), (1, .int x1), (2, .long x2), (4, .long x4), (6, .long x6), (8, .int x8)]) (st2 := [.long (Int32.toInt64 (x8 &&& 1)), .long x4]) (h2 := (sh_rep m.T m.I m.J)) rfl rfl rfl ?_
      refine sh_w (i := (.aload_n 0)) (len := 1) (pc2 := 46) (lv2 := [(11, .long (x2 ^^^ ((Int32.toInt64 (x8 >>> (1 &&& 31))) * (m.J 61 5)))), (10, .int (x8 &&& 1)), (9, .int (x8 >>> (1 &&& 31))), (0, .ref 62), (1, .int x1), (2, .long x2), (4, .long x4), (6, .long x6), (8, .int x8)]) (st2 := [.ref 62, .long (Int32.toInt64 (x8 &&& 1)), .long x4]) (h2 := (sh_rep m.T m.I m.J)) rfl rfl rfl ?_
      refine sh_gJ1 (len := 3) (x := m.J 61 5) (pc2 := 49) rfl rfl hT.t61 rfl rfl rfl ?_
      refine sh_w (i := .lmul) (len := 1) (pc2 := 50) (lv2 := [(11, .long (x2 ^^^ ((Int32.toInt64 (x8 >>> (1 &&& 31))) * (m.J 61 5)))), (10, .int (x8 &&& 1)), (9, .int (x8 >>> (1 &&& 31))), (0, .ref 62), (1, .int x1), (2, .long x2), (4, .long x4), (6, .long x6), (8, .int x8)]) (st2 := [.long ((Int32.toInt64 (x8 &&& 1)) * (m.J 61 5)), .long x4]) (h2 := (sh_rep m.T m.I m.J)) rfl rfl rfl ?_
      refine sh_w (i := .lxor) (len := 1) (pc2 := 51) (lv2 := [(11, .long (x2 ^^^ ((Int32.toInt64 (x8 >>> (1 &&& 31))) * (m.J 61 5)))), (10, .int (x8 &&& 1)), (9, .int (x8 >>> (1 &&& 31))), (0, .ref 62), (1, .int x1), (2, .long x2), (4, .long x4), (6, .long x6), (8, .int x8)]) (st2 := [.long (x4 ^^^ ((Int32.toInt64 (x8 &&& 1)) * (m.J 61 5)))]) (h2 := (sh_rep m.T m.I m.J)) rfl rfl rfl ?_
      refine sh_w (i := (.lstore 13)) (len := 2) (pc2 := 53) (lv2 := [(13, .long (x4 ^^^ ((Int32.toInt64 (x8 &&& 1)) * (m.J 61 5)))), (11, .long (x2 ^^^ ((Int32.toInt64 (x8 >>> (1 &&& 31))) * (m.J 61 5)))), (10, .int (x8 &&& 1)), (9, .int (x8 >>> (1 &&& 31))), (0, .ref 62), (1, .int x1), (2, .long x2), (4, .long x4), (6, .long x6), (8, .int x8)]) (st2 := []) (h2 := (sh_rep m.T m.I m.J)) rfl rfl rfl ?_
      refine sh_w (i := (.ldc2_w 7)) (len := 3) (pc2 := 56) (lv2 := [(13, .long (x4 ^^^ ((Int32.toInt64 (x8 &&& 1)) * (m.J 61 5)))), (11, .long (x2 ^^^ ((Int32.toInt64 (x8 >>> (1 &&& 31))) * (m.J 61 5)))), (10, .int (x8 &&& 1)), (9, .int (x8 >>> (1 &&& 31))), (0, .ref 62), (1, .int x1), (2, .long x2), (4, .long x4), (6, .long x6), (8, .int x8)]) (st2 := [.long 2]) (h2 := (sh_rep m.T m.I m.J)) rfl rfl rfl ?_
      refine sh_w (i := (.lload 11)) (len := 2) (pc2 := 58) (lv2 := [(13, .long (x4 ^^^ ((Int32.toInt64 (x8 &&& 1)) * (m.J 61 5)))), (11, .long (x2 ^^^ ((Int32.toInt64 (x8 >>> (1 &&& 31))) * (m.J 61 5)))), (10, .int (x8 &&& 1)), (9, .int (x8 >>> (1 &&& 31))), (0, .ref 62), (1, .int x1), (2, .long x2), (4, .long x4), (6, .long x6), (8, .int x8)]) (st2 := [.long (x2 ^^^ ((Int32.toInt64 (x8 >>> (1 &&& 31))) * (m.J 61 5))), .long 2]) (h2 := (sh_rep m.T m.I m.J)) rfl rfl rfl ?_
      refine sh_w (i := (.lconst 1)) (len := 1) (pc2 := 59) (lv2 := [(13, .long (x4 ^^^ ((Int32.toInt64 (x8 &&& 1)) * (m.J 61 5)))), (11, .long (x2 ^^^ ((Int32.toInt64 (x8 >>> (1 &&& 31))) * (m.J 61 5)))), (10, .int (x8 &&& 1)), (9, .int (x8 >>> (1 &&& 31))), (0, .ref 62), (1, .int x1), (2, .long x2), (4, .long x4), (6, .long x6), (8, .int x8)]) (st2 := [.long 1, .long (x2 ^^^ ((Int32.toInt64 (x8 >>> (1 &&& 31))) * (m.J 61 5))), .long 2]) (h2 := (sh_rep m.T m.I m.J)) rfl rfl rfl ?_
      refine sh_w (i := .land) (len := 1) (pc2 := 60) (lv2 := [(13, .long (x4 ^^^ ((Int32.toInt64 (x8 &&& 1)) * (m.J 61 5)))), (11, .long (x2 ^^^ ((Int32.toInt64 (x8 >>> (1 &&& 31))) * (m.J 61 5)))), (10, .int (x8 &&& 1)), (9, .int (x8 >>> (1 &&& 31))), (0, .ref 62), (1, .int x1), (2, .long x2), (4, .long x4), (6, .long x6), (8, .int x8)]) (st2 := [.long ((x2 ^^^ ((Int32.toInt64 (x8 >>> (1 &&& 31))) * (m.J 61 5))) &&& (1 : Int64)), .long 2]) (h2 := (sh_rep m.T m.I m.J)) rfl rfl rfl ?_
      refine sh_w (i := .lmul) (len := 1) (pc2 := 61) (lv2 := [(13, .long (x4 ^^^ ((Int32.toInt64 (x8 &&& 1)) * (m.J 61 5)))), (11, .long (x2 ^^^ ((Int32.toInt64 (x8 >>> (1 &&& 31))) * (m.J 61 5)))), (10, .int (x8 &&& 1)), (9, .int (x8 >>> (1 &&& 31))), (0, .ref 62), (1, .int x1), (2, .long x2), (4, .long x4), (6, .long x6), (8, .int x8)]) (st2 := [.long ((2 : Int64) * ((x2 ^^^ ((Int32.toInt64 (x8 >>> (1 &&& 31))) * (m.J 61 5))) &&& (1 : Int64)))]) (h2 := (sh_rep m.T m.I m.J)) rfl rfl rfl ?_
      refine sh_w (i := (.lload 13)) (len := 2) (pc2 := 63) (lv2 := [(13, .long (x4 ^^^ ((Int32.toInt64 (x8 &&& 1)) * (m.J 61 5)))), (11, .long (x2 ^^^ ((Int32.toInt64 (x8 >>> (1 &&& 31))) * (m.J 61 5)))), (10, .int (x8 &&& 1)), (9, .int (x8 >>> (1 &&& 31))), (0, .ref 62), (1, .int x1), (2, .long x2), (4, .long x4), (6, .long x6), (8, .int x8)]) (st2 := [.long (x4 ^^^ ((Int32.toInt64 (x8 &&& 1)) * (m.J 61 5))), .long ((2 : Int64) * ((x2 ^^^ ((Int32.toInt64 (x8 >>> (1 &&& 31))) * (m.J 61 5))) &&& (1 : Int64)))]) (h2 := (sh_rep m.T m.I m.J)) rfl rfl rfl ?_
      refine sh_w (i := (.lconst 1)) (len := 1) (pc2 := 64) (lv2 := [(13, .long (x4 ^^^ ((Int32.toInt64 (x8 &&& 1)) * (m.J 61 5)))), (11, .long (x2 ^^^ ((Int32.toInt64 (x8 >>> (1 &&& 31))) * (m.J 61 5)))), (10, .int (x8 &&& 1)), (9, .int (x8 >>> (1 &&& 31))), (0, .ref 62), (1, .int x1), (2, .long x2), (4, .long x4), (6, .long x6), (8, .int x8)]) (st2 := [.long 1, .long (x4 ^^^ ((Int32.toInt64 (x8 &&& 1)) * (m.J 61 5))), .long ((2 : Int64) * ((x2 ^^^ ((Int32.toInt64 (x8 >>> (1 &&& 31))) * (m.J 61 5))) &&& (1 : Int64)))]) (h2 := (sh_rep m.T m.I m.J)) rfl rfl rfl ?_
      refine sh_w (i := .land) (len := 1) (pc2 := 65) (lv2 := [(13, .long (x4 ^^^ ((Int32.toInt64 (x8 &&& 1)) * (m.J 61 5)))), (11, .long (x2 ^^^ ((Int32.toInt64 (x8 >>> (1 &&& 31))) * (m.J 61 5)))), (10, .int (x8 &&& 1)), (9, .int (x8 >>> (1 &&& 31))), (0, .ref 62), (1, .int x1), (2, .long x2), (4, .long x4), (6, .long x6), (8, .int x8)]) (st2 := [.long ((x4 ^^^ ((Int32.toInt64 (x8 &&& 1)) * (m.J 61 5))) &&& (1 : Int64)), .long ((2 : Int64) * ((x2 ^^^ ((Int32.toInt64 (x8 >>> (1 &&& 31))) * (m.J 61 5))) &&& (1 : Int64)))]) (h2 := (sh_rep m.T m.I m.J)) rfl rfl rfl ?_
      refine sh_w (i := .ladd) (len := 1) (pc2 := 66) (lv2 := [(13, .long (x4 ^^^ ((Int32.toInt64 (x8 &&& 1)) * (m.J 61 5)))), (11, .long (x2 ^^^ ((Int32.toInt64 (x8 >>> (1 &&& 31))) * (m.J 61 5)))), (10, .int (x8 &&& 1)), (9, .int (x8 >>> (1 &&& 31))), (0, .ref 62), (1, .int x1), (2, .long x2), (4, .long x4), (6, .long x6), (8, .int x8)]) (st2 := [.long (((2 : Int64) * ((x2 ^^^ ((Int32.toInt64 (x8 >>> (1 &&& 31))) * (m.J 61 5))) &&& (1 : Int64))) + ((x4 ^^^ ((Int32.toInt64 (x8 &&& 1)) * (m.J 61 5))) &&& (1 : Int64)))]) (h2 := (sh_rep m.T m.I m.J)) rfl rfl rfl ?_
      refine sh_w (i := .l2i) (len := 1) (pc2 := 67) (lv2 := [(13, .long (x4 ^^^ ((Int32.toInt64 (x8 &&& 1)) * (m.J 61 5)))), (11, .long (x2 ^^^ ((Int32.toInt64 (x8 >>> (1 &&& 31))) * (m.J 61 5)))), (10, .int (x8 &&& 1)), (9, .int (x8 >>> (1 &&& 31))), (0, .ref 62), (1, .int x1), (2, .long x2), (4, .long x4), (6, .long x6), (8, .int x8)]) (st2 := [.int (Int64.toInt32 (((2 : Int64) * ((x2 ^^^ ((Int32.toInt64 (x8 >>> (1 &&& 31))) * (m.J 61 5))) &&& (1 : Int64))) + ((x4 ^^^ ((Int32.toInt64 (x8 &&& 1)) * (m.J 61 5))) &&& (1 : Int64))))]) (h2 := (sh_rep m.T m.I m.J)) rfl rfl rfl ?_
      refine sh_w (i := (.istore 15)) (len := 2) (pc2 := 69) (lv2 := [(15, .int (Int64.toInt32 (((2 : Int64) * ((x2 ^^^ ((Int32.toInt64 (x8 >>> (1 &&& 31))) * (m.J 61 5))) &&& (1 : Int64))) + ((x4 ^^^ ((Int32.toInt64 (x8 &&& 1)) * (m.J 61 5))) &&& (1 : Int64))))), (13, .long (x4 ^^^ ((Int32.toInt64 (x8 &&& 1)) * (m.J 61 5)))), (11, .long (x2 ^^^ ((Int32.toInt64 (x8 >>> (1 &&& 31))) * (m.J 61 5)))), (10, .int (x8 &&& 1)), (9, .int (x8 >>> (1 &&& 31))), (0, .ref 62), (1, .int x1), (2, .long x2), (4, .long x4), (6, .long x6), (8, .int x8)]) (st2 := []) (h2 := (sh_rep m.T m.I m.J)) rfl rfl rfl ?_
      refine sh_w (i := (.aload_n 0)) (len := 1) (pc2 := 70) (lv2 := [(15, .int (Int64.toInt32 (((2 : Int64) * ((x2 ^^^ ((Int32.toInt64 (x8 >>> (1 &&& 31))) * (m.J 61 5))) &&& (1 : Int64))) + ((x4 ^^^ ((Int32.toInt64 (x8 &&& 1)) * (m.J 61 5))) &&& (1 : Int64))))), (13, .long (x4 ^^^ ((Int32.toInt64 (x8 &&& 1)) * (m.J 61 5)))), (11, .long (x2 ^^^ ((Int32.toInt64 (x8 >>> (1 &&& 31))) * (m.J 61 5)))), (10, .int (x8 &&& 1)), (9, .int (x8 >>> (1 &&& 31))), (0, .ref 62), (1, .int x1), (2, .long x2), (4, .long x4), (6, .long x6), (8, .int x8)]) (st2 := [.ref 62]) (h2 := (sh_rep m.T m.I m.J)) rfl rfl rfl ?_
      refine sh_gR1 (len := 3) (x := .ref 64) (pc2 := 73) rfl rfl hT.t61 rfl rfl ?_
      refine sh_w (i := (.iload 15)) (len := 2) (pc2 := 75) (lv2 := [(15, .int (Int64.toInt32 (((2 : Int64) * ((x2 ^^^ ((Int32.toInt64 (x8 >>> (1 &&& 31))) * (m.J 61 5))) &&& (1 : Int64))) + ((x4 ^^^ ((Int32.toInt64 (x8 &&& 1)) * (m.J 61 5))) &&& (1 : Int64))))), (13, .long (x4 ^^^ ((Int32.toInt64 (x8 &&& 1)) * (m.J 61 5)))), (11, .long (x2 ^^^ ((Int32.toInt64 (x8 >>> (1 &&& 31))) * (m.J 61 5)))), (10, .int (x8 &&& 1)), (9, .int (x8 >>> (1 &&& 31))), (0, .ref 62), (1, .int x1), (2, .long x2), (4, .long x4), (6, .long x6), (8, .int x8)]) (st2 := [.int (Int64.toInt32 (((2 : Int64) * ((x2 ^^^ ((Int32.toInt64 (x8 >>> (1 &&& 31))) * (m.J 61 5))) &&& (1 : Int64))) + ((x4 ^^^ ((Int32.toInt64 (x8 &&& 1)) * (m.J 61 5))) &&& (1 : Int64)))), .ref 64]) (h2 := (sh_rep m.T m.I m.J)) rfl rfl rfl ?_
      refine sh_w (i := (.lload 6)) (len := 2) (pc2 := 77) (lv2 := [(15, .int (Int64.toInt32 (((2 : Int64) * ((x2 ^^^ ((Int32.toInt64 (x8 >>> (1 &&& 31))) * (m.J 61 5))) &&& (1 : Int64))) + ((x4 ^^^ ((Int32.toInt64 (x8 &&& 1)) * (m.J 61 5))) &&& (1 : Int64))))), (13, .long (x4 ^^^ ((Int32.toInt64 (x8 &&& 1)) * (m.J 61 5)))), (11, .long (x2 ^^^ ((Int32.toInt64 (x8 >>> (1 &&& 31))) * (m.J 61 5)))), (10, .int (x8 &&& 1)), (9, .int (x8 >>> (1 &&& 31))), (0, .ref 62), (1, .int x1), (2, .long x2), (4, .long x4), (6, .long x6), (8, .int x8)]) (st2 := [.long x6, .int (Int64.toInt32 (((2 : Int64) * ((x2 ^^^ ((Int32.toInt64 (x8 >>> (1 &&& 31))) * (m.J 61 5))) &&& (1 : Int64))) + ((x4 ^^^ ((Int32.toInt64 (x8 &&& 1)) * (m.J 61 5))) &&& (1 : Int64)))), .ref 64]) (h2 := (sh_rep m.T m.I m.J)) rfl rfl rfl ?_
      refine sh_w (i := (.iload 9)) (len := 2) (pc2 := 79) (lv2 := [(15, .int (Int64.toInt32 (((2 : Int64) * ((x2 ^^^ ((Int32.toInt64 (x8 >>> (1 &&& 31))) * (m.J 61 5))) &&& (1 : Int64))) + ((x4 ^^^ ((Int32.toInt64 (x8 &&& 1)) * (m.J 61 5))) &&& (1 : Int64))))), (13, .long (x4 ^^^ ((Int32.toInt64 (x8 &&& 1)) * (m.J 61 5)))), (11, .long (x2 ^^^ ((Int32.toInt64 (x8 >>> (1 &&& 31))) * (m.J 61 5)))), (10, .int (x8 &&& 1)), (9, .int (x8 >>> (1 &&& 31))), (0, .ref 62), (1, .int x1), (2, .long x2), (4, .long x4), (6, .long x6), (8, .int x8)]) (st2 := [.int (x8 >>> (1 &&& 31)), .long x6, .int (Int64.toInt32 (((2 : Int64) * ((x2 ^^^ ((Int32.toInt64 (x8 >>> (1 &&& 31))) * (m.J 61 5))) &&& (1 : Int64))) + ((x4 ^^^ ((Int32.toInt64 (x8 &&& 1)) * (m.J 61 5))) &&& (1 : Int64)))), .ref 64]) (h2 := (sh_rep m.T m.I m.J)) rfl rfl rfl ?_
      refine sh_w (i := (.iload 10)) (len := 2) (pc2 := 81) (lv2 := [(15, .int (Int64.toInt32 (((2 : Int64) * ((x2 ^^^ ((Int32.toInt64 (x8 >>> (1 &&& 31))) * (m.J 61 5))) &&& (1 : Int64))) + ((x4 ^^^ ((Int32.toInt64 (x8 &&& 1)) * (m.J 61 5))) &&& (1 : Int64))))), (13, .long (x4 ^^^ ((Int32.toInt64 (x8 &&& 1)) * (m.J 61 5)))), (11, .long (x2 ^^^ ((Int32.toInt64 (x8 >>> (1 &&& 31))) * (m.J 61 5)))), (10, .int (x8 &&& 1)), (9, .int (x8 >>> (1 &&& 31))), (0, .ref 62), (1, .int x1), (2, .long x2), (4, .long x4), (6, .long x6), (8, .int x8)]) (st2 := [.int (x8 &&& 1), .int (x8 >>> (1 &&& 31)), .long x6, .int (Int64.toInt32 (((2 : Int64) * ((x2 ^^^ ((Int32.toInt64 (x8 >>> (1 &&& 31))) * (m.J 61 5))) &&& (1 : Int64))) + ((x4 ^^^ ((Int32.toInt64 (x8 &&& 1)) * (m.J 61 5))) &&& (1 : Int64)))), .ref 64]) (h2 := (sh_rep m.T m.I m.J)) rfl rfl rfl ?_
      refine sh_w (i := .iand) (len := 1) (pc2 := 82) (lv2 := [(15, .int (Int64.toInt32 (((2 : Int64) * ((x2 ^^^ ((Int32.toInt64 (x8 >>> (1 &&& 31))) * (m.J 61 5))) &&& (1 : Int64))) + ((x4 ^^^ ((Int32.toInt64 (x8 &&& 1)) * (m.J 61 5))) &&& (1 : Int64))))), (13, .long (x4 ^^^ ((Int32.toInt64 (x8 &&& 1)) * (m.J 61 5)))), (11, .long (x2 ^^^ ((Int32.toInt64 (x8 >>> (1 &&& 31))) * (m.J 61 5)))), (10, .int (x8 &&& 1)), (9, .int (x8 >>> (1 &&& 31))), (0, .ref 62), (1, .int x1), (2, .long x2), (4, .long x4), (6, .long x6), (8, .int x8)]) (st2 := [.int ((x8 >>> (1 &&& 31)) &&& (x8 &&& 1)), .long x6, .int (Int64.toInt32 (((2 : Int64) * ((x2 ^^^ ((Int32.toInt64 (x8 >>> (1 &&& 31))) * (m.J 61 5))) &&& (1 : Int64))) + ((x4 ^^^ ((Int32.toInt64 (x8 &&& 1)) * (m.J 61 5))) &&& (1 : Int64)))), .ref 64]) (h2 := (sh_rep m.T m.I m.J)) rfl rfl rfl ?_
      refine sh_w (i := .i2l) (len := 1) (pc2 := 83) (lv2 := [(15, .int (Int64.toInt32 (((2 : Int64) * ((x2 ^^^ ((Int32.toInt64 (x8 >>> (1 &&& 31))) * (m.J 61 5))) &&& (1 : Int64))) + ((x4 ^^^ ((Int32.toInt64 (x8 &&& 1)) * (m.J 61 5))) &&& (1 : Int64))))), (13, .long (x4 ^^^ ((Int32.toInt64 (x8 &&& 1)) * (m.J 61 5)))), (11, .long (x2 ^^^ ((Int32.toInt64 (x8 >>> (1 &&& 31))) * (m.J 61 5)))), (10, .int (x8 &&& 1)), (9, .int (x8 >>> (1 &&& 31))), (0, .ref 62), (1, .int x1), (2, .long x2), (4, .long x4), (6, .long x6), (8, .int x8)]) (st2 := [.long (Int32.toInt64 ((x8 >>> (1 &&& 31)) &&& (x8 &&& 1))), .long x6, .int (Int64.toInt32 (((2 : Int64) * ((x2 ^^^ ((Int32.toInt64 (x8 >>> (1 &&& 31))) * (m.J 61 5))) &&& (1 : Int64))) + ((x4 ^^^ ((Int32.toInt64 (x8 &&& 1)) * (m.J 61 5))) &&& (1 : Int64)))), .ref 64]) (h2 := (sh_rep m.T m.I m.J)) rfl rfl rfl ?_
      refine sh_w (i := (.aload_n 0)) (len := 1) (pc2 := 84) (lv2 := [(15, .int (Int64.toInt32 (((2 : Int64) * ((x2 ^^^ ((Int32.toInt64 (x8 >>> (1 &&& 31))) * (m.J 61 5))) &&& (1 : Int64))) + ((x4 ^^^ ((Int32.toInt64 (x8 &&& 1)) * (m.J 61 5))) &&& (1 : Int64))))), (13, .long (x4 ^^^ ((Int32.toInt64 (x8 &&& 1)) * (m.J 61 5)))), (11, .long (x2 ^^^ ((Int32.toInt64 (x8 >>> (1 &&& 31))) * (m.J 61 5)))), (10, .int (x8 &&& 1)), (9, .int (x8 >>> (1 &&& 31))), (0, .ref 62), (1, .int x1), (2, .long x2), (4, .long x4), (6, .long x6), (8, .int x8)]) (st2 := [.ref 62, .long (Int32.toInt64 ((x8 >>> (1 &&& 31)) &&& (x8 &&& 1))), .long x6, .int (Int64.toInt32 (((2 : Int64) * ((x2 ^^^ ((Int32.toInt64 (x8 >>> (1 &&& 31))) * (m.J 61 5))) &&& (1 : Int64))) + ((x4 ^^^ ((Int32.toInt64 (x8 &&& 1)) * (m.J 61 5))) &&& (1 : Int64)))), .ref 64]) (h2 := (sh_rep m.T m.I m.J)) rfl rfl rfl ?_
      refine sh_gJ1 (len := 3) (x := m.J 61 5) (pc2 := 87) rfl rfl hT.t61 rfl rfl rfl ?_
      refine sh_w (i := .lmul) (len := 1) (pc2 := 88) (lv2 := [(15, .int (Int64.toInt32 (((2 : Int64) * ((x2 ^^^ ((Int32.toInt64 (x8 >>> (1 &&& 31))) * (m.J 61 5))) &&& (1 : Int64))) + ((x4 ^^^ ((Int32.toInt64 (x8 &&& 1)) * (m.J 61 5))) &&& (1 : Int64))))), (13, .long (x4 ^^^ ((Int32.toInt64 (x8 &&& 1)) * (m.J 61 5)))), (11, .long (x2 ^^^ ((Int32.toInt64 (x8 >>> (1 &&& 31))) * (m.J 61 5)))), (10, .int (x8 &&& 1)), (9, .int (x8 >>> (1 &&& 31))), (0, .ref 62), (1, .int x1), (2, .long x2), (4, .long x4), (6, .long x6), (8, .int x8)]) (st2 := [.long ((Int32.toInt64 ((x8 >>> (1 &&& 31)) &&& (x8 &&& 1))) * (m.J 61 5)), .long x6, .int (Int64.toInt32 (((2 : Int64) * ((x2 ^^^ ((Int32.toInt64 (x8 >>> (1 &&& 31))) * (m.J 61 5))) &&& (1 : Int64))) + ((x4 ^^^ ((Int32.toInt64 (x8 &&& 1)) * (m.J 61 5))) &&& (1 : Int64)))), .ref 64]) (h2 := (sh_rep m.T m.I m.J)) rfl rfl rfl ?_
      refine sh_w (i := .lxor) (len := 1) (pc2 := 89) (lv2 := [(15, .int (Int64.toInt32 (((2 : Int64) * ((x2 ^^^ ((Int32.toInt64 (x8 >>> (1 &&& 31))) * (m.J 61 5))) &&& (1 : Int64))) + ((x4 ^^^ ((Int32.toInt64 (x8 &&& 1)) * (m.J 61 5))) &&& (1 : Int64))))), (13, .long (x4 ^^^ ((Int32.toInt64 (x8 &&& 1)) * (m.J 61 5)))), (11, .long (x2 ^^^ ((Int32.toInt64 (x8 >>> (1 &&& 31))) * (m.J 61 5)))), (10, .int (x8 &&& 1)), (9, .int (x8 >>> (1 &&& 31))), (0, .ref 62), (1, .int x1), (2, .long x2), (4, .long x4), (6, .long x6), (8, .int x8)]) (st2 := [.long (x6 ^^^ ((Int32.toInt64 ((x8 >>> (1 &&& 31)) &&& (x8 &&& 1))) * (m.J 61 5))), .int (Int64.toInt32 (((2 : Int64) * ((x2 ^^^ ((Int32.toInt64 (x8 >>> (1 &&& 31))) * (m.J 61 5))) &&& (1 : Int64))) + ((x4 ^^^ ((Int32.toInt64 (x8 &&& 1)) * (m.J 61 5))) &&& (1 : Int64)))), .ref 64]) (h2 := (sh_rep m.T m.I m.J)) rfl rfl rfl ?_
      refine sh_w (i := (.lload 11)) (len := 2) (pc2 := 91) (lv2 := [(15, .int (Int64.toInt32 (((2 : Int64) * ((x2 ^^^ ((Int32.toInt64 (x8 >>> (1 &&& 31))) * (m.J 61 5))) &&& (1 : Int64))) + ((x4 ^^^ ((Int32.toInt64 (x8 &&& 1)) * (m.J 61 5))) &&& (1 : Int64))))), (13, .long (x4 ^^^ ((Int32.toInt64 (x8 &&& 1)) * (m.J 61 5)))), (11, .long (x2 ^^^ ((Int32.toInt64 (x8 >>> (1 &&& 31))) * (m.J 61 5)))), (10, .int (x8 &&& 1)), (9, .int (x8 >>> (1 &&& 31))), (0, .ref 62), (1, .int x1), (2, .long x2), (4, .long x4), (6, .long x6), (8, .int x8)]) (st2 := [.long (x2 ^^^ ((Int32.toInt64 (x8 >>> (1 &&& 31))) * (m.J 61 5))), .long (x6 ^^^ ((Int32.toInt64 ((x8 >>> (1 &&& 31)) &&& (x8 &&& 1))) * (m.J 61 5))), .int (Int64.toInt32 (((2 : Int64) * ((x2 ^^^ ((Int32.toInt64 (x8 >>> (1 &&& 31))) * (m.J 61 5))) &&& (1 : Int64))) + ((x4 ^^^ ((Int32.toInt64 (x8 &&& 1)) * (m.J 61 5))) &&& (1 : Int64)))), .ref 64]) (h2 := (sh_rep m.T m.I m.J)) rfl rfl rfl ?_
      refine sh_w (i := (.lload 13)) (len := 2) (pc2 := 93) (lv2 := [(15, .int (Int64.toInt32 (((2 : Int64) * ((x2 ^^^ ((Int32.toInt64 (x8 >>> (1 &&& 31))) * (m.J 61 5))) &&& (1 : Int64))) + ((x4 ^^^ ((Int32.toInt64 (x8 &&& 1)) * (m.J 61 5))) &&& (1 : Int64))))), (13, .long (x4 ^^^ ((Int32.toInt64 (x8 &&& 1)) * (m.J 61 5)))), (11, .long (x2 ^^^ ((Int32.toInt64 (x8 >>> (1 &&& 31))) * (m.J 61 5)))), (10, .int (x8 &&& 1)), (9, .int (x8 >>> (1 &&& 31))), (0, .ref 62), (1, .int x1), (2, .long x2), (4, .long x4), (6, .long x6), (8, .int x8)]) (st2 := [.long (x4 ^^^ ((Int32.toInt64 (x8 &&& 1)) * (m.J 61 5))), .long (x2 ^^^ ((Int32.toInt64 (x8 >>> (1 &&& 31))) * (m.J 61 5))), .long (x6 ^^^ ((Int32.toInt64 ((x8 >>> (1 &&& 31)) &&& (x8 &&& 1))) * (m.J 61 5))), .int (Int64.toInt32 (((2 : Int64) * ((x2 ^^^ ((Int32.toInt64 (x8 >>> (1 &&& 31))) * (m.J 61 5))) &&& (1 : Int64))) + ((x4 ^^^ ((Int32.toInt64 (x8 &&& 1)) * (m.J 61 5))) &&& (1 : Int64)))), .ref 64]) (h2 := (sh_rep m.T m.I m.J)) rfl rfl rfl ?_
      refine sh_w (i := (.iload_n 1)) (len := 1) (pc2 := 94) (lv2 := [(15, .int (Int64.toInt32 (((2 : Int64) * ((x2 ^^^ ((Int32.toInt64 (x8 >>> (1 &&& 31))) * (m.J 61 5))) &&& (1 : Int64))) + ((x4 ^^^ ((Int32.toInt64 (x8 &&& 1)) * (m.J 61 5))) &&& (1 : Int64))))), (13, .long (x4 ^^^ ((Int32.toInt64 (x8 &&& 1)) * (m.J 61 5)))), (11, .long (x2 ^^^ ((Int32.toInt64 (x8 >>> (1 &&& 31))) * (m.J 61 5)))), (10, .int (x8 &&& 1)), (9, .int (x8 >>> (1 &&& 31))), (0, .ref 62), (1, .int x1), (2, .long x2), (4, .long x4), (6, .long x6), (8, .int x8)]) (st2 := [.int x1, .long (x4 ^^^ ((Int32.toInt64 (x8 &&& 1)) * (m.J 61 5))), .long (x2 ^^^ ((Int32.toInt64 (x8 >>> (1 &&& 31))) * (m.J 61 5))), .long (x6 ^^^ ((Int32.toInt64 ((x8 >>> (1 &&& 31)) &&& (x8 &&& 1))) * (m.J 61 5))), .int (Int64.toInt32 (((2 : Int64) * ((x2 ^^^ ((Int32.toInt64 (x8 >>> (1 &&& 31))) * (m.J 61 5))) &&& (1 : Int64))) + ((x4 ^^^ ((Int32.toInt64 (x8 &&& 1)) * (m.J 61 5))) &&& (1 : Int64)))), .ref 64]) (h2 := (sh_rep m.T m.I m.J)) rfl rfl rfl ?_
      exact kk
    refine sh_Lk_cS (r := (some (.long (sf_232 (x2 ^^^ ((Int32.toInt64 (x8 >>> (1 &&& 31))) * (m.J 61 5))) (x4 ^^^ ((Int32.toInt64 (x8 &&& 1)) * (m.J 61 5))) x1)))) (st2 := [.long (sf_232 (x2 ^^^ ((Int32.toInt64 (x8 >>> (1 &&& 31))) * (m.J 61 5))) (x4 ^^^ ((Int32.toInt64 (x8 &&& 1)) * (m.J 61 5))) x1), .long (x6 ^^^ ((Int32.toInt64 ((x8 >>> (1 &&& 31)) &&& (x8 &&& 1))) * (m.J 61 5))), .int (Int64.toInt32 (((2 : Int64) * ((x2 ^^^ ((Int32.toInt64 (x8 >>> (1 &&& 31))) * (m.J 61 5))) &&& (1 : Int64))) + ((x4 ^^^ ((Int32.toInt64 (x8 &&& 1)) * (m.J 61 5))) &&& (1 : Int64)))), .ref 64]) (pc2 := 97) (k2 := 232) (as := [.long (x2 ^^^ ((Int32.toInt64 (x8 >>> (1 &&& 31))) * (m.J 61 5))), .long (x4 ^^^ ((Int32.toInt64 (x8 &&& 1)) * (m.J 61 5))), .int x1]) (rest := [.long (x6 ^^^ ((Int32.toInt64 ((x8 >>> (1 &&& 31)) &&& (x8 &&& 1))) * (m.J 61 5))), .int (Int64.toInt32 (((2 : Int64) * ((x2 ^^^ ((Int32.toInt64 (x8 >>> (1 &&& 31))) * (m.J 61 5))) &&& (1 : Int64))) + ((x4 ^^^ ((Int32.toInt64 (x8 &&& 1)) * (m.J 61 5))) &&& (1 : Int64)))), .ref 64]) rfl rfl (by decide) (Nat.le_of_ble_eq_true rfl) rfl rfl ⟨Nat.le_of_ble_eq_true rfl, Nat.le_of_ble_eq_true rfl⟩ (sl_232 (m := m) rfl ⟨rfl, rfl⟩) rfl rfl (Nat.le_of_ble_eq_true rfl) (Nat.le_of_ble_eq_true rfl) ?_
    refine sh_Lk_lift (T := m.T) (I := m.I) (J := m.J) (s := m.s) (pc2 := 98) (lv2 := [(15, .int (Int64.toInt32 (((2 : Int64) * ((x2 ^^^ ((Int32.toInt64 (x8 >>> (1 &&& 31))) * (m.J 61 5))) &&& (1 : Int64))) + ((x4 ^^^ ((Int32.toInt64 (x8 &&& 1)) * (m.J 61 5))) &&& (1 : Int64))))), (13, .long (x4 ^^^ ((Int32.toInt64 (x8 &&& 1)) * (m.J 61 5)))), (11, .long (x2 ^^^ ((Int32.toInt64 (x8 >>> (1 &&& 31))) * (m.J 61 5)))), (10, .int (x8 &&& 1)), (9, .int (x8 >>> (1 &&& 31))), (0, .ref 62), (1, .int x1), (2, .long x2), (4, .long x4), (6, .long x6), (8, .int x8)]) (st2 := [.long ((x6 ^^^ ((Int32.toInt64 ((x8 >>> (1 &&& 31)) &&& (x8 &&& 1))) * (m.J 61 5))) ^^^ (sf_232 (x2 ^^^ ((Int32.toInt64 (x8 >>> (1 &&& 31))) * (m.J 61 5))) (x4 ^^^ ((Int32.toInt64 (x8 &&& 1)) * (m.J 61 5))) x1)), .int (Int64.toInt32 (((2 : Int64) * ((x2 ^^^ ((Int32.toInt64 (x8 >>> (1 &&& 31))) * (m.J 61 5))) &&& (1 : Int64))) + ((x4 ^^^ ((Int32.toInt64 (x8 &&& 1)) * (m.J 61 5))) &&& (1 : Int64)))), .ref 64]) (I2 := m.I) (J2 := m.J) (fun hT v kk => ?_) ?_
    · refine sh_w (i := .lxor) (len := 1) (pc2 := 98) (lv2 := [(15, .int (Int64.toInt32 (((2 : Int64) * ((x2 ^^^ ((Int32.toInt64 (x8 >>> (1 &&& 31))) * (m.J 61 5))) &&& (1 : Int64))) + ((x4 ^^^ ((Int32.toInt64 (x8 &&& 1)) * (m.J 61 5))) &&& (1 : Int64))))), (13, .long (x4 ^^^ ((Int32.toInt64 (x8 &&& 1)) * (m.J 61 5)))), (11, .long (x2 ^^^ ((Int32.toInt64 (x8 >>> (1 &&& 31))) * (m.J 61 5)))), (10, .int (x8 &&& 1)), (9, .int (x8 >>> (1 &&& 31))), (0, .ref 62), (1, .int x1), (2, .long x2), (4, .long x4), (6, .long x6), (8, .int x8)]) (st2 := [.long ((x6 ^^^ ((Int32.toInt64 ((x8 >>> (1 &&& 31)) &&& (x8 &&& 1))) * (m.J 61 5))) ^^^ (sf_232 (x2 ^^^ ((Int32.toInt64 (x8 >>> (1 &&& 31))) * (m.J 61 5))) (x4 ^^^ ((Int32.toInt64 (x8 &&& 1)) * (m.J 61 5))) x1)), .int (Int64.toInt32 (((2 : Int64) * ((x2 ^^^ ((Int32.toInt64 (x8 >>> (1 &&& 31))) * (m.J 61 5))) &&& (1 : Int64))) + ((x4 ^^^ ((Int32.toInt64 (x8 &&& 1)) * (m.J 61 5))) &&& (1 : Int64)))), .ref 64]) (h2 := (sh_rep m.T m.I m.J)) rfl rfl rfl ?_
      exact kk
    obtain ⟨c, e⟩ := sh_gd e
    refine sh_Lk_lift (T := m.T) (I := m.I) (J := m.J) (s := m.s) (pc2 := 10) (lv2 := [(8, .int (x8 + 1)), (15, .int (Int64.toInt32 (((2 : Int64) * ((x2 ^^^ ((Int32.toInt64 (x8 >>> (1 &&& 31))) * (m.J 61 5))) &&& (1 : Int64))) + ((x4 ^^^ ((Int32.toInt64 (x8 &&& 1)) * (m.J 61 5))) &&& (1 : Int64))))), (13, .long (x4 ^^^ ((Int32.toInt64 (x8 &&& 1)) * (m.J 61 5)))), (11, .long (x2 ^^^ ((Int32.toInt64 (x8 >>> (1 &&& 31))) * (m.J 61 5)))), (10, .int (x8 &&& 1)), (9, .int (x8 >>> (1 &&& 31))), (0, .ref 62), (1, .int x1), (2, .long x2), (4, .long x4), (6, .long x6)]) (st2 := []) (I2 := m.I) (J2 := sh_u2 m.J 63 (Int32.toNatClampNeg (Int64.toInt32 (((2 : Int64) * ((x2 ^^^ ((Int32.toInt64 (x8 >>> (1 &&& 31))) * (m.J 61 5))) &&& (1 : Int64))) + ((x4 ^^^ ((Int32.toInt64 (x8 &&& 1)) * (m.J 61 5))) &&& (1 : Int64))))) ((x6 ^^^ ((Int32.toInt64 ((x8 >>> (1 &&& 31)) &&& (x8 &&& 1))) * (m.J 61 5))) ^^^ (sf_232 (x2 ^^^ ((Int32.toInt64 (x8 >>> (1 &&& 31))) * (m.J 61 5))) (x4 ^^^ ((Int32.toInt64 (x8 &&& 1)) * (m.J 61 5))) x1))) (fun hT v kk => ?_) ?_
    · refine sh_ls1 (x := (x6 ^^^ ((Int32.toInt64 ((x8 >>> (1 &&& 31)) &&& (x8 &&& 1))) * (m.J 61 5))) ^^^ (sf_232 (x2 ^^^ ((Int32.toInt64 (x8 >>> (1 &&& 31))) * (m.J 61 5))) (x4 ^^^ ((Int32.toInt64 (x8 &&& 1)) * (m.J 61 5))) x1)) (i := Int64.toInt32 (((2 : Int64) * ((x2 ^^^ ((Int32.toInt64 (x8 >>> (1 &&& 31))) * (m.J 61 5))) &&& (1 : Int64))) + ((x4 ^^^ ((Int32.toInt64 (x8 &&& 1)) * (m.J 61 5))) &&& (1 : Int64)))) (pc2 := 99) rfl (sh_s63 hT.st) (sh_okb1 c) (sh_okb2 c) rfl ?_
      refine sh_w (i := (.iinc 8 1)) (len := 3) (pc2 := 102) (lv2 := [(8, .int (x8 + 1)), (15, .int (Int64.toInt32 (((2 : Int64) * ((x2 ^^^ ((Int32.toInt64 (x8 >>> (1 &&& 31))) * (m.J 61 5))) &&& (1 : Int64))) + ((x4 ^^^ ((Int32.toInt64 (x8 &&& 1)) * (m.J 61 5))) &&& (1 : Int64))))), (13, .long (x4 ^^^ ((Int32.toInt64 (x8 &&& 1)) * (m.J 61 5)))), (11, .long (x2 ^^^ ((Int32.toInt64 (x8 >>> (1 &&& 31))) * (m.J 61 5)))), (10, .int (x8 &&& 1)), (9, .int (x8 >>> (1 &&& 31))), (0, .ref 62), (1, .int x1), (2, .long x2), (4, .long x4), (6, .long x6)]) (st2 := []) (h2 := (sh_rep m.T m.I (sh_u2 m.J 63 (Int32.toNatClampNeg (Int64.toInt32 (((2 : Int64) * ((x2 ^^^ ((Int32.toInt64 (x8 >>> (1 &&& 31))) * (m.J 61 5))) &&& (1 : Int64))) + ((x4 ^^^ ((Int32.toInt64 (x8 &&& 1)) * (m.J 61 5))) &&& (1 : Int64))))) ((x6 ^^^ ((Int32.toInt64 ((x8 >>> (1 &&& 31)) &&& (x8 &&& 1))) * (m.J 61 5))) ^^^ (sf_232 (x2 ^^^ ((Int32.toInt64 (x8 >>> (1 &&& 31))) * (m.J 61 5))) (x4 ^^^ ((Int32.toInt64 (x8 &&& 1)) * (m.J 61 5))) x1))))) rfl rfl rfl ?_
      refine sh_w (i := (.goto (-92))) (len := 3) (pc2 := 10) (lv2 := [(8, .int (x8 + 1)), (15, .int (Int64.toInt32 (((2 : Int64) * ((x2 ^^^ ((Int32.toInt64 (x8 >>> (1 &&& 31))) * (m.J 61 5))) &&& (1 : Int64))) + ((x4 ^^^ ((Int32.toInt64 (x8 &&& 1)) * (m.J 61 5))) &&& (1 : Int64))))), (13, .long (x4 ^^^ ((Int32.toInt64 (x8 &&& 1)) * (m.J 61 5)))), (11, .long (x2 ^^^ ((Int32.toInt64 (x8 >>> (1 &&& 31))) * (m.J 61 5)))), (10, .int (x8 &&& 1)), (9, .int (x8 >>> (1 &&& 31))), (0, .ref 62), (1, .int x1), (2, .long x2), (4, .long x4), (6, .long x6)]) (st2 := []) (h2 := (sh_rep m.T m.I (sh_u2 m.J 63 (Int32.toNatClampNeg (Int64.toInt32 (((2 : Int64) * ((x2 ^^^ ((Int32.toInt64 (x8 >>> (1 &&& 31))) * (m.J 61 5))) &&& (1 : Int64))) + ((x4 ^^^ ((Int32.toInt64 (x8 &&& 1)) * (m.J 61 5))) &&& (1 : Int64))))) ((x6 ^^^ ((Int32.toInt64 ((x8 >>> (1 &&& 31)) &&& (x8 &&& 1))) * (m.J 61 5))) ^^^ (sf_232 (x2 ^^^ ((Int32.toInt64 (x8 >>> (1 &&& 31))) * (m.J 61 5))) (x4 ^^^ ((Int32.toInt64 (x8 &&& 1)) * (m.J 61 5))) x1))))) rfl rfl rfl ?_
      exact kk
    obtain rfl := Option.some.inj e
    exact sh_Lk_sub (sh_sub_c rfl (sh_sub_c rfl (sh_sub_c rfl (sh_sub_c rfl (sh_sub_c rfl (sh_sub_c rfl (sh_sub_n))))))) tg
  · refine sh_Lk_lift (T := m.T) (I := m.I) (J := m.J) (s := m.s) (pc2 := 107) (lv2 := [(0, .ref 62), (1, .int x1), (2, .long x2), (4, .long x4), (6, .long x6), (8, .int x8)]) (st2 := [.int x1, .ref 62]) (I2 := m.I) (J2 := m.J) (fun hT v kk => ?_) ?_
    · refine sh_jc (c := .ge) (off := (92)) (pc2 := 105) true rfl (sh_Bget c) rfl ?_
      refine sh_w (i := (.aload_n 0)) (len := 1) (pc2 := 106) (lv2 := [(0, .ref 62), (1, .int x1), (2, .long x2), (4, .long x4), (6, .long x6), (8, .int x8)]) (st2 := [.ref 62]) (h2 := (sh_rep m.T m.I m.J)) rfl rfl rfl ?_
      refine sh_w (i := (.iload_n 1)) (len := 1) (pc2 := 107) (lv2 := [(0, .ref 62), (1, .int x1), (2, .long x2), (4, .long x4), (6, .long x6), (8, .int x8)]) (st2 := [.int x1, .ref 62]) (h2 := (sh_rep m.T m.I m.J)) rfl rfl rfl ?_
      exact kk
    obtain ⟨r2, e2, e⟩ := sh_bc_e e
    refine sh_Lk_cV (r := (some (.int (sh_b2 r2)))) (st2 := [.int (sh_b2 r2)]) (pc2 := 110) (k2 := 225) (a := 61) (as := [.ref 62, .int x1]) (rest := []) rfl rfl rfl (fun hT => hT.t61) rfl rfl ⟨Nat.le_of_ble_eq_true rfl, Nat.le_of_ble_eq_true rfl⟩ (sl_225 e2 ⟨rfl, rfl⟩) rfl rfl (Nat.le_of_ble_eq_true rfl) (Nat.le_of_ble_eq_true rfl) ?_
    rcases sh_ite e with ⟨c, e⟩ | ⟨c, e⟩
    · refine sh_Lk_lift (T := m.T) (I := m.I) (J := m.J) (s := m.s) (pc2 := 120) (lv2 := [(0, .ref 62), (1, .int x1), (2, .long x2), (4, .long x4), (6, .long x6), (8, .int x8)]) (st2 := [.long x6, .int x1, .ref ((sh_rf m.T 61 3) + 1)]) (I2 := m.I) (J2 := m.J) (fun hT v kk => ?_) ?_
      · refine sh_j0 (c := .eq) (off := (11)) (pc2 := 113) false rfl (sh_Zeqf c) rfl ?_
        refine sh_w (i := (.aload_n 0)) (len := 1) (pc2 := 114) (lv2 := [(0, .ref 62), (1, .int x1), (2, .long x2), (4, .long x4), (6, .long x6), (8, .int x8)]) (st2 := [.ref 62]) (h2 := (sh_rep m.T m.I m.J)) rfl rfl rfl ?_
        refine sh_gR1 (len := 3) (x := .ref (sh_rf m.T 61 3 + 1)) (pc2 := 117) rfl rfl hT.t61 rfl rfl ?_
        refine sh_w (i := (.iload_n 1)) (len := 1) (pc2 := 118) (lv2 := [(0, .ref 62), (1, .int x1), (2, .long x2), (4, .long x4), (6, .long x6), (8, .int x8)]) (st2 := [.int x1, .ref ((sh_rf m.T 61 3) + 1)]) (h2 := (sh_rep m.T m.I m.J)) rfl rfl rfl ?_
        refine sh_w (i := (.lload 6)) (len := 2) (pc2 := 120) (lv2 := [(0, .ref 62), (1, .int x1), (2, .long x2), (4, .long x4), (6, .long x6), (8, .int x8)]) (st2 := [.long x6, .int x1, .ref ((sh_rf m.T 61 3) + 1)]) (h2 := (sh_rep m.T m.I m.J)) rfl rfl rfl ?_
        exact kk
      obtain ⟨c, e⟩ := sh_gd e
      refine sh_Lk_lift (T := m.T) (I := m.I) (J := m.J) (s := m.s) (pc2 := 121) (lv2 := [(0, .ref 62), (1, .int x1), (2, .long x2), (4, .long x4), (6, .long x6), (8, .int x8)]) (st2 := []) (I2 := m.I) (J2 := sh_u2 m.J (sh_rf m.T 61 3) (Int32.toNatClampNeg x1) x6) (fun hT v kk => ?_) ?_
      · refine sh_ls1 (x := x6) (i := x1) (pc2 := 121) rfl hT.a61_3 (sh_okb1 c) (sh_okb2 c) rfl ?_
        exact kk
      obtain rfl := Option.some.inj e
      obtain ⟨rfl, rfl⟩ := tg
      exact sh_Lk_ret (i := .return_) rfl rfl rfl (Nat.le_of_ble_eq_true rfl) (Nat.le_of_ble_eq_true rfl)
    · refine sh_Lk_lift (T := m.T) (I := m.I) (J := m.J) (s := m.s) (pc2 := 121) (lv2 := [(0, .ref 62), (1, .int x1), (2, .long x2), (4, .long x4), (6, .long x6), (8, .int x8)]) (st2 := []) (I2 := m.I) (J2 := m.J) (fun hT v kk => ?_) ?_
      · refine sh_j0 (c := .eq) (off := (11)) (pc2 := 121) true rfl (sh_Zeqt c) rfl ?_
        exact kk
      obtain rfl := Option.some.inj e
      obtain ⟨rfl, rfl⟩ := tg
      exact sh_Lk_ret (i := .return_) rfl rfl rfl (Nat.le_of_ble_eq_true rfl) (Nat.le_of_ble_eq_true rfl)
theorem sl_231_10 {x1 : Int32} {x2 : Int64} {x4 : Int64} {x6 : Int64} {x8 : Int32} {m m2 : sh_X} {o : Outcome} {z : (Unit × sh_X)} (e : sf_231_10 x1 x2 x4 x6 x8 m = some z) (tg : (sh_tV o m2) z) : sh_Lk 231 10 [(0, .ref 62), (1, .int x1), (2, .long x2), (4, .long x4), (6, .long x6), (8, .int x8)] [] m o m2 10 247 := by
  unfold sf_231_10 at e
  exact sh_while_lk (P := fun q => sh_Lk 231 10 [(0, .ref 62), (1, .int x1), (2, .long x2), (4, .long x4), (6, .long x6), (8, .int q.1)] [] q.2 o m2 10 247) (Q := (sh_tV o m2)) (fun q z e tg => sl_231_10s (x1 := x1) (x2 := x2) (x4 := x4) (x6 := x6) (x8 := q.1) (m := q.2) e tg) (s := (x8, m)) e tg
theorem sl_231 {x1 : Int32} {x2 : Int64} {x4 : Int64} {m m2 : sh_X} {o : Outcome} {z : (Unit × sh_X)} (e : sf_231 x1 x2 x4 m = some z) (tg : (sh_tV o m2) z) : sh_Lk 231 0 [(0, .ref 62), (1, .int x1), (2, .long x2), (4, .long x4)] [] m o m2 10 247 := by
  unfold sf_231 at e
  refine sh_Lk_lift (T := m.T) (I := m.I) (J := m.J) (s := m.s) (pc2 := 2) (lv2 := [(0, .ref 62), (1, .int x1), (2, .long x2), (4, .long x4)]) (st2 := [.int 0, .ref 62]) (I2 := m.I) (J2 := m.J) (fun hT v kk => ?_) ?_
  · refine sh_w (i := (.aload_n 0)) (len := 1) (pc2 := 1) (lv2 := [(0, .ref 62), (1, .int x1), (2, .long x2), (4, .long x4)]) (st2 := [.ref 62]) (h2 := (sh_rep m.T m.I m.J)) rfl rfl rfl ?_
    refine sh_w (i := (.iconst 0)) (len := 1) (pc2 := 2) (lv2 := [(0, .ref 62), (1, .int x1), (2, .long x2), (4, .long x4)]) (st2 := [.int 0, .ref 62]) (h2 := (sh_rep m.T m.I m.J)) rfl rfl rfl ?_
    exact kk
  obtain ⟨r1, m11, e1, e⟩ := sh_bn_e e
  refine sh_Lk_cV (r := (some (.long r1))) (st2 := [.long r1]) (pc2 := 5) (k2 := 222) (a := 61) (as := [.ref 62, .int 0]) (rest := []) rfl rfl rfl (fun hT => hT.t61) rfl rfl ⟨Nat.le_of_ble_eq_true rfl, Nat.le_of_ble_eq_true rfl⟩ (sl_222 e1 ⟨rfl, rfl⟩) rfl rfl (Nat.le_of_ble_eq_true rfl) (Nat.le_of_ble_eq_true rfl) ?_
  refine sh_Lk_lift (T := m11.T) (I := m11.I) (J := m11.J) (s := m11.s) (pc2 := 10) (lv2 := [(8, .int 0), (6, .long r1), (0, .ref 62), (1, .int x1), (2, .long x2), (4, .long x4)]) (st2 := []) (I2 := m11.I) (J2 := m11.J) (fun hT v kk => ?_) ?_
  · refine sh_w (i := (.lstore 6)) (len := 2) (pc2 := 7) (lv2 := [(6, .long r1), (0, .ref 62), (1, .int x1), (2, .long x2), (4, .long x4)]) (st2 := []) (h2 := (sh_rep m11.T m11.I m11.J)) rfl rfl rfl ?_
    refine sh_w (i := (.iconst 0)) (len := 1) (pc2 := 8) (lv2 := [(6, .long r1), (0, .ref 62), (1, .int x1), (2, .long x2), (4, .long x4)]) (st2 := [.int 0]) (h2 := (sh_rep m11.T m11.I m11.J)) rfl rfl rfl ?_
    refine sh_w (i := (.istore 8)) (len := 2) (pc2 := 10) (lv2 := [(8, .int 0), (6, .long r1), (0, .ref 62), (1, .int x1), (2, .long x2), (4, .long x4)]) (st2 := []) (h2 := (sh_rep m11.T m11.I m11.J)) rfl rfl rfl ?_
    exact kk
  exact sh_Lk_sub (sh_sub_c rfl (sh_sub_c rfl (sh_sub_c rfl (sh_sub_c rfl (sh_sub_c rfl (sh_sub_c rfl (sh_sub_n))))))) (sl_231_10 e tg)
