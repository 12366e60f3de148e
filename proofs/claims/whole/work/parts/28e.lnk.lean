/-! LINKS, printed by gen27.py -/
theorem sl_186_5s {x1 : Int32} {x2 : Int32} {x3 : Int32} {x4 : Int32} {m m2 : sh_X} {o : Outcome} {z : ((Int32 × Int32 × sh_X) ⊕ (Int32 × sh_X))} (e : sf_186_5s x1 x2 x3 x4 m = some z) (tg : (sh_el (fun q => sh_Lk 186 5 [(0, .ref 45), (1, .int x1), (2, .int x2), (3, .int q.1), (4, .int q.2.1)] [] q.2.2 o m2 12 288) (sh_tI o m2)) z) : sh_Lk 186 5 [(0, .ref 45), (1, .int x1), (2, .int x2), (3, .int x3), (4, .int x4)] [] m o m2 12 288 := by
  unfold sf_186_5s at e
  refine sh_Lk_lift (T := m.T) (I := m.I) (J := m.J) (s := m.s) (pc2 := 8) (lv2 := [(0, .ref 45), (1, .int x1), (2, .int x2), (3, .int x3), (4, .int x4)]) (st2 := [.int x2, .int x4]) (I2 := m.I) (J2 := m.J) (fun hT v kk => ?_) ?_
  · refine sh_w (i := (.iload 4)) (len := 2) (pc2 := 7) (lv2 := [(0, .ref 45), (1, .int x1), (2, .int x2), (3, .int x3), (4, .int x4)]) (st2 := [.int x4]) (h2 := (sh_rep m.T m.I m.J)) rfl rfl rfl ?_
    refine sh_w (i := (.iload_n 2)) (len := 1) (pc2 := 8) (lv2 := [(0, .ref 45), (1, .int x1), (2, .int x2), (3, .int x3), (4, .int x4)]) (st2 := [.int x2, .int x4]) (h2 := (sh_rep m.T m.I m.J)) rfl rfl rfl ?_
    exact kk
  rcases sh_ite e with ⟨c, e⟩ | ⟨c, e⟩
  · refine sh_Lk_lift (T := m.T) (I := m.I) (J := m.J) (s := m.s) (pc2 := 21) (lv2 := [(0, .ref 45), (1, .int x1), (2, .int x2), (3, .int x3), (4, .int x4)]) (st2 := [.int (x1 + x4), .ref 45, .int x3, .ref 10]) (I2 := m.I) (J2 := m.J) (fun hT v kk => ?_) ?_
    · refine sh_jc (c := .ge) (off := (26)) (pc2 := 11) false rfl (sh_Bgef c) rfl ?_
      refine sh_w (i := (.aload_n 0)) (len := 1) (pc2 := 12) (lv2 := [(0, .ref 45), (1, .int x1), (2, .int x2), (3, .int x3), (4, .int x4)]) (st2 := [.ref 45]) (h2 := (sh_rep m.T m.I m.J)) rfl rfl rfl ?_
      refine sh_gR1 (len := 3) (x := .ref 10) (pc2 := 15) rfl rfl (sh_s44 hT.st) rfl rfl ?_
      refine sh_w (i := (.iload_n 3)) (len := 1) (pc2 := 16) (lv2 := [(0, .ref 45), (1, .int x1), (2, .int x2), (3, .int x3), (4, .int x4)]) (st2 := [.int x3, .ref 10]) (h2 := (sh_rep m.T m.I m.J)) rfl rfl rfl ?_
      refine sh_w (i := (.aload_n 0)) (len := 1) (pc2 := 17) (lv2 := [(0, .ref 45), (1, .int x1), (2, .int x2), (3, .int x3), (4, .int x4)]) (st2 := [.ref 45, .int x3, .ref 10]) (h2 := (sh_rep m.T m.I m.J)) rfl rfl rfl ?_
      refine sh_w (i := (.iload_n 1)) (len := 1) (pc2 := 18) (lv2 := [(0, .ref 45), (1, .int x1), (2, .int x2), (3, .int x3), (4, .int x4)]) (st2 := [.int x1, .ref 45, .int x3, .ref 10]) (h2 := (sh_rep m.T m.I m.J)) rfl rfl rfl ?_
      refine sh_w (i := (.iload 4)) (len := 2) (pc2 := 20) (lv2 := [(0, .ref 45), (1, .int x1), (2, .int x2), (3, .int x3), (4, .int x4)]) (st2 := [.int x4, .int x1, .ref 45, .int x3, .ref 10]) (h2 := (sh_rep m.T m.I m.J)) rfl rfl rfl ?_
      refine sh_w (i := .iadd) (len := 1) (pc2 := 21) (lv2 := [(0, .ref 45), (1, .int x1), (2, .int x2), (3, .int x3), (4, .int x4)]) (st2 := [.int (x1 + x4), .ref 45, .int x3, .ref 10]) (h2 := (sh_rep m.T m.I m.J)) rfl rfl rfl ?_
      exact kk
    obtain ⟨r1, e1, e⟩ := sh_bc_e e
    refine sh_Lk_cV (r := (some (.int r1))) (st2 := [.int r1, .int x3, .ref 10]) (pc2 := 24) (k2 := 103) (a := 44) (as := [.ref 45, .int (x1 + x4)]) (rest := [.int x3, .ref 10]) rfl rfl rfl (fun hT => (sh_s44 hT.st)) rfl rfl ⟨Nat.le_of_ble_eq_true rfl, Nat.le_of_ble_eq_true rfl⟩ (sl_103 e1 ⟨rfl, rfl⟩) rfl rfl (Nat.le_of_ble_eq_true rfl) (Nat.le_of_ble_eq_true rfl) ?_
    obtain ⟨r2, m12, e2, e⟩ := sh_bn_e e
    refine sh_Lk_cV (r := (some (.int r2))) (st2 := [.int r2]) (pc2 := 27) (k2 := 185) (a := 9) (as := [.ref 10, .int x3, .int r1]) (rest := []) rfl rfl rfl (fun hT => hT.t9) rfl rfl ⟨Nat.le_of_ble_eq_true rfl, Nat.le_of_ble_eq_true rfl⟩ (sl_185 e2 ⟨rfl, rfl⟩) rfl rfl (Nat.le_of_ble_eq_true rfl) (Nat.le_of_ble_eq_true rfl) ?_
    refine sh_Lk_lift (T := m12.T) (I := m12.I) (J := m12.J) (s := m12.s) (pc2 := 5) (lv2 := [(4, .int (x4 + 1)), (3, .int r2), (0, .ref 45), (1, .int x1), (2, .int x2)]) (st2 := []) (I2 := m12.I) (J2 := m12.J) (fun hT v kk => ?_) ?_
    · refine sh_w (i := (.istore_n 3)) (len := 1) (pc2 := 28) (lv2 := [(3, .int r2), (0, .ref 45), (1, .int x1), (2, .int x2), (4, .int x4)]) (st2 := []) (h2 := (sh_rep m12.T m12.I m12.J)) rfl rfl rfl ?_
      refine sh_w (i := (.iinc 4 1)) (len := 3) (pc2 := 31) (lv2 := [(4, .int (x4 + 1)), (3, .int r2), (0, .ref 45), (1, .int x1), (2, .int x2)]) (st2 := []) (h2 := (sh_rep m12.T m12.I m12.J)) rfl rfl rfl ?_
      refine sh_w (i := (.goto (-26))) (len := 3) (pc2 := 5) (lv2 := [(4, .int (x4 + 1)), (3, .int r2), (0, .ref 45), (1, .int x1), (2, .int x2)]) (st2 := []) (h2 := (sh_rep m12.T m12.I m12.J)) rfl rfl rfl ?_
      exact kk
    obtain rfl := Option.some.inj e
    exact sh_Lk_sub (sh_sub_c rfl (sh_sub_c rfl (sh_sub_c rfl (sh_sub_c rfl (sh_sub_c rfl (sh_sub_n)))))) tg
  · refine sh_Lk_lift (T := m.T) (I := m.I) (J := m.J) (s := m.s) (pc2 := 35) (lv2 := [(0, .ref 45), (1, .int x1), (2, .int x2), (3, .int x3), (4, .int x4)]) (st2 := [.int x3]) (I2 := m.I) (J2 := m.J) (fun hT v kk => ?_) ?_
    · refine sh_jc (c := .ge) (off := (26)) (pc2 := 34) true rfl (sh_Bget c) rfl ?_
      refine sh_w (i := (.iload_n 3)) (len := 1) (pc2 := 35) (lv2 := [(0, .ref 45), (1, .int x1), (2, .int x2), (3, .int x3), (4, .int x4)]) (st2 := [.int x3]) (h2 := (sh_rep m.T m.I m.J)) rfl rfl rfl ?_
      exact kk
    obtain rfl := Option.some.inj e
    obtain ⟨rfl, rfl⟩ := tg
    exact sh_Lk_ret (i := .ireturn) rfl rfl rfl (Nat.le_of_ble_eq_true rfl) (Nat.le_of_ble_eq_true rfl)
theorem sl_186_5 {x1 : Int32} {x2 : Int32} {x3 : Int32} {x4 : Int32} {m m2 : sh_X} {o : Outcome} {z : (Int32 × sh_X)} (e : sf_186_5 x1 x2 x3 x4 m = some z) (tg : (sh_tI o m2) z) : sh_Lk 186 5 [(0, .ref 45), (1, .int x1), (2, .int x2), (3, .int x3), (4, .int x4)] [] m o m2 12 288 := by
  unfold sf_186_5 at e
  exact sh_while_lk (P := fun q => sh_Lk 186 5 [(0, .ref 45), (1, .int x1), (2, .int x2), (3, .int q.1), (4, .int q.2.1)] [] q.2.2 o m2 12 288) (Q := (sh_tI o m2)) (fun q z e tg => sl_186_5s (x1 := x1) (x2 := x2) (x3 := q.1) (x4 := q.2.1) (m := q.2.2) e tg) (s := (x3, x4, m)) e tg
theorem sl_186 {x1 : Int32} {x2 : Int32} {m m2 : sh_X} {o : Outcome} {z : (Int32 × sh_X)} (e : sf_186 x1 x2 m = some z) (tg : (sh_tI o m2) z) : sh_Lk 186 0 [(0, .ref 45), (1, .int x1), (2, .int x2)] [] m o m2 12 288 := by
  unfold sf_186 at e
  refine sh_Lk_lift (T := m.T) (I := m.I) (J := m.J) (s := m.s) (pc2 := 5) (lv2 := [(4, .int 0), (3, .int 0), (0, .ref 45), (1, .int x1), (2, .int x2)]) (st2 := []) (I2 := m.I) (J2 := m.J) (fun hT v kk => ?_) ?_
  · refine sh_w (i := (.iconst 0)) (len := 1) (pc2 := 1) (lv2 := [(0, .ref 45), (1, .int x1), (2, .int x2)]) (st2 := [.int 0]) (h2 := (sh_rep m.T m.I m.J)) rfl rfl rfl ?_
    refine sh_w (i := (.istore_n 3)) (len := 1) (pc2 := 2) (lv2 := [(3, .int 0), (0, .ref 45), (1, .int x1), (2, .int x2)]) (st2 := []) (h2 := (sh_rep m.T m.I m.J)) rfl rfl rfl ?_
    refine sh_w (i := (.iconst 0)) (len := 1) (pc2 := 3) (lv2 := [(3, .int 0), (0, .ref 45), (1, .int x1), (2, .int x2)]) (st2 := [.int 0]) (h2 := (sh_rep m.T m.I m.J)) rfl rfl rfl ?_
    refine sh_w (i := (.istore 4)) (len := 2) (pc2 := 5) (lv2 := [(4, .int 0), (3, .int 0), (0, .ref 45), (1, .int x1), (2, .int x2)]) (st2 := []) (h2 := (sh_rep m.T m.I m.J)) rfl rfl rfl ?_
    exact kk
  exact sh_Lk_sub (sh_sub_c rfl (sh_sub_c rfl (sh_sub_c rfl (sh_sub_c rfl (sh_sub_c rfl (sh_sub_n)))))) (sl_186_5 e tg)
theorem sl_182_119 {x5 : Int32} {x10 : Int32} {y0 : Int32} {m m2 : sh_X} {o : Outcome} {z : (Int32 × sh_X)} (e : sf_182_119 x5 x10 y0 m = some z) (tg : (sh_tI o m2) z) : sh_Lk 182 119 [(0, .ref 45), (5, .int x5), (10, .int x10)] [.int y0] m o m2 13 356 := by
  unfold sf_182_119 at e
  refine sh_Lk_lift (T := m.T) (I := m.I) (J := m.J) (s := m.s) (pc2 := 128) (lv2 := [(11, .int y0), (0, .ref 45), (5, .int x5), (10, .int x10)]) (st2 := [.int y0, .int x5, .int x10, .ref 45]) (I2 := m.I) (J2 := m.J) (fun hT v kk => ?_) ?_
  · refine sh_w (i := (.istore 11)) (len := 2) (pc2 := 121) (lv2 := [(11, .int y0), (0, .ref 45), (5, .int x5), (10, .int x10)]) (st2 := []) (h2 := (sh_rep m.T m.I m.J)) rfl rfl rfl ?_
    refine sh_w (i := (.aload_n 0)) (len := 1) (pc2 := 122) (lv2 := [(11, .int y0), (0, .ref 45), (5, .int x5), (10, .int x10)]) (st2 := [.ref 45]) (h2 := (sh_rep m.T m.I m.J)) rfl rfl rfl ?_
    refine sh_w (i := (.iload 10)) (len := 2) (pc2 := 124) (lv2 := [(11, .int y0), (0, .ref 45), (5, .int x5), (10, .int x10)]) (st2 := [.int x10, .ref 45]) (h2 := (sh_rep m.T m.I m.J)) rfl rfl rfl ?_
    refine sh_w (i := (.iload 5)) (len := 2) (pc2 := 126) (lv2 := [(11, .int y0), (0, .ref 45), (5, .int x5), (10, .int x10)]) (st2 := [.int x5, .int x10, .ref 45]) (h2 := (sh_rep m.T m.I m.J)) rfl rfl rfl ?_
    refine sh_w (i := (.iload 11)) (len := 2) (pc2 := 128) (lv2 := [(11, .int y0), (0, .ref 45), (5, .int x5), (10, .int x10)]) (st2 := [.int y0, .int x5, .int x10, .ref 45]) (h2 := (sh_rep m.T m.I m.J)) rfl rfl rfl ?_
    exact kk
  obtain ⟨r1, m11, e1, e⟩ := sh_bn_e e
  refine sh_Lk_cV (r := (some (.int r1))) (st2 := [.int r1]) (pc2 := 131) (k2 := 166) (a := 44) (as := [.ref 45, .int x10, .int x5, .int y0]) (rest := []) rfl rfl rfl (fun hT => (sh_s44 hT.st)) rfl rfl ⟨Nat.le_of_ble_eq_true rfl, Nat.le_of_ble_eq_true rfl⟩ (sl_166 e1 ⟨rfl, rfl⟩) rfl rfl (Nat.le_of_ble_eq_true rfl) (Nat.le_of_ble_eq_true rfl) ?_
  obtain rfl := Option.some.inj e
  obtain ⟨rfl, rfl⟩ := tg
  exact sh_Lk_ret (i := .ireturn) rfl rfl rfl (Nat.le_of_ble_eq_true rfl) (Nat.le_of_ble_eq_true rfl)
theorem sl_182 {x1 : Int32} {x2 : Int32} {x3 : Int32} {x4 : Bool} {m m2 : sh_X} {o : Outcome} {z : (Int32 × sh_X)} (e : sf_182 x1 x2 x3 x4 m = some z) (tg : (sh_tI o m2) z) : sh_Lk 182 0 [(0, .ref 45), (1, .int x1), (2, .int x2), (3, .int x3), (4, .int (sh_b2 x4))] [] m o m2 13 356 := by
  unfold sf_182 at e
  refine sh_Lk_lift (T := m.T) (I := m.I) (J := m.J) (s := m.s) (pc2 := 1) (lv2 := [(0, .ref 45), (1, .int x1), (2, .int x2), (3, .int x3), (4, .int (sh_b2 x4))]) (st2 := [.int x3]) (I2 := m.I) (J2 := m.J) (fun hT v kk => ?_) ?_
  · refine sh_w (i := (.iload_n 3)) (len := 1) (pc2 := 1) (lv2 := [(0, .ref 45), (1, .int x1), (2, .int x2), (3, .int x3), (4, .int (sh_b2 x4))]) (st2 := [.int x3]) (h2 := (sh_rep m.T m.I m.J)) rfl rfl rfl ?_
    exact kk
  refine sh_Lk_cS (r := (some (.int (sf_94 x3)))) (st2 := [.int (sf_94 x3)]) (pc2 := 4) (k2 := 94) (as := [.int x3]) (rest := []) rfl rfl (by decide) (Nat.le_of_ble_eq_true rfl) rfl rfl ⟨Nat.le_of_ble_eq_true rfl, Nat.le_of_ble_eq_true rfl⟩ (sl_94 (m := m) rfl ⟨rfl, rfl⟩) rfl rfl (Nat.le_of_ble_eq_true rfl) (Nat.le_of_ble_eq_true rfl) ?_
  refine sh_Lk_lift (T := m.T) (I := m.I) (J := m.J) (s := m.s) (pc2 := 7) (lv2 := [(5, .int (sf_94 x3)), (0, .ref 45), (1, .int x1), (2, .int x2), (3, .int x3), (4, .int (sh_b2 x4))]) (st2 := [.int x3]) (I2 := m.I) (J2 := m.J) (fun hT v kk => ?_) ?_
  · refine sh_w (i := (.istore 5)) (len := 2) (pc2 := 6) (lv2 := [(5, .int (sf_94 x3)), (0, .ref 45), (1, .int x1), (2, .int x2), (3, .int x3), (4, .int (sh_b2 x4))]) (st2 := []) (h2 := (sh_rep m.T m.I m.J)) rfl rfl rfl ?_
    refine sh_w (i := (.iload_n 3)) (len := 1) (pc2 := 7) (lv2 := [(5, .int (sf_94 x3)), (0, .ref 45), (1, .int x1), (2, .int x2), (3, .int x3), (4, .int (sh_b2 x4))]) (st2 := [.int x3]) (h2 := (sh_rep m.T m.I m.J)) rfl rfl rfl ?_
    exact kk
  refine sh_Lk_cS (r := (some (.int (sh_b2 (sf_114 x3))))) (st2 := [.int (sh_b2 (sf_114 x3))]) (pc2 := 10) (k2 := 114) (as := [.int x3]) (rest := []) rfl rfl (by decide) (Nat.le_of_ble_eq_true rfl) rfl rfl ⟨Nat.le_of_ble_eq_true rfl, Nat.le_of_ble_eq_true rfl⟩ (sl_114 (m := m) rfl ⟨rfl, rfl⟩) rfl rfl (Nat.le_of_ble_eq_true rfl) (Nat.le_of_ble_eq_true rfl) ?_
  rcases sh_ite e with ⟨c, e⟩ | ⟨c, e⟩
  · refine sh_Lk_lift (T := m.T) (I := m.I) (J := m.J) (s := m.s) (pc2 := 31) (lv2 := [(5, .int (sf_94 x3)), (0, .ref 45), (1, .int x1), (2, .int x2), (3, .int x3), (4, .int (sh_b2 x4))]) (st2 := [.int ((x1 + (sf_94 x3)) - 1), .ref 45]) (I2 := m.I) (J2 := m.J) (fun hT v kk => ?_) ?_
    · refine sh_j0 (c := .ne) (off := (14)) (pc2 := 24) true rfl (sh_Znet c) rfl ?_
      refine sh_w (i := (.aload_n 0)) (len := 1) (pc2 := 25) (lv2 := [(5, .int (sf_94 x3)), (0, .ref 45), (1, .int x1), (2, .int x2), (3, .int x3), (4, .int (sh_b2 x4))]) (st2 := [.ref 45]) (h2 := (sh_rep m.T m.I m.J)) rfl rfl rfl ?_
      refine sh_w (i := (.iload_n 1)) (len := 1) (pc2 := 26) (lv2 := [(5, .int (sf_94 x3)), (0, .ref 45), (1, .int x1), (2, .int x2), (3, .int x3), (4, .int (sh_b2 x4))]) (st2 := [.int x1, .ref 45]) (h2 := (sh_rep m.T m.I m.J)) rfl rfl rfl ?_
      refine sh_w (i := (.iload 5)) (len := 2) (pc2 := 28) (lv2 := [(5, .int (sf_94 x3)), (0, .ref 45), (1, .int x1), (2, .int x2), (3, .int x3), (4, .int (sh_b2 x4))]) (st2 := [.int (sf_94 x3), .int x1, .ref 45]) (h2 := (sh_rep m.T m.I m.J)) rfl rfl rfl ?_
      refine sh_w (i := .iadd) (len := 1) (pc2 := 29) (lv2 := [(5, .int (sf_94 x3)), (0, .ref 45), (1, .int x1), (2, .int x2), (3, .int x3), (4, .int (sh_b2 x4))]) (st2 := [.int (x1 + (sf_94 x3)), .ref 45]) (h2 := (sh_rep m.T m.I m.J)) rfl rfl rfl ?_
      refine sh_w (i := (.iconst 1)) (len := 1) (pc2 := 30) (lv2 := [(5, .int (sf_94 x3)), (0, .ref 45), (1, .int x1), (2, .int x2), (3, .int x3), (4, .int (sh_b2 x4))]) (st2 := [.int 1, .int (x1 + (sf_94 x3)), .ref 45]) (h2 := (sh_rep m.T m.I m.J)) rfl rfl rfl ?_
      refine sh_w (i := .isub) (len := 1) (pc2 := 31) (lv2 := [(5, .int (sf_94 x3)), (0, .ref 45), (1, .int x1), (2, .int x2), (3, .int x3), (4, .int (sh_b2 x4))]) (st2 := [.int ((x1 + (sf_94 x3)) - 1), .ref 45]) (h2 := (sh_rep m.T m.I m.J)) rfl rfl rfl ?_
      exact kk
    obtain ⟨r3, e3, e⟩ := sh_bc_e e
    refine sh_Lk_cV (r := (some (.int r3))) (st2 := [.int r3]) (pc2 := 34) (k2 := 103) (a := 44) (as := [.ref 45, .int ((x1 + (sf_94 x3)) - 1)]) (rest := []) rfl rfl rfl (fun hT => (sh_s44 hT.st)) rfl rfl ⟨Nat.le_of_ble_eq_true rfl, Nat.le_of_ble_eq_true rfl⟩ (sl_103 e3 ⟨rfl, rfl⟩) rfl rfl (Nat.le_of_ble_eq_true rfl) (Nat.le_of_ble_eq_true rfl) ?_
    refine sh_Lk_lift (T := m.T) (I := m.I) (J := m.J) (s := m.s) (pc2 := 43) (lv2 := [(6, .int r3), (5, .int (sf_94 x3)), (0, .ref 45), (1, .int x1), (2, .int x2), (3, .int x3), (4, .int (sh_b2 x4))]) (st2 := [.int ((x2 + (sf_94 x3)) - 1), .ref 45]) (I2 := m.I) (J2 := m.J) (fun hT v kk => ?_) ?_
    · refine sh_w (i := (.istore 6)) (len := 2) (pc2 := 36) (lv2 := [(6, .int r3), (5, .int (sf_94 x3)), (0, .ref 45), (1, .int x1), (2, .int x2), (3, .int x3), (4, .int (sh_b2 x4))]) (st2 := []) (h2 := (sh_rep m.T m.I m.J)) rfl rfl rfl ?_
      refine sh_w (i := (.aload_n 0)) (len := 1) (pc2 := 37) (lv2 := [(6, .int r3), (5, .int (sf_94 x3)), (0, .ref 45), (1, .int x1), (2, .int x2), (3, .int x3), (4, .int (sh_b2 x4))]) (st2 := [.ref 45]) (h2 := (sh_rep m.T m.I m.J)) rfl rfl rfl ?_
      refine sh_w (i := (.iload_n 2)) (len := 1) (pc2 := 38) (lv2 := [(6, .int r3), (5, .int (sf_94 x3)), (0, .ref 45), (1, .int x1), (2, .int x2), (3, .int x3), (4, .int (sh_b2 x4))]) (st2 := [.int x2, .ref 45]) (h2 := (sh_rep m.T m.I m.J)) rfl rfl rfl ?_
      refine sh_w (i := (.iload 5)) (len := 2) (pc2 := 40) (lv2 := [(6, .int r3), (5, .int (sf_94 x3)), (0, .ref 45), (1, .int x1), (2, .int x2), (3, .int x3), (4, .int (sh_b2 x4))]) (st2 := [.int (sf_94 x3), .int x2, .ref 45]) (h2 := (sh_rep m.T m.I m.J)) rfl rfl rfl ?_
      refine sh_w (i := .iadd) (len := 1) (pc2 := 41) (lv2 := [(6, .int r3), (5, .int (sf_94 x3)), (0, .ref 45), (1, .int x1), (2, .int x2), (3, .int x3), (4, .int (sh_b2 x4))]) (st2 := [.int (x2 + (sf_94 x3)), .ref 45]) (h2 := (sh_rep m.T m.I m.J)) rfl rfl rfl ?_
      refine sh_w (i := (.iconst 1)) (len := 1) (pc2 := 42) (lv2 := [(6, .int r3), (5, .int (sf_94 x3)), (0, .ref 45), (1, .int x1), (2, .int x2), (3, .int x3), (4, .int (sh_b2 x4))]) (st2 := [.int 1, .int (x2 + (sf_94 x3)), .ref 45]) (h2 := (sh_rep m.T m.I m.J)) rfl rfl rfl ?_
      refine sh_w (i := .isub) (len := 1) (pc2 := 43) (lv2 := [(6, .int r3), (5, .int (sf_94 x3)), (0, .ref 45), (1, .int x1), (2, .int x2), (3, .int x3), (4, .int (sh_b2 x4))]) (st2 := [.int ((x2 + (sf_94 x3)) - 1), .ref 45]) (h2 := (sh_rep m.T m.I m.J)) rfl rfl rfl ?_
      exact kk
    obtain ⟨r4, e4, e⟩ := sh_bc_e e
    refine sh_Lk_cV (r := (some (.int r4))) (st2 := [.int r4]) (pc2 := 46) (k2 := 103) (a := 44) (as := [.ref 45, .int ((x2 + (sf_94 x3)) - 1)]) (rest := []) rfl rfl rfl (fun hT => (sh_s44 hT.st)) rfl rfl ⟨Nat.le_of_ble_eq_true rfl, Nat.le_of_ble_eq_true rfl⟩ (sl_103 e4 ⟨rfl, rfl⟩) rfl rfl (Nat.le_of_ble_eq_true rfl) (Nat.le_of_ble_eq_true rfl) ?_
    refine sh_Lk_lift (T := m.T) (I := m.I) (J := m.J) (s := m.s) (pc2 := 54) (lv2 := [(7, .int r4), (6, .int r3), (5, .int (sf_94 x3)), (0, .ref 45), (1, .int x1), (2, .int x2), (3, .int x3), (4, .int (sh_b2 x4))]) (st2 := [.int r3, .int (sf_94 x3), .int x1, .ref 45]) (I2 := m.I) (J2 := m.J) (fun hT v kk => ?_) ?_
    · refine sh_w (i := (.istore 7)) (len := 2) (pc2 := 48) (lv2 := [(7, .int r4), (6, .int r3), (5, .int (sf_94 x3)), (0, .ref 45), (1, .int x1), (2, .int x2), (3, .int x3), (4, .int (sh_b2 x4))]) (st2 := []) (h2 := (sh_rep m.T m.I m.J)) rfl rfl rfl ?_
      refine sh_w (i := (.aload_n 0)) (len := 1) (pc2 := 49) (lv2 := [(7, .int r4), (6, .int r3), (5, .int (sf_94 x3)), (0, .ref 45), (1, .int x1), (2, .int x2), (3, .int x3), (4, .int (sh_b2 x4))]) (st2 := [.ref 45]) (h2 := (sh_rep m.T m.I m.J)) rfl rfl rfl ?_
      refine sh_w (i := (.iload_n 1)) (len := 1) (pc2 := 50) (lv2 := [(7, .int r4), (6, .int r3), (5, .int (sf_94 x3)), (0, .ref 45), (1, .int x1), (2, .int x2), (3, .int x3), (4, .int (sh_b2 x4))]) (st2 := [.int x1, .ref 45]) (h2 := (sh_rep m.T m.I m.J)) rfl rfl rfl ?_
      refine sh_w (i := (.iload 5)) (len := 2) (pc2 := 52) (lv2 := [(7, .int r4), (6, .int r3), (5, .int (sf_94 x3)), (0, .ref 45), (1, .int x1), (2, .int x2), (3, .int x3), (4, .int (sh_b2 x4))]) (st2 := [.int (sf_94 x3), .int x1, .ref 45]) (h2 := (sh_rep m.T m.I m.J)) rfl rfl rfl ?_
      refine sh_w (i := (.iload 6)) (len := 2) (pc2 := 54) (lv2 := [(7, .int r4), (6, .int r3), (5, .int (sf_94 x3)), (0, .ref 45), (1, .int x1), (2, .int x2), (3, .int x3), (4, .int (sh_b2 x4))]) (st2 := [.int r3, .int (sf_94 x3), .int x1, .ref 45]) (h2 := (sh_rep m.T m.I m.J)) rfl rfl rfl ?_
      exact kk
    obtain ⟨r5, m15, e5, e⟩ := sh_bn_e e
    refine sh_Lk_cV (r := (some (.int r5))) (st2 := [.int r5]) (pc2 := 57) (k2 := 166) (a := 44) (as := [.ref 45, .int x1, .int (sf_94 x3), .int r3]) (rest := []) rfl rfl rfl (fun hT => (sh_s44 hT.st)) rfl rfl ⟨Nat.le_of_ble_eq_true rfl, Nat.le_of_ble_eq_true rfl⟩ (sl_166 e5 ⟨rfl, rfl⟩) rfl rfl (Nat.le_of_ble_eq_true rfl) (Nat.le_of_ble_eq_true rfl) ?_
    refine sh_Lk_lift (T := m15.T) (I := m15.I) (J := m15.J) (s := m15.s) (pc2 := 65) (lv2 := [(8, .int r5), (7, .int r4), (6, .int r3), (5, .int (sf_94 x3)), (0, .ref 45), (1, .int x1), (2, .int x2), (3, .int x3), (4, .int (sh_b2 x4))]) (st2 := [.int r4, .int (sf_94 x3), .int x2, .ref 45]) (I2 := m15.I) (J2 := m15.J) (fun hT v kk => ?_) ?_
    · refine sh_w (i := (.istore 8)) (len := 2) (pc2 := 59) (lv2 := [(8, .int r5), (7, .int r4), (6, .int r3), (5, .int (sf_94 x3)), (0, .ref 45), (1, .int x1), (2, .int x2), (3, .int x3), (4, .int (sh_b2 x4))]) (st2 := []) (h2 := (sh_rep m15.T m15.I m15.J)) rfl rfl rfl ?_
      refine sh_w (i := (.aload_n 0)) (len := 1) (pc2 := 60) (lv2 := [(8, .int r5), (7, .int r4), (6, .int r3), (5, .int (sf_94 x3)), (0, .ref 45), (1, .int x1), (2, .int x2), (3, .int x3), (4, .int (sh_b2 x4))]) (st2 := [.ref 45]) (h2 := (sh_rep m15.T m15.I m15.J)) rfl rfl rfl ?_
      refine sh_w (i := (.iload_n 2)) (len := 1) (pc2 := 61) (lv2 := [(8, .int r5), (7, .int r4), (6, .int r3), (5, .int (sf_94 x3)), (0, .ref 45), (1, .int x1), (2, .int x2), (3, .int x3), (4, .int (sh_b2 x4))]) (st2 := [.int x2, .ref 45]) (h2 := (sh_rep m15.T m15.I m15.J)) rfl rfl rfl ?_
      refine sh_w (i := (.iload 5)) (len := 2) (pc2 := 63) (lv2 := [(8, .int r5), (7, .int r4), (6, .int r3), (5, .int (sf_94 x3)), (0, .ref 45), (1, .int x1), (2, .int x2), (3, .int x3), (4, .int (sh_b2 x4))]) (st2 := [.int (sf_94 x3), .int x2, .ref 45]) (h2 := (sh_rep m15.T m15.I m15.J)) rfl rfl rfl ?_
      refine sh_w (i := (.iload 7)) (len := 2) (pc2 := 65) (lv2 := [(8, .int r5), (7, .int r4), (6, .int r3), (5, .int (sf_94 x3)), (0, .ref 45), (1, .int x1), (2, .int x2), (3, .int x3), (4, .int (sh_b2 x4))]) (st2 := [.int r4, .int (sf_94 x3), .int x2, .ref 45]) (h2 := (sh_rep m15.T m15.I m15.J)) rfl rfl rfl ?_
      exact kk
    obtain ⟨r6, m16, e6, e⟩ := sh_bn_e e
    refine sh_Lk_cV (r := (some (.int r6))) (st2 := [.int r6]) (pc2 := 68) (k2 := 166) (a := 44) (as := [.ref 45, .int x2, .int (sf_94 x3), .int r4]) (rest := []) rfl rfl rfl (fun hT => (sh_s44 hT.st)) rfl rfl ⟨Nat.le_of_ble_eq_true rfl, Nat.le_of_ble_eq_true rfl⟩ (sl_166 e6 ⟨rfl, rfl⟩) rfl rfl (Nat.le_of_ble_eq_true rfl) (Nat.le_of_ble_eq_true rfl) ?_
    refine sh_Lk_lift (T := m16.T) (I := m16.I) (J := m16.J) (s := m16.s) (pc2 := 79) (lv2 := [(9, .int r6), (8, .int r5), (7, .int r4), (6, .int r3), (5, .int (sf_94 x3)), (0, .ref 45), (1, .int x1), (2, .int x2), (3, .int x3), (4, .int (sh_b2 x4))]) (st2 := [.int (sh_b2 x4), .int (sf_94 x3), .int r6, .int r5, .ref 45]) (I2 := m16.I) (J2 := m16.J) (fun hT v kk => ?_) ?_
    · refine sh_w (i := (.istore 9)) (len := 2) (pc2 := 70) (lv2 := [(9, .int r6), (8, .int r5), (7, .int r4), (6, .int r3), (5, .int (sf_94 x3)), (0, .ref 45), (1, .int x1), (2, .int x2), (3, .int x3), (4, .int (sh_b2 x4))]) (st2 := []) (h2 := (sh_rep m16.T m16.I m16.J)) rfl rfl rfl ?_
      refine sh_w (i := (.aload_n 0)) (len := 1) (pc2 := 71) (lv2 := [(9, .int r6), (8, .int r5), (7, .int r4), (6, .int r3), (5, .int (sf_94 x3)), (0, .ref 45), (1, .int x1), (2, .int x2), (3, .int x3), (4, .int (sh_b2 x4))]) (st2 := [.ref 45]) (h2 := (sh_rep m16.T m16.I m16.J)) rfl rfl rfl ?_
      refine sh_w (i := (.iload 8)) (len := 2) (pc2 := 73) (lv2 := [(9, .int r6), (8, .int r5), (7, .int r4), (6, .int r3), (5, .int (sf_94 x3)), (0, .ref 45), (1, .int x1), (2, .int x2), (3, .int x3), (4, .int (sh_b2 x4))]) (st2 := [.int r5, .ref 45]) (h2 := (sh_rep m16.T m16.I m16.J)) rfl rfl rfl ?_
      refine sh_w (i := (.iload 9)) (len := 2) (pc2 := 75) (lv2 := [(9, .int r6), (8, .int r5), (7, .int r4), (6, .int r3), (5, .int (sf_94 x3)), (0, .ref 45), (1, .int x1), (2, .int x2), (3, .int x3), (4, .int (sh_b2 x4))]) (st2 := [.int r6, .int r5, .ref 45]) (h2 := (sh_rep m16.T m16.I m16.J)) rfl rfl rfl ?_
      refine sh_w (i := (.iload 5)) (len := 2) (pc2 := 77) (lv2 := [(9, .int r6), (8, .int r5), (7, .int r4), (6, .int r3), (5, .int (sf_94 x3)), (0, .ref 45), (1, .int x1), (2, .int x2), (3, .int x3), (4, .int (sh_b2 x4))]) (st2 := [.int (sf_94 x3), .int r6, .int r5, .ref 45]) (h2 := (sh_rep m16.T m16.I m16.J)) rfl rfl rfl ?_
      refine sh_w (i := (.iload 4)) (len := 2) (pc2 := 79) (lv2 := [(9, .int r6), (8, .int r5), (7, .int r4), (6, .int r3), (5, .int (sf_94 x3)), (0, .ref 45), (1, .int x1), (2, .int x2), (3, .int x3), (4, .int (sh_b2 x4))]) (st2 := [.int (sh_b2 x4), .int (sf_94 x3), .int r6, .int r5, .ref 45]) (h2 := (sh_rep m16.T m16.I m16.J)) rfl rfl rfl ?_
      exact kk
    obtain ⟨r7, m17, e7, e⟩ := sh_bn_e e
    refine sh_Lk_cV (r := (some (.int r7))) (st2 := [.int r7]) (pc2 := 82) (k2 := 183) (a := 44) (as := [.ref 45, .int r5, .int r6, .int (sf_94 x3), .int (sh_b2 x4)]) (rest := []) rfl rfl rfl (fun hT => (sh_s44 hT.st)) rfl rfl ⟨Nat.le_of_ble_eq_true rfl, Nat.le_of_ble_eq_true rfl⟩ (sl_183 e7 ⟨rfl, rfl⟩) rfl rfl (Nat.le_of_ble_eq_true rfl) (Nat.le_of_ble_eq_true rfl) ?_
    refine sh_Lk_lift (T := m17.T) (I := m17.I) (J := m17.J) (s := m17.s) (pc2 := 86) (lv2 := [(10, .int r7), (9, .int r6), (8, .int r5), (7, .int r4), (6, .int r3), (5, .int (sf_94 x3)), (0, .ref 45), (1, .int x1), (2, .int x2), (3, .int x3), (4, .int (sh_b2 x4))]) (st2 := [.int (sh_b2 x4)]) (I2 := m17.I) (J2 := m17.J) (fun hT v kk => ?_) ?_
    · refine sh_w (i := (.istore 10)) (len := 2) (pc2 := 84) (lv2 := [(10, .int r7), (9, .int r6), (8, .int r5), (7, .int r4), (6, .int r3), (5, .int (sf_94 x3)), (0, .ref 45), (1, .int x1), (2, .int x2), (3, .int x3), (4, .int (sh_b2 x4))]) (st2 := []) (h2 := (sh_rep m17.T m17.I m17.J)) rfl rfl rfl ?_
      refine sh_w (i := (.iload 4)) (len := 2) (pc2 := 86) (lv2 := [(10, .int r7), (9, .int r6), (8, .int r5), (7, .int r4), (6, .int r3), (5, .int (sf_94 x3)), (0, .ref 45), (1, .int x1), (2, .int x2), (3, .int x3), (4, .int (sh_b2 x4))]) (st2 := [.int (sh_b2 x4)]) (h2 := (sh_rep m17.T m17.I m17.J)) rfl rfl rfl ?_
      exact kk
    rcases sh_ite e with ⟨c, e⟩ | ⟨c, e⟩
    · refine sh_Lk_lift (T := m17.T) (I := m17.I) (J := m17.J) (s := m17.s) (pc2 := 119) (lv2 := [(10, .int r7), (9, .int r6), (8, .int r5), (7, .int r4), (6, .int r3), (5, .int (sf_94 x3)), (0, .ref 45), (1, .int x1), (2, .int x2), (3, .int x3), (4, .int (sh_b2 x4))]) (st2 := [.int r3]) (I2 := m17.I) (J2 := m17.J) (fun hT v kk => ?_) ?_
      · refine sh_j0 (c := .eq) (off := (8)) (pc2 := 89) false rfl (sh_Zeqf c) rfl ?_
        refine sh_w (i := (.iload 6)) (len := 2) (pc2 := 91) (lv2 := [(10, .int r7), (9, .int r6), (8, .int r5), (7, .int r4), (6, .int r3), (5, .int (sf_94 x3)), (0, .ref 45), (1, .int x1), (2, .int x2), (3, .int x3), (4, .int (sh_b2 x4))]) (st2 := [.int r3]) (h2 := (sh_rep m17.T m17.I m17.J)) rfl rfl rfl ?_
        refine sh_w (i := (.goto 28)) (len := 3) (pc2 := 119) (lv2 := [(10, .int r7), (9, .int r6), (8, .int r5), (7, .int r4), (6, .int r3), (5, .int (sf_94 x3)), (0, .ref 45), (1, .int x1), (2, .int x2), (3, .int x3), (4, .int (sh_b2 x4))]) (st2 := [.int r3]) (h2 := (sh_rep m17.T m17.I m17.J)) rfl rfl rfl ?_
        exact kk
      exact sh_Lk_sub (sh_sub_c rfl (sh_sub_c rfl (sh_sub_c rfl (sh_sub_n)))) (sl_182_119 e tg)
    · refine sh_Lk_lift (T := m17.T) (I := m17.I) (J := m17.J) (s := m17.s) (pc2 := 106) (lv2 := [(10, .int r7), (9, .int r6), (8, .int r5), (7, .int r4), (6, .int r3), (5, .int (sf_94 x3)), (0, .ref 45), (1, .int x1), (2, .int x2), (3, .int x3), (4, .int (sh_b2 x4))]) (st2 := [.int r4, .int r3, .ref 10, .ref 10]) (I2 := m17.I) (J2 := m17.J) (fun hT v kk => ?_) ?_
      · refine sh_j0 (c := .eq) (off := (8)) (pc2 := 94) true rfl (sh_Zeqt c) rfl ?_
        refine sh_w (i := (.aload_n 0)) (len := 1) (pc2 := 95) (lv2 := [(10, .int r7), (9, .int r6), (8, .int r5), (7, .int r4), (6, .int r3), (5, .int (sf_94 x3)), (0, .ref 45), (1, .int x1), (2, .int x2), (3, .int x3), (4, .int (sh_b2 x4))]) (st2 := [.ref 45]) (h2 := (sh_rep m17.T m17.I m17.J)) rfl rfl rfl ?_
        refine sh_gR1 (len := 3) (x := .ref 10) (pc2 := 98) rfl rfl (sh_s44 hT.st) rfl rfl ?_
        refine sh_w (i := (.aload_n 0)) (len := 1) (pc2 := 99) (lv2 := [(10, .int r7), (9, .int r6), (8, .int r5), (7, .int r4), (6, .int r3), (5, .int (sf_94 x3)), (0, .ref 45), (1, .int x1), (2, .int x2), (3, .int x3), (4, .int (sh_b2 x4))]) (st2 := [.ref 45, .ref 10]) (h2 := (sh_rep m17.T m17.I m17.J)) rfl rfl rfl ?_
        refine sh_gR1 (len := 3) (x := .ref 10) (pc2 := 102) rfl rfl (sh_s44 hT.st) rfl rfl ?_
        refine sh_w (i := (.iload 6)) (len := 2) (pc2 := 104) (lv2 := [(10, .int r7), (9, .int r6), (8, .int r5), (7, .int r4), (6, .int r3), (5, .int (sf_94 x3)), (0, .ref 45), (1, .int x1), (2, .int x2), (3, .int x3), (4, .int (sh_b2 x4))]) (st2 := [.int r3, .ref 10, .ref 10]) (h2 := (sh_rep m17.T m17.I m17.J)) rfl rfl rfl ?_
        refine sh_w (i := (.iload 7)) (len := 2) (pc2 := 106) (lv2 := [(10, .int r7), (9, .int r6), (8, .int r5), (7, .int r4), (6, .int r3), (5, .int (sf_94 x3)), (0, .ref 45), (1, .int x1), (2, .int x2), (3, .int x3), (4, .int (sh_b2 x4))]) (st2 := [.int r4, .int r3, .ref 10, .ref 10]) (h2 := (sh_rep m17.T m17.I m17.J)) rfl rfl rfl ?_
        exact kk
      obtain ⟨r8, m18, e8, e⟩ := sh_bn_e e
      refine sh_Lk_cV (r := (some (.int r8))) (st2 := [.int r8, .ref 10]) (pc2 := 109) (k2 := 130) (a := 9) (as := [.ref 10, .int r3, .int r4]) (rest := [.ref 10]) rfl rfl rfl (fun hT => hT.t9) rfl rfl ⟨Nat.le_of_ble_eq_true rfl, Nat.le_of_ble_eq_true rfl⟩ (sl_130 e8 ⟨rfl, rfl⟩) rfl rfl (Nat.le_of_ble_eq_true rfl) (Nat.le_of_ble_eq_true rfl) ?_
      refine sh_Lk_lift (T := m18.T) (I := m18.I) (J := m18.J) (s := m18.s) (pc2 := 113) (lv2 := [(10, .int r7), (9, .int r6), (8, .int r5), (7, .int r4), (6, .int r3), (5, .int (sf_94 x3)), (0, .ref 45), (1, .int x1), (2, .int x2), (3, .int x3), (4, .int (sh_b2 x4))]) (st2 := [.int (sf_94 x3), .int x2, .ref 45, .int r8, .ref 10]) (I2 := m18.I) (J2 := m18.J) (fun hT v kk => ?_) ?_
      · refine sh_w (i := (.aload_n 0)) (len := 1) (pc2 := 110) (lv2 := [(10, .int r7), (9, .int r6), (8, .int r5), (7, .int r4), (6, .int r3), (5, .int (sf_94 x3)), (0, .ref 45), (1, .int x1), (2, .int x2), (3, .int x3), (4, .int (sh_b2 x4))]) (st2 := [.ref 45, .int r8, .ref 10]) (h2 := (sh_rep m18.T m18.I m18.J)) rfl rfl rfl ?_
        refine sh_w (i := (.iload_n 2)) (len := 1) (pc2 := 111) (lv2 := [(10, .int r7), (9, .int r6), (8, .int r5), (7, .int r4), (6, .int r3), (5, .int (sf_94 x3)), (0, .ref 45), (1, .int x1), (2, .int x2), (3, .int x3), (4, .int (sh_b2 x4))]) (st2 := [.int x2, .ref 45, .int r8, .ref 10]) (h2 := (sh_rep m18.T m18.I m18.J)) rfl rfl rfl ?_
        refine sh_w (i := (.iload 5)) (len := 2) (pc2 := 113) (lv2 := [(10, .int r7), (9, .int r6), (8, .int r5), (7, .int r4), (6, .int r3), (5, .int (sf_94 x3)), (0, .ref 45), (1, .int x1), (2, .int x2), (3, .int x3), (4, .int (sh_b2 x4))]) (st2 := [.int (sf_94 x3), .int x2, .ref 45, .int r8, .ref 10]) (h2 := (sh_rep m18.T m18.I m18.J)) rfl rfl rfl ?_
        exact kk
      obtain ⟨r9, m19, e9, e⟩ := sh_bn_e e
      refine sh_Lk_cV (r := (some (.int r9))) (st2 := [.int r9, .int r8, .ref 10]) (pc2 := 116) (k2 := 186) (a := 44) (as := [.ref 45, .int x2, .int (sf_94 x3)]) (rest := [.int r8, .ref 10]) rfl rfl rfl (fun hT => (sh_s44 hT.st)) rfl rfl ⟨Nat.le_of_ble_eq_true rfl, Nat.le_of_ble_eq_true rfl⟩ (sl_186 e9 ⟨rfl, rfl⟩) rfl rfl (Nat.le_of_ble_eq_true rfl) (Nat.le_of_ble_eq_true rfl) ?_
      obtain ⟨r10, m20, e10, e⟩ := sh_bn_e e
      refine sh_Lk_cV (r := (some (.int r10))) (st2 := [.int r10]) (pc2 := 119) (k2 := 132) (a := 9) (as := [.ref 10, .int r8, .int r9]) (rest := []) rfl rfl rfl (fun hT => hT.t9) rfl rfl ⟨Nat.le_of_ble_eq_true rfl, Nat.le_of_ble_eq_true rfl⟩ (sl_132 e10 ⟨rfl, rfl⟩) rfl rfl (Nat.le_of_ble_eq_true rfl) (Nat.le_of_ble_eq_true rfl) ?_
      exact sh_Lk_sub (sh_sub_c rfl (sh_sub_c rfl (sh_sub_c rfl (sh_sub_n)))) (sl_182_119 e tg)
  · refine sh_Lk_lift (T := m.T) (I := m.I) (J := m.J) (s := m.s) (pc2 := 20) (lv2 := [(5, .int (sf_94 x3)), (0, .ref 45), (1, .int x1), (2, .int x2), (3, .int x3), (4, .int (sh_b2 x4))]) (st2 := [.int (sh_b2 x4), .int (sf_94 x3), .int x2, .int x1, .ref 45]) (I2 := m.I) (J2 := m.J) (fun hT v kk => ?_) ?_
    · refine sh_j0 (c := .ne) (off := (14)) (pc2 := 13) false rfl (sh_Znef c) rfl ?_
      refine sh_w (i := (.aload_n 0)) (len := 1) (pc2 := 14) (lv2 := [(5, .int (sf_94 x3)), (0, .ref 45), (1, .int x1), (2, .int x2), (3, .int x3), (4, .int (sh_b2 x4))]) (st2 := [.ref 45]) (h2 := (sh_rep m.T m.I m.J)) rfl rfl rfl ?_
      refine sh_w (i := (.iload_n 1)) (len := 1) (pc2 := 15) (lv2 := [(5, .int (sf_94 x3)), (0, .ref 45), (1, .int x1), (2, .int x2), (3, .int x3), (4, .int (sh_b2 x4))]) (st2 := [.int x1, .ref 45]) (h2 := (sh_rep m.T m.I m.J)) rfl rfl rfl ?_
      refine sh_w (i := (.iload_n 2)) (len := 1) (pc2 := 16) (lv2 := [(5, .int (sf_94 x3)), (0, .ref 45), (1, .int x1), (2, .int x2), (3, .int x3), (4, .int (sh_b2 x4))]) (st2 := [.int x2, .int x1, .ref 45]) (h2 := (sh_rep m.T m.I m.J)) rfl rfl rfl ?_
      refine sh_w (i := (.iload 5)) (len := 2) (pc2 := 18) (lv2 := [(5, .int (sf_94 x3)), (0, .ref 45), (1, .int x1), (2, .int x2), (3, .int x3), (4, .int (sh_b2 x4))]) (st2 := [.int (sf_94 x3), .int x2, .int x1, .ref 45]) (h2 := (sh_rep m.T m.I m.J)) rfl rfl rfl ?_
      refine sh_w (i := (.iload 4)) (len := 2) (pc2 := 20) (lv2 := [(5, .int (sf_94 x3)), (0, .ref 45), (1, .int x1), (2, .int x2), (3, .int x3), (4, .int (sh_b2 x4))]) (st2 := [.int (sh_b2 x4), .int (sf_94 x3), .int x2, .int x1, .ref 45]) (h2 := (sh_rep m.T m.I m.J)) rfl rfl rfl ?_
      exact kk
    obtain ⟨r11, m21, e11, e⟩ := sh_bn_e e
    refine sh_Lk_cV (r := (some (.int r11))) (st2 := [.int r11]) (pc2 := 23) (k2 := 183) (a := 44) (as := [.ref 45, .int x1, .int x2, .int (sf_94 x3), .int (sh_b2 x4)]) (rest := []) rfl rfl rfl (fun hT => (sh_s44 hT.st)) rfl rfl ⟨Nat.le_of_ble_eq_true rfl, Nat.le_of_ble_eq_true rfl⟩ (sl_183 e11 ⟨rfl, rfl⟩) rfl rfl (Nat.le_of_ble_eq_true rfl) (Nat.le_of_ble_eq_true rfl) ?_
    obtain rfl := Option.some.inj e
    obtain ⟨rfl, rfl⟩ := tg
    exact sh_Lk_ret (i := .ireturn) rfl rfl rfl (Nat.le_of_ble_eq_true rfl) (Nat.le_of_ble_eq_true rfl)
theorem sl_187_6s {x1 : Int32} {x2 : Int32} {x3 : Int32} {x4 : Int32} {x5 : Int32} {m m2 : sh_X} {o : Outcome} {z : ((Int32 × Int32 × sh_X) ⊕ (Int32 × sh_X))} (e : sf_187_6s x1 x2 x3 x4 x5 m = some z) (tg : (sh_el (fun q => sh_Lk 187 6 [(0, .ref 45), (1, .int x1), (2, .int x2), (3, .int x3), (4, .int q.1), (5, .int q.2.1)] [] q.2.2 o m2 12 288) (sh_tI o m2)) z) : sh_Lk 187 6 [(0, .ref 45), (1, .int x1), (2, .int x2), (3, .int x3), (4, .int x4), (5, .int x5)] [] m o m2 12 288 := by
  unfold sf_187_6s at e
  refine sh_Lk_lift (T := m.T) (I := m.I) (J := m.J) (s := m.s) (pc2 := 9) (lv2 := [(0, .ref 45), (1, .int x1), (2, .int x2), (3, .int x3), (4, .int x4), (5, .int x5)]) (st2 := [.int x3, .int x5]) (I2 := m.I) (J2 := m.J) (fun hT v kk => ?_) ?_
  · refine sh_w (i := (.iload 5)) (len := 2) (pc2 := 8) (lv2 := [(0, .ref 45), (1, .int x1), (2, .int x2), (3, .int x3), (4, .int x4), (5, .int x5)]) (st2 := [.int x5]) (h2 := (sh_rep m.T m.I m.J)) rfl rfl rfl ?_
    refine sh_w (i := (.iload_n 3)) (len := 1) (pc2 := 9) (lv2 := [(0, .ref 45), (1, .int x1), (2, .int x2), (3, .int x3), (4, .int x4), (5, .int x5)]) (st2 := [.int x3, .int x5]) (h2 := (sh_rep m.T m.I m.J)) rfl rfl rfl ?_
    exact kk
  rcases sh_ite e with ⟨c, e⟩ | ⟨c, e⟩
  · refine sh_Lk_lift (T := m.T) (I := m.I) (J := m.J) (s := m.s) (pc2 := 27) (lv2 := [(0, .ref 45), (1, .int x1), (2, .int x2), (3, .int x3), (4, .int x4), (5, .int x5)]) (st2 := [.int (x1 + x5), .ref 45, .ref 10, .int x4, .ref 10]) (I2 := m.I) (J2 := m.J) (fun hT v kk => ?_) ?_
    · refine sh_jc (c := .ge) (off := (43)) (pc2 := 12) false rfl (sh_Bgef c) rfl ?_
      refine sh_w (i := (.aload_n 0)) (len := 1) (pc2 := 13) (lv2 := [(0, .ref 45), (1, .int x1), (2, .int x2), (3, .int x3), (4, .int x4), (5, .int x5)]) (st2 := [.ref 45]) (h2 := (sh_rep m.T m.I m.J)) rfl rfl rfl ?_
      refine sh_gR1 (len := 3) (x := .ref 10) (pc2 := 16) rfl rfl (sh_s44 hT.st) rfl rfl ?_
      refine sh_w (i := (.iload 4)) (len := 2) (pc2 := 18) (lv2 := [(0, .ref 45), (1, .int x1), (2, .int x2), (3, .int x3), (4, .int x4), (5, .int x5)]) (st2 := [.int x4, .ref 10]) (h2 := (sh_rep m.T m.I m.J)) rfl rfl rfl ?_
      refine sh_w (i := (.aload_n 0)) (len := 1) (pc2 := 19) (lv2 := [(0, .ref 45), (1, .int x1), (2, .int x2), (3, .int x3), (4, .int x4), (5, .int x5)]) (st2 := [.ref 45, .int x4, .ref 10]) (h2 := (sh_rep m.T m.I m.J)) rfl rfl rfl ?_
      refine sh_gR1 (len := 3) (x := .ref 10) (pc2 := 22) rfl rfl (sh_s44 hT.st) rfl rfl ?_
      refine sh_w (i := (.aload_n 0)) (len := 1) (pc2 := 23) (lv2 := [(0, .ref 45), (1, .int x1), (2, .int x2), (3, .int x3), (4, .int x4), (5, .int x5)]) (st2 := [.ref 45, .ref 10, .int x4, .ref 10]) (h2 := (sh_rep m.T m.I m.J)) rfl rfl rfl ?_
      refine sh_w (i := (.iload_n 1)) (len := 1) (pc2 := 24) (lv2 := [(0, .ref 45), (1, .int x1), (2, .int x2), (3, .int x3), (4, .int x4), (5, .int x5)]) (st2 := [.int x1, .ref 45, .ref 10, .int x4, .ref 10]) (h2 := (sh_rep m.T m.I m.J)) rfl rfl rfl ?_
      refine sh_w (i := (.iload 5)) (len := 2) (pc2 := 26) (lv2 := [(0, .ref 45), (1, .int x1), (2, .int x2), (3, .int x3), (4, .int x4), (5, .int x5)]) (st2 := [.int x5, .int x1, .ref 45, .ref 10, .int x4, .ref 10]) (h2 := (sh_rep m.T m.I m.J)) rfl rfl rfl ?_
      refine sh_w (i := .iadd) (len := 1) (pc2 := 27) (lv2 := [(0, .ref 45), (1, .int x1), (2, .int x2), (3, .int x3), (4, .int x4), (5, .int x5)]) (st2 := [.int (x1 + x5), .ref 45, .ref 10, .int x4, .ref 10]) (h2 := (sh_rep m.T m.I m.J)) rfl rfl rfl ?_
      exact kk
    obtain ⟨r1, e1, e⟩ := sh_bc_e e
    refine sh_Lk_cV (r := (some (.int r1))) (st2 := [.int r1, .ref 10, .int x4, .ref 10]) (pc2 := 30) (k2 := 103) (a := 44) (as := [.ref 45, .int (x1 + x5)]) (rest := [.ref 10, .int x4, .ref 10]) rfl rfl rfl (fun hT => (sh_s44 hT.st)) rfl rfl ⟨Nat.le_of_ble_eq_true rfl, Nat.le_of_ble_eq_true rfl⟩ (sl_103 e1 ⟨rfl, rfl⟩) rfl rfl (Nat.le_of_ble_eq_true rfl) (Nat.le_of_ble_eq_true rfl) ?_
    refine sh_Lk_lift (T := m.T) (I := m.I) (J := m.J) (s := m.s) (pc2 := 35) (lv2 := [(0, .ref 45), (1, .int x1), (2, .int x2), (3, .int x3), (4, .int x4), (5, .int x5)]) (st2 := [.int (x2 + x5), .ref 45, .int r1, .ref 10, .int x4, .ref 10]) (I2 := m.I) (J2 := m.J) (fun hT v kk => ?_) ?_
    · refine sh_w (i := (.aload_n 0)) (len := 1) (pc2 := 31) (lv2 := [(0, .ref 45), (1, .int x1), (2, .int x2), (3, .int x3), (4, .int x4), (5, .int x5)]) (st2 := [.ref 45, .int r1, .ref 10, .int x4, .ref 10]) (h2 := (sh_rep m.T m.I m.J)) rfl rfl rfl ?_
      refine sh_w (i := (.iload_n 2)) (len := 1) (pc2 := 32) (lv2 := [(0, .ref 45), (1, .int x1), (2, .int x2), (3, .int x3), (4, .int x4), (5, .int x5)]) (st2 := [.int x2, .ref 45, .int r1, .ref 10, .int x4, .ref 10]) (h2 := (sh_rep m.T m.I m.J)) rfl rfl rfl ?_
      refine sh_w (i := (.iload 5)) (len := 2) (pc2 := 34) (lv2 := [(0, .ref 45), (1, .int x1), (2, .int x2), (3, .int x3), (4, .int x4), (5, .int x5)]) (st2 := [.int x5, .int x2, .ref 45, .int r1, .ref 10, .int x4, .ref 10]) (h2 := (sh_rep m.T m.I m.J)) rfl rfl rfl ?_
      refine sh_w (i := .iadd) (len := 1) (pc2 := 35) (lv2 := [(0, .ref 45), (1, .int x1), (2, .int x2), (3, .int x3), (4, .int x4), (5, .int x5)]) (st2 := [.int (x2 + x5), .ref 45, .int r1, .ref 10, .int x4, .ref 10]) (h2 := (sh_rep m.T m.I m.J)) rfl rfl rfl ?_
      exact kk
    obtain ⟨r2, e2, e⟩ := sh_bc_e e
    refine sh_Lk_cV (r := (some (.int r2))) (st2 := [.int r2, .int r1, .ref 10, .int x4, .ref 10]) (pc2 := 38) (k2 := 103) (a := 44) (as := [.ref 45, .int (x2 + x5)]) (rest := [.int r1, .ref 10, .int x4, .ref 10]) rfl rfl rfl (fun hT => (sh_s44 hT.st)) rfl rfl ⟨Nat.le_of_ble_eq_true rfl, Nat.le_of_ble_eq_true rfl⟩ (sl_103 e2 ⟨rfl, rfl⟩) rfl rfl (Nat.le_of_ble_eq_true rfl) (Nat.le_of_ble_eq_true rfl) ?_
    obtain ⟨r3, m13, e3, e⟩ := sh_bn_e e
    refine sh_Lk_cV (r := (some (.int r3))) (st2 := [.int r3, .int x4, .ref 10]) (pc2 := 41) (k2 := 130) (a := 9) (as := [.ref 10, .int r1, .int r2]) (rest := [.int x4, .ref 10]) rfl rfl rfl (fun hT => hT.t9) rfl rfl ⟨Nat.le_of_ble_eq_true rfl, Nat.le_of_ble_eq_true rfl⟩ (sl_130 e3 ⟨rfl, rfl⟩) rfl rfl (Nat.le_of_ble_eq_true rfl) (Nat.le_of_ble_eq_true rfl) ?_
    obtain ⟨r4, m14, e4, e⟩ := sh_bn_e e
    refine sh_Lk_cV (r := (some (.int r4))) (st2 := [.int r4]) (pc2 := 44) (k2 := 185) (a := 9) (as := [.ref 10, .int x4, .int r3]) (rest := []) rfl rfl rfl (fun hT => hT.t9) rfl rfl ⟨Nat.le_of_ble_eq_true rfl, Nat.le_of_ble_eq_true rfl⟩ (sl_185 e4 ⟨rfl, rfl⟩) rfl rfl (Nat.le_of_ble_eq_true rfl) (Nat.le_of_ble_eq_true rfl) ?_
    refine sh_Lk_lift (T := m14.T) (I := m14.I) (J := m14.J) (s := m14.s) (pc2 := 6) (lv2 := [(5, .int (x5 + 1)), (4, .int r4), (0, .ref 45), (1, .int x1), (2, .int x2), (3, .int x3)]) (st2 := []) (I2 := m14.I) (J2 := m14.J) (fun hT v kk => ?_) ?_
    · refine sh_w (i := (.istore 4)) (len := 2) (pc2 := 46) (lv2 := [(4, .int r4), (0, .ref 45), (1, .int x1), (2, .int x2), (3, .int x3), (5, .int x5)]) (st2 := []) (h2 := (sh_rep m14.T m14.I m14.J)) rfl rfl rfl ?_
      refine sh_w (i := (.iinc 5 1)) (len := 3) (pc2 := 49) (lv2 := [(5, .int (x5 + 1)), (4, .int r4), (0, .ref 45), (1, .int x1), (2, .int x2), (3, .int x3)]) (st2 := []) (h2 := (sh_rep m14.T m14.I m14.J)) rfl rfl rfl ?_
      refine sh_w (i := (.goto (-43))) (len := 3) (pc2 := 6) (lv2 := [(5, .int (x5 + 1)), (4, .int r4), (0, .ref 45), (1, .int x1), (2, .int x2), (3, .int x3)]) (st2 := []) (h2 := (sh_rep m14.T m14.I m14.J)) rfl rfl rfl ?_
      exact kk
    obtain rfl := Option.some.inj e
    exact sh_Lk_sub (sh_sub_c rfl (sh_sub_c rfl (sh_sub_c rfl (sh_sub_c rfl (sh_sub_c rfl (sh_sub_c rfl (sh_sub_n))))))) tg
  · refine sh_Lk_lift (T := m.T) (I := m.I) (J := m.J) (s := m.s) (pc2 := 54) (lv2 := [(0, .ref 45), (1, .int x1), (2, .int x2), (3, .int x3), (4, .int x4), (5, .int x5)]) (st2 := [.int x4]) (I2 := m.I) (J2 := m.J) (fun hT v kk => ?_) ?_
    · refine sh_jc (c := .ge) (off := (43)) (pc2 := 52) true rfl (sh_Bget c) rfl ?_
      refine sh_w (i := (.iload 4)) (len := 2) (pc2 := 54) (lv2 := [(0, .ref 45), (1, .int x1), (2, .int x2), (3, .int x3), (4, .int x4), (5, .int x5)]) (st2 := [.int x4]) (h2 := (sh_rep m.T m.I m.J)) rfl rfl rfl ?_
      exact kk
    obtain rfl := Option.some.inj e
    obtain ⟨rfl, rfl⟩ := tg
    exact sh_Lk_ret (i := .ireturn) rfl rfl rfl (Nat.le_of_ble_eq_true rfl) (Nat.le_of_ble_eq_true rfl)
theorem sl_187_6 {x1 : Int32} {x2 : Int32} {x3 : Int32} {x4 : Int32} {x5 : Int32} {m m2 : sh_X} {o : Outcome} {z : (Int32 × sh_X)} (e : sf_187_6 x1 x2 x3 x4 x5 m = some z) (tg : (sh_tI o m2) z) : sh_Lk 187 6 [(0, .ref 45), (1, .int x1), (2, .int x2), (3, .int x3), (4, .int x4), (5, .int x5)] [] m o m2 12 288 := by
  unfold sf_187_6 at e
  exact sh_while_lk (P := fun q => sh_Lk 187 6 [(0, .ref 45), (1, .int x1), (2, .int x2), (3, .int x3), (4, .int q.1), (5, .int q.2.1)] [] q.2.2 o m2 12 288) (Q := (sh_tI o m2)) (fun q z e tg => sl_187_6s (x1 := x1) (x2 := x2) (x3 := x3) (x4 := q.1) (x5 := q.2.1) (m := q.2.2) e tg) (s := (x4, x5, m)) e tg
theorem sl_187 {x1 : Int32} {x2 : Int32} {x3 : Int32} {m m2 : sh_X} {o : Outcome} {z : (Int32 × sh_X)} (e : sf_187 x1 x2 x3 m = some z) (tg : (sh_tI o m2) z) : sh_Lk 187 0 [(0, .ref 45), (1, .int x1), (2, .int x2), (3, .int x3)] [] m o m2 12 288 := by
  unfold sf_187 at e
  refine sh_Lk_lift (T := m.T) (I := m.I) (J := m.J) (s := m.s) (pc2 := 6) (lv2 := [(5, .int 0), (4, .int 0), (0, .ref 45), (1, .int x1), (2, .int x2), (3, .int x3)]) (st2 := []) (I2 := m.I) (J2 := m.J) (fun hT v kk => ?_) ?_
  · refine sh_w (i := (.iconst 0)) (len := 1) (pc2 := 1) (lv2 := [(0, .ref 45), (1, .int x1), (2, .int x2), (3, .int x3)]) (st2 := [.int 0]) (h2 := (sh_rep m.T m.I m.J)) rfl rfl rfl ?_
    refine sh_w (i := (.istore 4)) (len := 2) (pc2 := 3) (lv2 := [(4, .int 0), (0, .ref 45), (1, .int x1), (2, .int x2), (3, .int x3)]) (st2 := []) (h2 := (sh_rep m.T m.I m.J)) rfl rfl rfl ?_
    refine sh_w (i := (.iconst 0)) (len := 1) (pc2 := 4) (lv2 := [(4, .int 0), (0, .ref 45), (1, .int x1), (2, .int x2), (3, .int x3)]) (st2 := [.int 0]) (h2 := (sh_rep m.T m.I m.J)) rfl rfl rfl ?_
    refine sh_w (i := (.istore 5)) (len := 2) (pc2 := 6) (lv2 := [(5, .int 0), (4, .int 0), (0, .ref 45), (1, .int x1), (2, .int x2), (3, .int x3)]) (st2 := []) (h2 := (sh_rep m.T m.I m.J)) rfl rfl rfl ?_
    exact kk
  exact sh_Lk_sub (sh_sub_c rfl (sh_sub_c rfl (sh_sub_c rfl (sh_sub_c rfl (sh_sub_c rfl (sh_sub_c rfl (sh_sub_n))))))) (sl_187_6 e tg)
theorem sl_188 {x1 : Int32} {m m2 : sh_X} {o : Outcome} {z : (Int32 × sh_X)} (e : sf_188 x1 m = some z) (tg : (sh_tI o m2) z) : sh_Lk 188 0 [(0, .ref 45), (1, .int x1)] [] m o m2 9 222 := by
  unfold sf_188 at e
  refine sh_Lk_lift (T := m.T) (I := m.I) (J := m.J) (s := m.s) (pc2 := 2) (lv2 := [(0, .ref 45), (1, .int x1)]) (st2 := [.int 1, .ref 45]) (I2 := m.I) (J2 := m.J) (fun hT v kk => ?_) ?_
  · refine sh_w (i := (.aload_n 0)) (len := 1) (pc2 := 1) (lv2 := [(0, .ref 45), (1, .int x1)]) (st2 := [.ref 45]) (h2 := (sh_rep m.T m.I m.J)) rfl rfl rfl ?_
    refine sh_w (i := (.iconst 1)) (len := 1) (pc2 := 2) (lv2 := [(0, .ref 45), (1, .int x1)]) (st2 := [.int 1, .ref 45]) (h2 := (sh_rep m.T m.I m.J)) rfl rfl rfl ?_
    exact kk
  obtain ⟨r1, m11, e1, e⟩ := sh_bn_e e
  refine sh_Lk_cV (r := (some (.int r1))) (st2 := [.int r1]) (pc2 := 5) (k2 := 98) (a := 44) (as := [.ref 45, .int 1]) (rest := []) rfl rfl rfl (fun hT => (sh_s44 hT.st)) rfl rfl ⟨Nat.le_of_ble_eq_true rfl, Nat.le_of_ble_eq_true rfl⟩ (sl_98 e1 ⟨rfl, rfl⟩) rfl rfl (Nat.le_of_ble_eq_true rfl) (Nat.le_of_ble_eq_true rfl) ?_
  refine sh_Lk_lift (T := m11.T) (I := m11.I) (J := m11.J) (s := m11.s) (pc2 := 9) (lv2 := [(2, .int r1), (0, .ref 45), (1, .int x1)]) (st2 := [.int x1, .int r1, .ref 45]) (I2 := m11.I) (J2 := m11.J) (fun hT v kk => ?_) ?_
  · refine sh_w (i := (.istore_n 2)) (len := 1) (pc2 := 6) (lv2 := [(2, .int r1), (0, .ref 45), (1, .int x1)]) (st2 := []) (h2 := (sh_rep m11.T m11.I m11.J)) rfl rfl rfl ?_
    refine sh_w (i := (.aload_n 0)) (len := 1) (pc2 := 7) (lv2 := [(2, .int r1), (0, .ref 45), (1, .int x1)]) (st2 := [.ref 45]) (h2 := (sh_rep m11.T m11.I m11.J)) rfl rfl rfl ?_
    refine sh_w (i := (.iload_n 2)) (len := 1) (pc2 := 8) (lv2 := [(2, .int r1), (0, .ref 45), (1, .int x1)]) (st2 := [.int r1, .ref 45]) (h2 := (sh_rep m11.T m11.I m11.J)) rfl rfl rfl ?_
    refine sh_w (i := (.iload_n 1)) (len := 1) (pc2 := 9) (lv2 := [(2, .int r1), (0, .ref 45), (1, .int x1)]) (st2 := [.int x1, .int r1, .ref 45]) (h2 := (sh_rep m11.T m11.I m11.J)) rfl rfl rfl ?_
    exact kk
  obtain ⟨r2, m12, e2, e⟩ := sh_bn_e e
  refine sh_Lk_cV (r := none) (st2 := []) (pc2 := 12) (k2 := 100) (a := 44) (as := [.ref 45, .int r1, .int x1]) (rest := []) rfl rfl rfl (fun hT => (sh_s44 hT.st)) rfl rfl ⟨Nat.le_of_ble_eq_true rfl, Nat.le_of_ble_eq_true rfl⟩ (sl_100 e2 ⟨rfl, rfl⟩) rfl rfl (Nat.le_of_ble_eq_true rfl) (Nat.le_of_ble_eq_true rfl) ?_
  refine sh_Lk_lift (T := m12.T) (I := m12.I) (J := m12.J) (s := m12.s) (pc2 := 13) (lv2 := [(2, .int r1), (0, .ref 45), (1, .int x1)]) (st2 := [.int r1]) (I2 := m12.I) (J2 := m12.J) (fun hT v kk => ?_) ?_
  · refine sh_w (i := (.iload_n 2)) (len := 1) (pc2 := 13) (lv2 := [(2, .int r1), (0, .ref 45), (1, .int x1)]) (st2 := [.int r1]) (h2 := (sh_rep m12.T m12.I m12.J)) rfl rfl rfl ?_
    exact kk
  obtain rfl := Option.some.inj e
  obtain ⟨rfl, rfl⟩ := tg
  exact sh_Lk_ret (i := .ireturn) rfl rfl rfl (Nat.le_of_ble_eq_true rfl) (Nat.le_of_ble_eq_true rfl)
theorem sl_189_96 {x1 : Int32} {x2 : Int32} {x3 : Int32} {x4 : Bool} {x5 : Int32} {x6 : Int32} {x8 : Int32} {y0 : Int32} {m m2 : sh_X} {o : Outcome} {z : ((Int32 × Int32 × sh_X) ⊕ (Int32 × sh_X))} (e : sf_189_96 x1 x2 x3 x4 x5 x6 x8 y0 m = some z) (tg : (sh_el (fun q => sh_Lk 189 6 [(0, .ref 45), (1, .int x1), (2, .int x2), (3, .int x3), (4, .int (sh_b2 x4)), (5, .int q.1), (6, .int q.2.1)] [] q.2.2 o m2 13 309) (sh_tI o m2)) z) : sh_Lk 189 96 [(0, .ref 45), (1, .int x1), (2, .int x2), (3, .int x3), (4, .int (sh_b2 x4)), (5, .int x5), (6, .int x6), (8, .int x8)] [.int y0] m o m2 13 309 := by
  unfold sf_189_96 at e
  refine sh_Lk_lift (T := m.T) (I := m.I) (J := m.J) (s := m.s) (pc2 := 110) (lv2 := [(9, .int y0), (0, .ref 45), (1, .int x1), (2, .int x2), (3, .int x3), (4, .int (sh_b2 x4)), (5, .int x5), (6, .int x6), (8, .int x8)]) (st2 := [.int x5, .int x8, .ref 10, .ref 10]) (I2 := m.I) (J2 := m.J) (fun hT v kk => ?_) ?_
  · refine sh_w (i := (.istore 9)) (len := 2) (pc2 := 98) (lv2 := [(9, .int y0), (0, .ref 45), (1, .int x1), (2, .int x2), (3, .int x3), (4, .int (sh_b2 x4)), (5, .int x5), (6, .int x6), (8, .int x8)]) (st2 := []) (h2 := (sh_rep m.T m.I m.J)) rfl rfl rfl ?_
    refine sh_w (i := (.aload_n 0)) (len := 1) (pc2 := 99) (lv2 := [(9, .int y0), (0, .ref 45), (1, .int x1), (2, .int x2), (3, .int x3), (4, .int (sh_b2 x4)), (5, .int x5), (6, .int x6), (8, .int x8)]) (st2 := [.ref 45]) (h2 := (sh_rep m.T m.I m.J)) rfl rfl rfl ?_
    refine sh_gR1 (len := 3) (x := .ref 10) (pc2 := 102) rfl rfl (sh_s44 hT.st) rfl rfl ?_
    refine sh_w (i := (.aload_n 0)) (len := 1) (pc2 := 103) (lv2 := [(9, .int y0), (0, .ref 45), (1, .int x1), (2, .int x2), (3, .int x3), (4, .int (sh_b2 x4)), (5, .int x5), (6, .int x6), (8, .int x8)]) (st2 := [.ref 45, .ref 10]) (h2 := (sh_rep m.T m.I m.J)) rfl rfl rfl ?_
    refine sh_gR1 (len := 3) (x := .ref 10) (pc2 := 106) rfl rfl (sh_s44 hT.st) rfl rfl ?_
    refine sh_w (i := (.iload 8)) (len := 2) (pc2 := 108) (lv2 := [(9, .int y0), (0, .ref 45), (1, .int x1), (2, .int x2), (3, .int x3), (4, .int (sh_b2 x4)), (5, .int x5), (6, .int x6), (8, .int x8)]) (st2 := [.int x8, .ref 10, .ref 10]) (h2 := (sh_rep m.T m.I m.J)) rfl rfl rfl ?_
    refine sh_w (i := (.iload 5)) (len := 2) (pc2 := 110) (lv2 := [(9, .int y0), (0, .ref 45), (1, .int x1), (2, .int x2), (3, .int x3), (4, .int (sh_b2 x4)), (5, .int x5), (6, .int x6), (8, .int x8)]) (st2 := [.int x5, .int x8, .ref 10, .ref 10]) (h2 := (sh_rep m.T m.I m.J)) rfl rfl rfl ?_
    exact kk
  obtain ⟨r1, m11, e1, e⟩ := sh_bn_e e
  refine sh_Lk_cV (r := (some (.int r1))) (st2 := [.int r1, .ref 10]) (pc2 := 113) (k2 := 130) (a := 9) (as := [.ref 10, .int x8, .int x5]) (rest := [.ref 10]) rfl rfl rfl (fun hT => hT.t9) rfl rfl ⟨Nat.le_of_ble_eq_true rfl, Nat.le_of_ble_eq_true rfl⟩ (sl_130 e1 ⟨rfl, rfl⟩) rfl rfl (Nat.le_of_ble_eq_true rfl) (Nat.le_of_ble_eq_true rfl) ?_
  refine sh_Lk_lift (T := m11.T) (I := m11.I) (J := m11.J) (s := m11.s) (pc2 := 121) (lv2 := [(9, .int y0), (0, .ref 45), (1, .int x1), (2, .int x2), (3, .int x3), (4, .int (sh_b2 x4)), (5, .int x5), (6, .int x6), (8, .int x8)]) (st2 := [.int x5, .int y0, .ref 10, .int r1, .ref 10]) (I2 := m11.I) (J2 := m11.J) (fun hT v kk => ?_) ?_
  · refine sh_w (i := (.aload_n 0)) (len := 1) (pc2 := 114) (lv2 := [(9, .int y0), (0, .ref 45), (1, .int x1), (2, .int x2), (3, .int x3), (4, .int (sh_b2 x4)), (5, .int x5), (6, .int x6), (8, .int x8)]) (st2 := [.ref 45, .int r1, .ref 10]) (h2 := (sh_rep m11.T m11.I m11.J)) rfl rfl rfl ?_
    refine sh_gR1 (len := 3) (x := .ref 10) (pc2 := 117) rfl rfl (sh_s44 hT.st) rfl rfl ?_
    refine sh_w (i := (.iload 9)) (len := 2) (pc2 := 119) (lv2 := [(9, .int y0), (0, .ref 45), (1, .int x1), (2, .int x2), (3, .int x3), (4, .int (sh_b2 x4)), (5, .int x5), (6, .int x6), (8, .int x8)]) (st2 := [.int y0, .ref 10, .int r1, .ref 10]) (h2 := (sh_rep m11.T m11.I m11.J)) rfl rfl rfl ?_
    refine sh_w (i := (.iload 5)) (len := 2) (pc2 := 121) (lv2 := [(9, .int y0), (0, .ref 45), (1, .int x1), (2, .int x2), (3, .int x3), (4, .int (sh_b2 x4)), (5, .int x5), (6, .int x6), (8, .int x8)]) (st2 := [.int x5, .int y0, .ref 10, .int r1, .ref 10]) (h2 := (sh_rep m11.T m11.I m11.J)) rfl rfl rfl ?_
    exact kk
  obtain ⟨r2, m12, e2, e⟩ := sh_bn_e e
  refine sh_Lk_cV (r := (some (.int r2))) (st2 := [.int r2, .int r1, .ref 10]) (pc2 := 124) (k2 := 130) (a := 9) (as := [.ref 10, .int y0, .int x5]) (rest := [.int r1, .ref 10]) rfl rfl rfl (fun hT => hT.t9) rfl rfl ⟨Nat.le_of_ble_eq_true rfl, Nat.le_of_ble_eq_true rfl⟩ (sl_130 e2 ⟨rfl, rfl⟩) rfl rfl (Nat.le_of_ble_eq_true rfl) (Nat.le_of_ble_eq_true rfl) ?_
  obtain ⟨r3, m13, e3, e⟩ := sh_bn_e e
  refine sh_Lk_cV (r := (some (.int r3))) (st2 := [.int r3]) (pc2 := 127) (k2 := 132) (a := 9) (as := [.ref 10, .int r1, .int r2]) (rest := []) rfl rfl rfl (fun hT => hT.t9) rfl rfl ⟨Nat.le_of_ble_eq_true rfl, Nat.le_of_ble_eq_true rfl⟩ (sl_132 e3 ⟨rfl, rfl⟩) rfl rfl (Nat.le_of_ble_eq_true rfl) (Nat.le_of_ble_eq_true rfl) ?_
  refine sh_Lk_lift (T := m13.T) (I := m13.I) (J := m13.J) (s := m13.s) (pc2 := 137) (lv2 := [(10, .int r3), (9, .int y0), (0, .ref 45), (1, .int x1), (2, .int x2), (3, .int x3), (4, .int (sh_b2 x4)), (5, .int x5), (6, .int x6), (8, .int x8)]) (st2 := [.int x5, .int r3, .ref 10]) (I2 := m13.I) (J2 := m13.J) (fun hT v kk => ?_) ?_
  · refine sh_w (i := (.istore 10)) (len := 2) (pc2 := 129) (lv2 := [(10, .int r3), (9, .int y0), (0, .ref 45), (1, .int x1), (2, .int x2), (3, .int x3), (4, .int (sh_b2 x4)), (5, .int x5), (6, .int x6), (8, .int x8)]) (st2 := []) (h2 := (sh_rep m13.T m13.I m13.J)) rfl rfl rfl ?_
    refine sh_w (i := (.aload_n 0)) (len := 1) (pc2 := 130) (lv2 := [(10, .int r3), (9, .int y0), (0, .ref 45), (1, .int x1), (2, .int x2), (3, .int x3), (4, .int (sh_b2 x4)), (5, .int x5), (6, .int x6), (8, .int x8)]) (st2 := [.ref 45]) (h2 := (sh_rep m13.T m13.I m13.J)) rfl rfl rfl ?_
    refine sh_gR1 (len := 3) (x := .ref 10) (pc2 := 133) rfl rfl (sh_s44 hT.st) rfl rfl ?_
    refine sh_w (i := (.iload 10)) (len := 2) (pc2 := 135) (lv2 := [(10, .int r3), (9, .int y0), (0, .ref 45), (1, .int x1), (2, .int x2), (3, .int x3), (4, .int (sh_b2 x4)), (5, .int x5), (6, .int x6), (8, .int x8)]) (st2 := [.int r3, .ref 10]) (h2 := (sh_rep m13.T m13.I m13.J)) rfl rfl rfl ?_
    refine sh_w (i := (.iload 5)) (len := 2) (pc2 := 137) (lv2 := [(10, .int r3), (9, .int y0), (0, .ref 45), (1, .int x1), (2, .int x2), (3, .int x3), (4, .int (sh_b2 x4)), (5, .int x5), (6, .int x6), (8, .int x8)]) (st2 := [.int x5, .int r3, .ref 10]) (h2 := (sh_rep m13.T m13.I m13.J)) rfl rfl rfl ?_
    exact kk
  obtain ⟨r4, m14, e4, e⟩ := sh_bn_e e
  refine sh_Lk_cV (r := (some (.int r4))) (st2 := [.int r4]) (pc2 := 140) (k2 := 130) (a := 9) (as := [.ref 10, .int r3, .int x5]) (rest := []) rfl rfl rfl (fun hT => hT.t9) rfl rfl ⟨Nat.le_of_ble_eq_true rfl, Nat.le_of_ble_eq_true rfl⟩ (sl_130 e4 ⟨rfl, rfl⟩) rfl rfl (Nat.le_of_ble_eq_true rfl) (Nat.le_of_ble_eq_true rfl) ?_
  refine sh_Lk_lift (T := m14.T) (I := m14.I) (J := m14.J) (s := m14.s) (pc2 := 6) (lv2 := [(6, .int (x6 + 1)), (5, .int r4), (10, .int r3), (9, .int y0), (0, .ref 45), (1, .int x1), (2, .int x2), (3, .int x3), (4, .int (sh_b2 x4)), (8, .int x8)]) (st2 := []) (I2 := m14.I) (J2 := m14.J) (fun hT v kk => ?_) ?_
  · refine sh_w (i := (.istore 5)) (len := 2) (pc2 := 142) (lv2 := [(5, .int r4), (10, .int r3), (9, .int y0), (0, .ref 45), (1, .int x1), (2, .int x2), (3, .int x3), (4, .int (sh_b2 x4)), (6, .int x6), (8, .int x8)]) (st2 := []) (h2 := (sh_rep m14.T m14.I m14.J)) rfl rfl rfl ?_
    refine sh_w (i := (.iinc 6 1)) (len := 3) (pc2 := 145) (lv2 := [(6, .int (x6 + 1)), (5, .int r4), (10, .int r3), (9, .int y0), (0, .ref 45), (1, .int x1), (2, .int x2), (3, .int x3), (4, .int (sh_b2 x4)), (8, .int x8)]) (st2 := []) (h2 := (sh_rep m14.T m14.I m14.J)) rfl rfl rfl ?_
    refine sh_w (i := (.goto (-139))) (len := 3) (pc2 := 6) (lv2 := [(6, .int (x6 + 1)), (5, .int r4), (10, .int r3), (9, .int y0), (0, .ref 45), (1, .int x1), (2, .int x2), (3, .int x3), (4, .int (sh_b2 x4)), (8, .int x8)]) (st2 := []) (h2 := (sh_rep m14.T m14.I m14.J)) rfl rfl rfl ?_
    exact kk
  obtain rfl := Option.some.inj e
  exact sh_Lk_sub (sh_sub_c rfl (sh_sub_c rfl (sh_sub_c rfl (sh_sub_c rfl (sh_sub_c rfl (sh_sub_c rfl (sh_sub_c rfl (sh_sub_n)))))))) tg
theorem sl_189_63 {x1 : Int32} {x2 : Int32} {x3 : Int32} {x4 : Bool} {x5 : Int32} {x6 : Int32} {x7 : Bool} {y0 : Int32} {m m2 : sh_X} {o : Outcome} {z : ((Int32 × Int32 × sh_X) ⊕ (Int32 × sh_X))} (e : sf_189_63 x1 x2 x3 x4 x5 x6 x7 y0 m = some z) (tg : (sh_el (fun q => sh_Lk 189 6 [(0, .ref 45), (1, .int x1), (2, .int x2), (3, .int x3), (4, .int (sh_b2 x4)), (5, .int q.1), (6, .int q.2.1)] [] q.2.2 o m2 13 309) (sh_tI o m2)) z) : sh_Lk 189 63 [(0, .ref 45), (1, .int x1), (2, .int x2), (3, .int x3), (4, .int (sh_b2 x4)), (5, .int x5), (6, .int x6), (7, .int (sh_b2 x7))] [.int y0] m o m2 13 309 := by
  unfold sf_189_63 at e
  refine sh_Lk_lift (T := m.T) (I := m.I) (J := m.J) (s := m.s) (pc2 := 67) (lv2 := [(8, .int y0), (0, .ref 45), (1, .int x1), (2, .int x2), (3, .int x3), (4, .int (sh_b2 x4)), (5, .int x5), (6, .int x6), (7, .int (sh_b2 x7))]) (st2 := [.int (sh_b2 x7)]) (I2 := m.I) (J2 := m.J) (fun hT v kk => ?_) ?_
  · refine sh_w (i := (.istore 8)) (len := 2) (pc2 := 65) (lv2 := [(8, .int y0), (0, .ref 45), (1, .int x1), (2, .int x2), (3, .int x3), (4, .int (sh_b2 x4)), (5, .int x5), (6, .int x6), (7, .int (sh_b2 x7))]) (st2 := []) (h2 := (sh_rep m.T m.I m.J)) rfl rfl rfl ?_
    refine sh_w (i := (.iload 7)) (len := 2) (pc2 := 67) (lv2 := [(8, .int y0), (0, .ref 45), (1, .int x1), (2, .int x2), (3, .int x3), (4, .int (sh_b2 x4)), (5, .int x5), (6, .int x6), (7, .int (sh_b2 x7))]) (st2 := [.int (sh_b2 x7)]) (h2 := (sh_rep m.T m.I m.J)) rfl rfl rfl ?_
    exact kk
  rcases sh_ite e with ⟨c, e⟩ | ⟨c, e⟩
  · refine sh_Lk_lift (T := m.T) (I := m.I) (J := m.J) (s := m.s) (pc2 := 75) (lv2 := [(8, .int y0), (0, .ref 45), (1, .int x1), (2, .int x2), (3, .int x3), (4, .int (sh_b2 x4)), (5, .int x5), (6, .int x6), (7, .int (sh_b2 x7))]) (st2 := [.int (x2 + x6), .ref 45]) (I2 := m.I) (J2 := m.J) (fun hT v kk => ?_) ?_
    · refine sh_j0 (c := .eq) (off := (14)) (pc2 := 70) false rfl (sh_Zeqf c) rfl ?_
      refine sh_w (i := (.aload_n 0)) (len := 1) (pc2 := 71) (lv2 := [(8, .int y0), (0, .ref 45), (1, .int x1), (2, .int x2), (3, .int x3), (4, .int (sh_b2 x4)), (5, .int x5), (6, .int x6), (7, .int (sh_b2 x7))]) (st2 := [.ref 45]) (h2 := (sh_rep m.T m.I m.J)) rfl rfl rfl ?_
      refine sh_w (i := (.iload_n 2)) (len := 1) (pc2 := 72) (lv2 := [(8, .int y0), (0, .ref 45), (1, .int x1), (2, .int x2), (3, .int x3), (4, .int (sh_b2 x4)), (5, .int x5), (6, .int x6), (7, .int (sh_b2 x7))]) (st2 := [.int x2, .ref 45]) (h2 := (sh_rep m.T m.I m.J)) rfl rfl rfl ?_
      refine sh_w (i := (.iload 6)) (len := 2) (pc2 := 74) (lv2 := [(8, .int y0), (0, .ref 45), (1, .int x1), (2, .int x2), (3, .int x3), (4, .int (sh_b2 x4)), (5, .int x5), (6, .int x6), (7, .int (sh_b2 x7))]) (st2 := [.int x6, .int x2, .ref 45]) (h2 := (sh_rep m.T m.I m.J)) rfl rfl rfl ?_
      refine sh_w (i := .iadd) (len := 1) (pc2 := 75) (lv2 := [(8, .int y0), (0, .ref 45), (1, .int x1), (2, .int x2), (3, .int x3), (4, .int (sh_b2 x4)), (5, .int x5), (6, .int x6), (7, .int (sh_b2 x7))]) (st2 := [.int (x2 + x6), .ref 45]) (h2 := (sh_rep m.T m.I m.J)) rfl rfl rfl ?_
      exact kk
    obtain ⟨r1, e1, e⟩ := sh_bc_e e
    refine sh_Lk_cV (r := (some (.int r1))) (st2 := [.int r1]) (pc2 := 78) (k2 := 103) (a := 44) (as := [.ref 45, .int (x2 + x6)]) (rest := []) rfl rfl rfl (fun hT => (sh_s44 hT.st)) rfl rfl ⟨Nat.le_of_ble_eq_true rfl, Nat.le_of_ble_eq_true rfl⟩ (sl_103 e1 ⟨rfl, rfl⟩) rfl rfl (Nat.le_of_ble_eq_true rfl) (Nat.le_of_ble_eq_true rfl) ?_
    refine sh_Lk_lift (T := m.T) (I := m.I) (J := m.J) (s := m.s) (pc2 := 96) (lv2 := [(8, .int y0), (0, .ref 45), (1, .int x1), (2, .int x2), (3, .int x3), (4, .int (sh_b2 x4)), (5, .int x5), (6, .int x6), (7, .int (sh_b2 x7))]) (st2 := [.int r1]) (I2 := m.I) (J2 := m.J) (fun hT v kk => ?_) ?_
    · refine sh_w (i := (.goto 18)) (len := 3) (pc2 := 96) (lv2 := [(8, .int y0), (0, .ref 45), (1, .int x1), (2, .int x2), (3, .int x3), (4, .int (sh_b2 x4)), (5, .int x5), (6, .int x6), (7, .int (sh_b2 x7))]) (st2 := [.int r1]) (h2 := (sh_rep m.T m.I m.J)) rfl rfl rfl ?_
      exact kk
    exact sh_Lk_sub (sh_sub_c rfl (sh_sub_c rfl (sh_sub_c rfl (sh_sub_c rfl (sh_sub_c rfl (sh_sub_c rfl (sh_sub_c rfl (sh_sub_c rfl (sh_sub_n))))))))) (sl_189_96 e tg)
  · refine sh_Lk_lift (T := m.T) (I := m.I) (J := m.J) (s := m.s) (pc2 := 90) (lv2 := [(8, .int y0), (0, .ref 45), (1, .int x1), (2, .int x2), (3, .int x3), (4, .int (sh_b2 x4)), (5, .int x5), (6, .int x6), (7, .int (sh_b2 x7))]) (st2 := [.int (x2 + x6), .ref 45, .ref 10]) (I2 := m.I) (J2 := m.J) (fun hT v kk => ?_) ?_
    · refine sh_j0 (c := .eq) (off := (14)) (pc2 := 81) true rfl (sh_Zeqt c) rfl ?_
      refine sh_w (i := (.aload_n 0)) (len := 1) (pc2 := 82) (lv2 := [(8, .int y0), (0, .ref 45), (1, .int x1), (2, .int x2), (3, .int x3), (4, .int (sh_b2 x4)), (5, .int x5), (6, .int x6), (7, .int (sh_b2 x7))]) (st2 := [.ref 45]) (h2 := (sh_rep m.T m.I m.J)) rfl rfl rfl ?_
      refine sh_gR1 (len := 3) (x := .ref 10) (pc2 := 85) rfl rfl (sh_s44 hT.st) rfl rfl ?_
      refine sh_w (i := (.aload_n 0)) (len := 1) (pc2 := 86) (lv2 := [(8, .int y0), (0, .ref 45), (1, .int x1), (2, .int x2), (3, .int x3), (4, .int (sh_b2 x4)), (5, .int x5), (6, .int x6), (7, .int (sh_b2 x7))]) (st2 := [.ref 45, .ref 10]) (h2 := (sh_rep m.T m.I m.J)) rfl rfl rfl ?_
      refine sh_w (i := (.iload_n 2)) (len := 1) (pc2 := 87) (lv2 := [(8, .int y0), (0, .ref 45), (1, .int x1), (2, .int x2), (3, .int x3), (4, .int (sh_b2 x4)), (5, .int x5), (6, .int x6), (7, .int (sh_b2 x7))]) (st2 := [.int x2, .ref 45, .ref 10]) (h2 := (sh_rep m.T m.I m.J)) rfl rfl rfl ?_
      refine sh_w (i := (.iload 6)) (len := 2) (pc2 := 89) (lv2 := [(8, .int y0), (0, .ref 45), (1, .int x1), (2, .int x2), (3, .int x3), (4, .int (sh_b2 x4)), (5, .int x5), (6, .int x6), (7, .int (sh_b2 x7))]) (st2 := [.int x6, .int x2, .ref 45, .ref 10]) (h2 := (sh_rep m.T m.I m.J)) rfl rfl rfl ?_
      refine sh_w (i := .iadd) (len := 1) (pc2 := 90) (lv2 := [(8, .int y0), (0, .ref 45), (1, .int x1), (2, .int x2), (3, .int x3), (4, .int (sh_b2 x4)), (5, .int x5), (6, .int x6), (7, .int (sh_b2 x7))]) (st2 := [.int (x2 + x6), .ref 45, .ref 10]) (h2 := (sh_rep m.T m.I m.J)) rfl rfl rfl ?_
      exact kk
    obtain ⟨r2, e2, e⟩ := sh_bc_e e
    refine sh_Lk_cV (r := (some (.int r2))) (st2 := [.int r2, .ref 10]) (pc2 := 93) (k2 := 103) (a := 44) (as := [.ref 45, .int (x2 + x6)]) (rest := [.ref 10]) rfl rfl rfl (fun hT => (sh_s44 hT.st)) rfl rfl ⟨Nat.le_of_ble_eq_true rfl, Nat.le_of_ble_eq_true rfl⟩ (sl_103 e2 ⟨rfl, rfl⟩) rfl rfl (Nat.le_of_ble_eq_true rfl) (Nat.le_of_ble_eq_true rfl) ?_
    obtain ⟨r3, m13, e3, e⟩ := sh_bn_e e
    refine sh_Lk_cV (r := (some (.int r3))) (st2 := [.int r3]) (pc2 := 96) (k2 := 141) (a := 9) (as := [.ref 10, .int r2]) (rest := []) rfl rfl rfl (fun hT => hT.t9) rfl rfl ⟨Nat.le_of_ble_eq_true rfl, Nat.le_of_ble_eq_true rfl⟩ (sl_141 e3 ⟨rfl, rfl⟩) rfl rfl (Nat.le_of_ble_eq_true rfl) (Nat.le_of_ble_eq_true rfl) ?_
    exact sh_Lk_sub (sh_sub_c rfl (sh_sub_c rfl (sh_sub_c rfl (sh_sub_c rfl (sh_sub_c rfl (sh_sub_c rfl (sh_sub_c rfl (sh_sub_c rfl (sh_sub_n))))))))) (sl_189_96 e tg)
theorem sl_189_30 {x1 : Int32} {x2 : Int32} {x3 : Int32} {x4 : Bool} {x5 : Int32} {x6 : Int32} {y0 : Bool} {m m2 : sh_X} {o : Outcome} {z : ((Int32 × Int32 × sh_X) ⊕ (Int32 × sh_X))} (e : sf_189_30 x1 x2 x3 x4 x5 x6 y0 m = some z) (tg : (sh_el (fun q => sh_Lk 189 6 [(0, .ref 45), (1, .int x1), (2, .int x2), (3, .int x3), (4, .int (sh_b2 x4)), (5, .int q.1), (6, .int q.2.1)] [] q.2.2 o m2 13 309) (sh_tI o m2)) z) : sh_Lk 189 30 [(0, .ref 45), (1, .int x1), (2, .int x2), (3, .int x3), (4, .int (sh_b2 x4)), (5, .int x5), (6, .int x6)] [.int (sh_b2 y0)] m o m2 13 309 := by
  unfold sf_189_30 at e
  refine sh_Lk_lift (T := m.T) (I := m.I) (J := m.J) (s := m.s) (pc2 := 34) (lv2 := [(7, .int (sh_b2 y0)), (0, .ref 45), (1, .int x1), (2, .int x2), (3, .int x3), (4, .int (sh_b2 x4)), (5, .int x5), (6, .int x6)]) (st2 := [.int (sh_b2 y0)]) (I2 := m.I) (J2 := m.J) (fun hT v kk => ?_) ?_
  · refine sh_w (i := (.istore 7)) (len := 2) (pc2 := 32) (lv2 := [(7, .int (sh_b2 y0)), (0, .ref 45), (1, .int x1), (2, .int x2), (3, .int x3), (4, .int (sh_b2 x4)), (5, .int x5), (6, .int x6)]) (st2 := []) (h2 := (sh_rep m.T m.I m.J)) rfl rfl rfl ?_
    refine sh_w (i := (.iload 7)) (len := 2) (pc2 := 34) (lv2 := [(7, .int (sh_b2 y0)), (0, .ref 45), (1, .int x1), (2, .int x2), (3, .int x3), (4, .int (sh_b2 x4)), (5, .int x5), (6, .int x6)]) (st2 := [.int (sh_b2 y0)]) (h2 := (sh_rep m.T m.I m.J)) rfl rfl rfl ?_
    exact kk
  rcases sh_ite e with ⟨c, e⟩ | ⟨c, e⟩
  · refine sh_Lk_lift (T := m.T) (I := m.I) (J := m.J) (s := m.s) (pc2 := 46) (lv2 := [(7, .int (sh_b2 y0)), (0, .ref 45), (1, .int x1), (2, .int x2), (3, .int x3), (4, .int (sh_b2 x4)), (5, .int x5), (6, .int x6)]) (st2 := [.int (x1 + x6), .ref 45, .ref 10]) (I2 := m.I) (J2 := m.J) (fun hT v kk => ?_) ?_
    · refine sh_j0 (c := .eq) (off := (21)) (pc2 := 37) false rfl (sh_Zeqf c) rfl ?_
      refine sh_w (i := (.aload_n 0)) (len := 1) (pc2 := 38) (lv2 := [(7, .int (sh_b2 y0)), (0, .ref 45), (1, .int x1), (2, .int x2), (3, .int x3), (4, .int (sh_b2 x4)), (5, .int x5), (6, .int x6)]) (st2 := [.ref 45]) (h2 := (sh_rep m.T m.I m.J)) rfl rfl rfl ?_
      refine sh_gR1 (len := 3) (x := .ref 10) (pc2 := 41) rfl rfl (sh_s44 hT.st) rfl rfl ?_
      refine sh_w (i := (.aload_n 0)) (len := 1) (pc2 := 42) (lv2 := [(7, .int (sh_b2 y0)), (0, .ref 45), (1, .int x1), (2, .int x2), (3, .int x3), (4, .int (sh_b2 x4)), (5, .int x5), (6, .int x6)]) (st2 := [.ref 45, .ref 10]) (h2 := (sh_rep m.T m.I m.J)) rfl rfl rfl ?_
      refine sh_w (i := (.iload_n 1)) (len := 1) (pc2 := 43) (lv2 := [(7, .int (sh_b2 y0)), (0, .ref 45), (1, .int x1), (2, .int x2), (3, .int x3), (4, .int (sh_b2 x4)), (5, .int x5), (6, .int x6)]) (st2 := [.int x1, .ref 45, .ref 10]) (h2 := (sh_rep m.T m.I m.J)) rfl rfl rfl ?_
      refine sh_w (i := (.iload 6)) (len := 2) (pc2 := 45) (lv2 := [(7, .int (sh_b2 y0)), (0, .ref 45), (1, .int x1), (2, .int x2), (3, .int x3), (4, .int (sh_b2 x4)), (5, .int x5), (6, .int x6)]) (st2 := [.int x6, .int x1, .ref 45, .ref 10]) (h2 := (sh_rep m.T m.I m.J)) rfl rfl rfl ?_
      refine sh_w (i := .iadd) (len := 1) (pc2 := 46) (lv2 := [(7, .int (sh_b2 y0)), (0, .ref 45), (1, .int x1), (2, .int x2), (3, .int x3), (4, .int (sh_b2 x4)), (5, .int x5), (6, .int x6)]) (st2 := [.int (x1 + x6), .ref 45, .ref 10]) (h2 := (sh_rep m.T m.I m.J)) rfl rfl rfl ?_
      exact kk
    obtain ⟨r1, e1, e⟩ := sh_bc_e e
    refine sh_Lk_cV (r := (some (.int r1))) (st2 := [.int r1, .ref 10]) (pc2 := 49) (k2 := 103) (a := 44) (as := [.ref 45, .int (x1 + x6)]) (rest := [.ref 10]) rfl rfl rfl (fun hT => (sh_s44 hT.st)) rfl rfl ⟨Nat.le_of_ble_eq_true rfl, Nat.le_of_ble_eq_true rfl⟩ (sl_103 e1 ⟨rfl, rfl⟩) rfl rfl (Nat.le_of_ble_eq_true rfl) (Nat.le_of_ble_eq_true rfl) ?_
    obtain ⟨r2, m12, e2, e⟩ := sh_bn_e e
    refine sh_Lk_cV (r := (some (.int r2))) (st2 := [.int r2]) (pc2 := 52) (k2 := 141) (a := 9) (as := [.ref 10, .int r1]) (rest := []) rfl rfl rfl (fun hT => hT.t9) rfl rfl ⟨Nat.le_of_ble_eq_true rfl, Nat.le_of_ble_eq_true rfl⟩ (sl_141 e2 ⟨rfl, rfl⟩) rfl rfl (Nat.le_of_ble_eq_true rfl) (Nat.le_of_ble_eq_true rfl) ?_
    refine sh_Lk_lift (T := m12.T) (I := m12.I) (J := m12.J) (s := m12.s) (pc2 := 63) (lv2 := [(7, .int (sh_b2 y0)), (0, .ref 45), (1, .int x1), (2, .int x2), (3, .int x3), (4, .int (sh_b2 x4)), (5, .int x5), (6, .int x6)]) (st2 := [.int r2]) (I2 := m12.I) (J2 := m12.J) (fun hT v kk => ?_) ?_
    · refine sh_w (i := (.goto 11)) (len := 3) (pc2 := 63) (lv2 := [(7, .int (sh_b2 y0)), (0, .ref 45), (1, .int x1), (2, .int x2), (3, .int x3), (4, .int (sh_b2 x4)), (5, .int x5), (6, .int x6)]) (st2 := [.int r2]) (h2 := (sh_rep m12.T m12.I m12.J)) rfl rfl rfl ?_
      exact kk
    exact sh_Lk_sub (sh_sub_c rfl (sh_sub_c rfl (sh_sub_c rfl (sh_sub_c rfl (sh_sub_c rfl (sh_sub_c rfl (sh_sub_c rfl (sh_sub_c rfl (sh_sub_n))))))))) (sl_189_63 e tg)
  · refine sh_Lk_lift (T := m.T) (I := m.I) (J := m.J) (s := m.s) (pc2 := 60) (lv2 := [(7, .int (sh_b2 y0)), (0, .ref 45), (1, .int x1), (2, .int x2), (3, .int x3), (4, .int (sh_b2 x4)), (5, .int x5), (6, .int x6)]) (st2 := [.int (x1 + x6), .ref 45]) (I2 := m.I) (J2 := m.J) (fun hT v kk => ?_) ?_
    · refine sh_j0 (c := .eq) (off := (21)) (pc2 := 55) true rfl (sh_Zeqt c) rfl ?_
      refine sh_w (i := (.aload_n 0)) (len := 1) (pc2 := 56) (lv2 := [(7, .int (sh_b2 y0)), (0, .ref 45), (1, .int x1), (2, .int x2), (3, .int x3), (4, .int (sh_b2 x4)), (5, .int x5), (6, .int x6)]) (st2 := [.ref 45]) (h2 := (sh_rep m.T m.I m.J)) rfl rfl rfl ?_
      refine sh_w (i := (.iload_n 1)) (len := 1) (pc2 := 57) (lv2 := [(7, .int (sh_b2 y0)), (0, .ref 45), (1, .int x1), (2, .int x2), (3, .int x3), (4, .int (sh_b2 x4)), (5, .int x5), (6, .int x6)]) (st2 := [.int x1, .ref 45]) (h2 := (sh_rep m.T m.I m.J)) rfl rfl rfl ?_
      refine sh_w (i := (.iload 6)) (len := 2) (pc2 := 59) (lv2 := [(7, .int (sh_b2 y0)), (0, .ref 45), (1, .int x1), (2, .int x2), (3, .int x3), (4, .int (sh_b2 x4)), (5, .int x5), (6, .int x6)]) (st2 := [.int x6, .int x1, .ref 45]) (h2 := (sh_rep m.T m.I m.J)) rfl rfl rfl ?_
      refine sh_w (i := .iadd) (len := 1) (pc2 := 60) (lv2 := [(7, .int (sh_b2 y0)), (0, .ref 45), (1, .int x1), (2, .int x2), (3, .int x3), (4, .int (sh_b2 x4)), (5, .int x5), (6, .int x6)]) (st2 := [.int (x1 + x6), .ref 45]) (h2 := (sh_rep m.T m.I m.J)) rfl rfl rfl ?_
      exact kk
    obtain ⟨r3, e3, e⟩ := sh_bc_e e
    refine sh_Lk_cV (r := (some (.int r3))) (st2 := [.int r3]) (pc2 := 63) (k2 := 103) (a := 44) (as := [.ref 45, .int (x1 + x6)]) (rest := []) rfl rfl rfl (fun hT => (sh_s44 hT.st)) rfl rfl ⟨Nat.le_of_ble_eq_true rfl, Nat.le_of_ble_eq_true rfl⟩ (sl_103 e3 ⟨rfl, rfl⟩) rfl rfl (Nat.le_of_ble_eq_true rfl) (Nat.le_of_ble_eq_true rfl) ?_
    exact sh_Lk_sub (sh_sub_c rfl (sh_sub_c rfl (sh_sub_c rfl (sh_sub_c rfl (sh_sub_c rfl (sh_sub_c rfl (sh_sub_c rfl (sh_sub_c rfl (sh_sub_n))))))))) (sl_189_63 e tg)
theorem sl_189_29 {x1 : Int32} {x2 : Int32} {x3 : Int32} {x4 : Bool} {x5 : Int32} {x6 : Int32} {m m2 : sh_X} {o : Outcome} {z : ((Int32 × Int32 × sh_X) ⊕ (Int32 × sh_X))} (e : sf_189_29 x1 x2 x3 x4 x5 x6 m = some z) (tg : (sh_el (fun q => sh_Lk 189 6 [(0, .ref 45), (1, .int x1), (2, .int x2), (3, .int x3), (4, .int (sh_b2 x4)), (5, .int q.1), (6, .int q.2.1)] [] q.2.2 o m2 13 309) (sh_tI o m2)) z) : sh_Lk 189 29 [(0, .ref 45), (1, .int x1), (2, .int x2), (3, .int x3), (4, .int (sh_b2 x4)), (5, .int x5), (6, .int x6)] [] m o m2 13 309 := by
  unfold sf_189_29 at e
  refine sh_Lk_lift (T := m.T) (I := m.I) (J := m.J) (s := m.s) (pc2 := 30) (lv2 := [(0, .ref 45), (1, .int x1), (2, .int x2), (3, .int x3), (4, .int (sh_b2 x4)), (5, .int x5), (6, .int x6)]) (st2 := [.int 0]) (I2 := m.I) (J2 := m.J) (fun hT v kk => ?_) ?_
  · refine sh_w (i := (.iconst 0)) (len := 1) (pc2 := 30) (lv2 := [(0, .ref 45), (1, .int x1), (2, .int x2), (3, .int x3), (4, .int (sh_b2 x4)), (5, .int x5), (6, .int x6)]) (st2 := [.int 0]) (h2 := (sh_rep m.T m.I m.J)) rfl rfl rfl ?_
    exact kk
  exact sh_Lk_sub (sh_sub_c rfl (sh_sub_c rfl (sh_sub_c rfl (sh_sub_c rfl (sh_sub_c rfl (sh_sub_c rfl (sh_sub_c rfl (sh_sub_n)))))))) (sl_189_30 e tg)
theorem sl_189_6s {x1 : Int32} {x2 : Int32} {x3 : Int32} {x4 : Bool} {x5 : Int32} {x6 : Int32} {m m2 : sh_X} {o : Outcome} {z : ((Int32 × Int32 × sh_X) ⊕ (Int32 × sh_X))} (e : sf_189_6s x1 x2 x3 x4 x5 x6 m = some z) (tg : (sh_el (fun q => sh_Lk 189 6 [(0, .ref 45), (1, .int x1), (2, .int x2), (3, .int x3), (4, .int (sh_b2 x4)), (5, .int q.1), (6, .int q.2.1)] [] q.2.2 o m2 13 309) (sh_tI o m2)) z) : sh_Lk 189 6 [(0, .ref 45), (1, .int x1), (2, .int x2), (3, .int x3), (4, .int (sh_b2 x4)), (5, .int x5), (6, .int x6)] [] m o m2 13 309 := by
  unfold sf_189_6s at e
  refine sh_Lk_lift (T := m.T) (I := m.I) (J := m.J) (s := m.s) (pc2 := 9) (lv2 := [(0, .ref 45), (1, .int x1), (2, .int x2), (3, .int x3), (4, .int (sh_b2 x4)), (5, .int x5), (6, .int x6)]) (st2 := [.int x3, .int x6]) (I2 := m.I) (J2 := m.J) (fun hT v kk => ?_) ?_
  · refine sh_w (i := (.iload 6)) (len := 2) (pc2 := 8) (lv2 := [(0, .ref 45), (1, .int x1), (2, .int x2), (3, .int x3), (4, .int (sh_b2 x4)), (5, .int x5), (6, .int x6)]) (st2 := [.int x6]) (h2 := (sh_rep m.T m.I m.J)) rfl rfl rfl ?_
    refine sh_w (i := (.iload_n 3)) (len := 1) (pc2 := 9) (lv2 := [(0, .ref 45), (1, .int x1), (2, .int x2), (3, .int x3), (4, .int (sh_b2 x4)), (5, .int x5), (6, .int x6)]) (st2 := [.int x3, .int x6]) (h2 := (sh_rep m.T m.I m.J)) rfl rfl rfl ?_
    exact kk
  rcases sh_ite e with ⟨c, e⟩ | ⟨c, e⟩
  · refine sh_Lk_lift (T := m.T) (I := m.I) (J := m.J) (s := m.s) (pc2 := 14) (lv2 := [(0, .ref 45), (1, .int x1), (2, .int x2), (3, .int x3), (4, .int (sh_b2 x4)), (5, .int x5), (6, .int x6)]) (st2 := [.int (sh_b2 x4)]) (I2 := m.I) (J2 := m.J) (fun hT v kk => ?_) ?_
    · refine sh_jc (c := .ge) (off := (139)) (pc2 := 12) false rfl (sh_Bgef c) rfl ?_
      refine sh_w (i := (.iload 4)) (len := 2) (pc2 := 14) (lv2 := [(0, .ref 45), (1, .int x1), (2, .int x2), (3, .int x3), (4, .int (sh_b2 x4)), (5, .int x5), (6, .int x6)]) (st2 := [.int (sh_b2 x4)]) (h2 := (sh_rep m.T m.I m.J)) rfl rfl rfl ?_
      exact kk
    rcases sh_ite e with ⟨c, e⟩ | ⟨c, e⟩
    · refine sh_Lk_lift (T := m.T) (I := m.I) (J := m.J) (s := m.s) (pc2 := 22) (lv2 := [(0, .ref 45), (1, .int x1), (2, .int x2), (3, .int x3), (4, .int (sh_b2 x4)), (5, .int x5), (6, .int x6)]) (st2 := [.int (x3 - 1), .int x6]) (I2 := m.I) (J2 := m.J) (fun hT v kk => ?_) ?_
      · refine sh_j0 (c := .eq) (off := (15)) (pc2 := 17) false rfl (sh_Zeqf c) rfl ?_
        refine sh_w (i := (.iload 6)) (len := 2) (pc2 := 19) (lv2 := [(0, .ref 45), (1, .int x1), (2, .int x2), (3, .int x3), (4, .int (sh_b2 x4)), (5, .int x5), (6, .int x6)]) (st2 := [.int x6]) (h2 := (sh_rep m.T m.I m.J)) rfl rfl rfl ?_
        refine sh_w (i := (.iload_n 3)) (len := 1) (pc2 := 20) (lv2 := [(0, .ref 45), (1, .int x1), (2, .int x2), (3, .int x3), (4, .int (sh_b2 x4)), (5, .int x5), (6, .int x6)]) (st2 := [.int x3, .int x6]) (h2 := (sh_rep m.T m.I m.J)) rfl rfl rfl ?_
        refine sh_w (i := (.iconst 1)) (len := 1) (pc2 := 21) (lv2 := [(0, .ref 45), (1, .int x1), (2, .int x2), (3, .int x3), (4, .int (sh_b2 x4)), (5, .int x5), (6, .int x6)]) (st2 := [.int 1, .int x3, .int x6]) (h2 := (sh_rep m.T m.I m.J)) rfl rfl rfl ?_
        refine sh_w (i := .isub) (len := 1) (pc2 := 22) (lv2 := [(0, .ref 45), (1, .int x1), (2, .int x2), (3, .int x3), (4, .int (sh_b2 x4)), (5, .int x5), (6, .int x6)]) (st2 := [.int (x3 - 1), .int x6]) (h2 := (sh_rep m.T m.I m.J)) rfl rfl rfl ?_
        exact kk
      rcases sh_ite e with ⟨c, e⟩ | ⟨c, e⟩
      · refine sh_Lk_lift (T := m.T) (I := m.I) (J := m.J) (s := m.s) (pc2 := 30) (lv2 := [(0, .ref 45), (1, .int x1), (2, .int x2), (3, .int x3), (4, .int (sh_b2 x4)), (5, .int x5), (6, .int x6)]) (st2 := [.int 1]) (I2 := m.I) (J2 := m.J) (fun hT v kk => ?_) ?_
        · refine sh_jc (c := .ne) (off := (7)) (pc2 := 25) false rfl (sh_Bnef c) rfl ?_
          refine sh_w (i := (.iconst 1)) (len := 1) (pc2 := 26) (lv2 := [(0, .ref 45), (1, .int x1), (2, .int x2), (3, .int x3), (4, .int (sh_b2 x4)), (5, .int x5), (6, .int x6)]) (st2 := [.int 1]) (h2 := (sh_rep m.T m.I m.J)) rfl rfl rfl ?_
          refine sh_w (i := (.goto 4)) (len := 3) (pc2 := 30) (lv2 := [(0, .ref 45), (1, .int x1), (2, .int x2), (3, .int x3), (4, .int (sh_b2 x4)), (5, .int x5), (6, .int x6)]) (st2 := [.int 1]) (h2 := (sh_rep m.T m.I m.J)) rfl rfl rfl ?_
          exact kk
        exact sh_Lk_sub (sh_sub_c rfl (sh_sub_c rfl (sh_sub_c rfl (sh_sub_c rfl (sh_sub_c rfl (sh_sub_c rfl (sh_sub_c rfl (sh_sub_n)))))))) (sl_189_30 e tg)
      · refine sh_Lk_lift (T := m.T) (I := m.I) (J := m.J) (s := m.s) (pc2 := 29) (lv2 := [(0, .ref 45), (1, .int x1), (2, .int x2), (3, .int x3), (4, .int (sh_b2 x4)), (5, .int x5), (6, .int x6)]) (st2 := []) (I2 := m.I) (J2 := m.J) (fun hT v kk => ?_) ?_
        · refine sh_jc (c := .ne) (off := (7)) (pc2 := 29) true rfl (sh_Bnet c) rfl ?_
          exact kk
        exact sh_Lk_sub (sh_sub_c rfl (sh_sub_c rfl (sh_sub_c rfl (sh_sub_c rfl (sh_sub_c rfl (sh_sub_c rfl (sh_sub_c rfl (sh_sub_n)))))))) (sl_189_29 e tg)
    · refine sh_Lk_lift (T := m.T) (I := m.I) (J := m.J) (s := m.s) (pc2 := 29) (lv2 := [(0, .ref 45), (1, .int x1), (2, .int x2), (3, .int x3), (4, .int (sh_b2 x4)), (5, .int x5), (6, .int x6)]) (st2 := []) (I2 := m.I) (J2 := m.J) (fun hT v kk => ?_) ?_
      · refine sh_j0 (c := .eq) (off := (15)) (pc2 := 29) true rfl (sh_Zeqt c) rfl ?_
        exact kk
      exact sh_Lk_sub (sh_sub_c rfl (sh_sub_c rfl (sh_sub_c rfl (sh_sub_c rfl (sh_sub_c rfl (sh_sub_c rfl (sh_sub_c rfl (sh_sub_n)))))))) (sl_189_29 e tg)
  · refine sh_Lk_lift (T := m.T) (I := m.I) (J := m.J) (s := m.s) (pc2 := 154) (lv2 := [(0, .ref 45), (1, .int x1), (2, .int x2), (3, .int x3), (4, .int (sh_b2 x4)), (5, .int x5), (6, .int x6)]) (st2 := [.int x5, .ref 10]) (I2 := m.I) (J2 := m.J) (fun hT v kk => ?_) ?_
    · refine sh_jc (c := .ge) (off := (139)) (pc2 := 148) true rfl (sh_Bget c) rfl ?_
      refine sh_w (i := (.aload_n 0)) (len := 1) (pc2 := 149) (lv2 := [(0, .ref 45), (1, .int x1), (2, .int x2), (3, .int x3), (4, .int (sh_b2 x4)), (5, .int x5), (6, .int x6)]) (st2 := [.ref 45]) (h2 := (sh_rep m.T m.I m.J)) rfl rfl rfl ?_
      refine sh_gR1 (len := 3) (x := .ref 10) (pc2 := 152) rfl rfl (sh_s44 hT.st) rfl rfl ?_
      refine sh_w (i := (.iload 5)) (len := 2) (pc2 := 154) (lv2 := [(0, .ref 45), (1, .int x1), (2, .int x2), (3, .int x3), (4, .int (sh_b2 x4)), (5, .int x5), (6, .int x6)]) (st2 := [.int x5, .ref 10]) (h2 := (sh_rep m.T m.I m.J)) rfl rfl rfl ?_
      exact kk
    obtain ⟨r1, m11, e1, e⟩ := sh_bn_e e
    refine sh_Lk_cV (r := (some (.int r1))) (st2 := [.int r1]) (pc2 := 157) (k2 := 141) (a := 9) (as := [.ref 10, .int x5]) (rest := []) rfl rfl rfl (fun hT => hT.t9) rfl rfl ⟨Nat.le_of_ble_eq_true rfl, Nat.le_of_ble_eq_true rfl⟩ (sl_141 e1 ⟨rfl, rfl⟩) rfl rfl (Nat.le_of_ble_eq_true rfl) (Nat.le_of_ble_eq_true rfl) ?_
    obtain rfl := Option.some.inj e
    obtain ⟨rfl, rfl⟩ := tg
    exact sh_Lk_ret (i := .ireturn) rfl rfl rfl (Nat.le_of_ble_eq_true rfl) (Nat.le_of_ble_eq_true rfl)
theorem sl_189_6 {x1 : Int32} {x2 : Int32} {x3 : Int32} {x4 : Bool} {x5 : Int32} {x6 : Int32} {m m2 : sh_X} {o : Outcome} {z : (Int32 × sh_X)} (e : sf_189_6 x1 x2 x3 x4 x5 x6 m = some z) (tg : (sh_tI o m2) z) : sh_Lk 189 6 [(0, .ref 45), (1, .int x1), (2, .int x2), (3, .int x3), (4, .int (sh_b2 x4)), (5, .int x5), (6, .int x6)] [] m o m2 13 309 := by
  unfold sf_189_6 at e
  exact sh_while_lk (P := fun q => sh_Lk 189 6 [(0, .ref 45), (1, .int x1), (2, .int x2), (3, .int x3), (4, .int (sh_b2 x4)), (5, .int q.1), (6, .int q.2.1)] [] q.2.2 o m2 13 309) (Q := (sh_tI o m2)) (fun q z e tg => sl_189_6s (x1 := x1) (x2 := x2) (x3 := x3) (x4 := x4) (x5 := q.1) (x6 := q.2.1) (m := q.2.2) e tg) (s := (x5, x6, m)) e tg
theorem sl_189 {x1 : Int32} {x2 : Int32} {x3 : Int32} {x4 : Bool} {m m2 : sh_X} {o : Outcome} {z : (Int32 × sh_X)} (e : sf_189 x1 x2 x3 x4 m = some z) (tg : (sh_tI o m2) z) : sh_Lk 189 0 [(0, .ref 45), (1, .int x1), (2, .int x2), (3, .int x3), (4, .int (sh_b2 x4))] [] m o m2 13 309 := by
  unfold sf_189 at e
  refine sh_Lk_lift (T := m.T) (I := m.I) (J := m.J) (s := m.s) (pc2 := 6) (lv2 := [(6, .int 0), (5, .int 1), (0, .ref 45), (1, .int x1), (2, .int x2), (3, .int x3), (4, .int (sh_b2 x4))]) (st2 := []) (I2 := m.I) (J2 := m.J) (fun hT v kk => ?_) ?_
  · refine sh_w (i := (.iconst 1)) (len := 1) (pc2 := 1) (lv2 := [(0, .ref 45), (1, .int x1), (2, .int x2), (3, .int x3), (4, .int (sh_b2 x4))]) (st2 := [.int 1]) (h2 := (sh_rep m.T m.I m.J)) rfl rfl rfl ?_
    refine sh_w (i := (.istore 5)) (len := 2) (pc2 := 3) (lv2 := [(5, .int 1), (0, .ref 45), (1, .int x1), (2, .int x2), (3, .int x3), (4, .int (sh_b2 x4))]) (st2 := []) (h2 := (sh_rep m.T m.I m.J)) rfl rfl rfl ?_
    refine sh_w (i := (.iconst 0)) (len := 1) (pc2 := 4) (lv2 := [(5, .int 1), (0, .ref 45), (1, .int x1), (2, .int x2), (3, .int x3), (4, .int (sh_b2 x4))]) (st2 := [.int 0]) (h2 := (sh_rep m.T m.I m.J)) rfl rfl rfl ?_
    refine sh_w (i := (.istore 6)) (len := 2) (pc2 := 6) (lv2 := [(6, .int 0), (5, .int 1), (0, .ref 45), (1, .int x1), (2, .int x2), (3, .int x3), (4, .int (sh_b2 x4))]) (st2 := []) (h2 := (sh_rep m.T m.I m.J)) rfl rfl rfl ?_
    exact kk
  exact sh_Lk_sub (sh_sub_c rfl (sh_sub_c rfl (sh_sub_c rfl (sh_sub_c rfl (sh_sub_c rfl (sh_sub_c rfl (sh_sub_c rfl (sh_sub_n)))))))) (sl_189_6 e tg)
theorem sl_190_123 {x1 : Int32} {x2 : Int32} {x3 : Int32} {x4 : Int32} {x5 : Int32} {x6 : Int32} {m m2 : sh_X} {o : Outcome} {z : ((Int32 × sh_X) ⊕ (Int32 × sh_X))} (e : sf_190_123 x1 x2 x3 x4 x5 x6 m = some z) (tg : (sh_el (fun q => sh_Lk 190 11 [(0, .ref 45), (1, .int x1), (2, .int x2), (3, .int x3), (4, .int x4), (5, .int x5), (6, .int q.1)] [] q.2 o m2 12 288) (sh_tI o m2)) z) : sh_Lk 190 123 [(0, .ref 45), (1, .int x1), (2, .int x2), (3, .int x3), (4, .int x4), (5, .int x5), (6, .int x6)] [] m o m2 12 288 := by
  unfold sf_190_123 at e
  refine sh_Lk_lift (T := m.T) (I := m.I) (J := m.J) (s := m.s) (pc2 := 11) (lv2 := [(6, .int (x6 + 1)), (0, .ref 45), (1, .int x1), (2, .int x2), (3, .int x3), (4, .int x4), (5, .int x5)]) (st2 := []) (I2 := m.I) (J2 := m.J) (fun hT v kk => ?_) ?_
  · refine sh_w (i := (.iinc 6 1)) (len := 3) (pc2 := 126) (lv2 := [(6, .int (x6 + 1)), (0, .ref 45), (1, .int x1), (2, .int x2), (3, .int x3), (4, .int x4), (5, .int x5)]) (st2 := []) (h2 := (sh_rep m.T m.I m.J)) rfl rfl rfl ?_
    refine sh_w (i := (.goto (-115))) (len := 3) (pc2 := 11) (lv2 := [(6, .int (x6 + 1)), (0, .ref 45), (1, .int x1), (2, .int x2), (3, .int x3), (4, .int x4), (5, .int x5)]) (st2 := []) (h2 := (sh_rep m.T m.I m.J)) rfl rfl rfl ?_
    exact kk
  obtain rfl := Option.some.inj e
  exact sh_Lk_sub (sh_sub_c rfl (sh_sub_c rfl (sh_sub_c rfl (sh_sub_c rfl (sh_sub_c rfl (sh_sub_c rfl (sh_sub_c rfl (sh_sub_n)))))))) tg
theorem sl_190_80 {x1 : Int32} {x2 : Int32} {x3 : Int32} {x4 : Int32} {x5 : Int32} {x6 : Int32} {x7 : Int32} {x8 : Int32} {m m2 : sh_X} {o : Outcome} {z : ((Int32 × sh_X) ⊕ (Int32 × sh_X))} (e : sf_190_80 x1 x2 x3 x4 x5 x6 x7 x8 m = some z) (tg : (sh_el (fun q => sh_Lk 190 11 [(0, .ref 45), (1, .int x1), (2, .int x2), (3, .int x3), (4, .int x4), (5, .int x5), (6, .int q.1)] [] q.2 o m2 12 288) (sh_tI o m2)) z) : sh_Lk 190 80 [(0, .ref 45), (1, .int x1), (2, .int x2), (3, .int x3), (4, .int x4), (5, .int x5), (6, .int x6), (7, .int x7), (8, .int x8)] [] m o m2 12 288 := by
  unfold sf_190_80 at e
  refine sh_Lk_lift (T := m.T) (I := m.I) (J := m.J) (s := m.s) (pc2 := 94) (lv2 := [(0, .ref 45), (1, .int x1), (2, .int x2), (3, .int x3), (4, .int x4), (5, .int x5), (6, .int x6), (7, .int x7), (8, .int x8)]) (st2 := [.int x8, .int x7, .ref 10, .int (x5 + x6), .ref 45]) (I2 := m.I) (J2 := m.J) (fun hT v kk => ?_) ?_
  · refine sh_w (i := (.aload_n 0)) (len := 1) (pc2 := 81) (lv2 := [(0, .ref 45), (1, .int x1), (2, .int x2), (3, .int x3), (4, .int x4), (5, .int x5), (6, .int x6), (7, .int x7), (8, .int x8)]) (st2 := [.ref 45]) (h2 := (sh_rep m.T m.I m.J)) rfl rfl rfl ?_
    refine sh_w (i := (.iload 5)) (len := 2) (pc2 := 83) (lv2 := [(0, .ref 45), (1, .int x1), (2, .int x2), (3, .int x3), (4, .int x4), (5, .int x5), (6, .int x6), (7, .int x7), (8, .int x8)]) (st2 := [.int x5, .ref 45]) (h2 := (sh_rep m.T m.I m.J)) rfl rfl rfl ?_
    refine sh_w (i := (.iload 6)) (len := 2) (pc2 := 85) (lv2 := [(0, .ref 45), (1, .int x1), (2, .int x2), (3, .int x3), (4, .int x4), (5, .int x5), (6, .int x6), (7, .int x7), (8, .int x8)]) (st2 := [.int x6, .int x5, .ref 45]) (h2 := (sh_rep m.T m.I m.J)) rfl rfl rfl ?_
    refine sh_w (i := .iadd) (len := 1) (pc2 := 86) (lv2 := [(0, .ref 45), (1, .int x1), (2, .int x2), (3, .int x3), (4, .int x4), (5, .int x5), (6, .int x6), (7, .int x7), (8, .int x8)]) (st2 := [.int (x5 + x6), .ref 45]) (h2 := (sh_rep m.T m.I m.J)) rfl rfl rfl ?_
    refine sh_w (i := (.aload_n 0)) (len := 1) (pc2 := 87) (lv2 := [(0, .ref 45), (1, .int x1), (2, .int x2), (3, .int x3), (4, .int x4), (5, .int x5), (6, .int x6), (7, .int x7), (8, .int x8)]) (st2 := [.ref 45, .int (x5 + x6), .ref 45]) (h2 := (sh_rep m.T m.I m.J)) rfl rfl rfl ?_
    refine sh_gR1 (len := 3) (x := .ref 10) (pc2 := 90) rfl rfl (sh_s44 hT.st) rfl rfl ?_
    refine sh_w (i := (.iload 7)) (len := 2) (pc2 := 92) (lv2 := [(0, .ref 45), (1, .int x1), (2, .int x2), (3, .int x3), (4, .int x4), (5, .int x5), (6, .int x6), (7, .int x7), (8, .int x8)]) (st2 := [.int x7, .ref 10, .int (x5 + x6), .ref 45]) (h2 := (sh_rep m.T m.I m.J)) rfl rfl rfl ?_
    refine sh_w (i := (.iload 8)) (len := 2) (pc2 := 94) (lv2 := [(0, .ref 45), (1, .int x1), (2, .int x2), (3, .int x3), (4, .int x4), (5, .int x5), (6, .int x6), (7, .int x7), (8, .int x8)]) (st2 := [.int x8, .int x7, .ref 10, .int (x5 + x6), .ref 45]) (h2 := (sh_rep m.T m.I m.J)) rfl rfl rfl ?_
    exact kk
  obtain ⟨r1, m11, e1, e⟩ := sh_bn_e e
  refine sh_Lk_cV (r := (some (.int r1))) (st2 := [.int r1, .int (x5 + x6), .ref 45]) (pc2 := 97) (k2 := 132) (a := 9) (as := [.ref 10, .int x7, .int x8]) (rest := [.int (x5 + x6), .ref 45]) rfl rfl rfl (fun hT => hT.t9) rfl rfl ⟨Nat.le_of_ble_eq_true rfl, Nat.le_of_ble_eq_true rfl⟩ (sl_132 e1 ⟨rfl, rfl⟩) rfl rfl (Nat.le_of_ble_eq_true rfl) (Nat.le_of_ble_eq_true rfl) ?_
  obtain ⟨r2, m12, e2, e⟩ := sh_bn_e e
  refine sh_Lk_cV (r := none) (st2 := []) (pc2 := 100) (k2 := 100) (a := 44) (as := [.ref 45, .int (x5 + x6), .int r1]) (rest := []) rfl rfl rfl (fun hT => (sh_s44 hT.st)) rfl rfl ⟨Nat.le_of_ble_eq_true rfl, Nat.le_of_ble_eq_true rfl⟩ (sl_100 e2 ⟨rfl, rfl⟩) rfl rfl (Nat.le_of_ble_eq_true rfl) (Nat.le_of_ble_eq_true rfl) ?_
  refine sh_Lk_lift (T := m12.T) (I := m12.I) (J := m12.J) (s := m12.s) (pc2 := 123) (lv2 := [(0, .ref 45), (1, .int x1), (2, .int x2), (3, .int x3), (4, .int x4), (5, .int x5), (6, .int x6), (7, .int x7), (8, .int x8)]) (st2 := []) (I2 := m12.I) (J2 := m12.J) (fun hT v kk => ?_) ?_
  · refine sh_w (i := (.goto 23)) (len := 3) (pc2 := 123) (lv2 := [(0, .ref 45), (1, .int x1), (2, .int x2), (3, .int x3), (4, .int x4), (5, .int x5), (6, .int x6), (7, .int x7), (8, .int x8)]) (st2 := []) (h2 := (sh_rep m12.T m12.I m12.J)) rfl rfl rfl ?_
    exact kk
  exact sh_Lk_sub (sh_sub_c rfl (sh_sub_c rfl (sh_sub_c rfl (sh_sub_c rfl (sh_sub_c rfl (sh_sub_c rfl (sh_sub_c rfl (sh_sub_n)))))))) (sl_190_123 e tg)
theorem sl_190_11s {x1 : Int32} {x2 : Int32} {x3 : Int32} {x4 : Int32} {x5 : Int32} {x6 : Int32} {m m2 : sh_X} {o : Outcome} {z : ((Int32 × sh_X) ⊕ (Int32 × sh_X))} (e : sf_190_11s x1 x2 x3 x4 x5 x6 m = some z) (tg : (sh_el (fun q => sh_Lk 190 11 [(0, .ref 45), (1, .int x1), (2, .int x2), (3, .int x3), (4, .int x4), (5, .int x5), (6, .int q.1)] [] q.2 o m2 12 288) (sh_tI o m2)) z) : sh_Lk 190 11 [(0, .ref 45), (1, .int x1), (2, .int x2), (3, .int x3), (4, .int x4), (5, .int x5), (6, .int x6)] [] m o m2 12 288 := by
  unfold sf_190_11s at e
  refine sh_Lk_lift (T := m.T) (I := m.I) (J := m.J) (s := m.s) (pc2 := 15) (lv2 := [(0, .ref 45), (1, .int x1), (2, .int x2), (3, .int x3), (4, .int x4), (5, .int x5), (6, .int x6)]) (st2 := [.int x4, .int x6]) (I2 := m.I) (J2 := m.J) (fun hT v kk => ?_) ?_
  · refine sh_w (i := (.iload 6)) (len := 2) (pc2 := 13) (lv2 := [(0, .ref 45), (1, .int x1), (2, .int x2), (3, .int x3), (4, .int x4), (5, .int x5), (6, .int x6)]) (st2 := [.int x6]) (h2 := (sh_rep m.T m.I m.J)) rfl rfl rfl ?_
    refine sh_w (i := (.iload 4)) (len := 2) (pc2 := 15) (lv2 := [(0, .ref 45), (1, .int x1), (2, .int x2), (3, .int x3), (4, .int x4), (5, .int x5), (6, .int x6)]) (st2 := [.int x4, .int x6]) (h2 := (sh_rep m.T m.I m.J)) rfl rfl rfl ?_
    exact kk
  rcases sh_ite e with ⟨c, e⟩ | ⟨c, e⟩
  · refine sh_Lk_lift (T := m.T) (I := m.I) (J := m.J) (s := m.s) (pc2 := 23) (lv2 := [(0, .ref 45), (1, .int x1), (2, .int x2), (3, .int x3), (4, .int x4), (5, .int x5), (6, .int x6)]) (st2 := [.int (x2 + x6), .ref 45]) (I2 := m.I) (J2 := m.J) (fun hT v kk => ?_) ?_
    · refine sh_jc (c := .ge) (off := (114)) (pc2 := 18) false rfl (sh_Bgef c) rfl ?_
      refine sh_w (i := (.aload_n 0)) (len := 1) (pc2 := 19) (lv2 := [(0, .ref 45), (1, .int x1), (2, .int x2), (3, .int x3), (4, .int x4), (5, .int x5), (6, .int x6)]) (st2 := [.ref 45]) (h2 := (sh_rep m.T m.I m.J)) rfl rfl rfl ?_
      refine sh_w (i := (.iload_n 2)) (len := 1) (pc2 := 20) (lv2 := [(0, .ref 45), (1, .int x1), (2, .int x2), (3, .int x3), (4, .int x4), (5, .int x5), (6, .int x6)]) (st2 := [.int x2, .ref 45]) (h2 := (sh_rep m.T m.I m.J)) rfl rfl rfl ?_
      refine sh_w (i := (.iload 6)) (len := 2) (pc2 := 22) (lv2 := [(0, .ref 45), (1, .int x1), (2, .int x2), (3, .int x3), (4, .int x4), (5, .int x5), (6, .int x6)]) (st2 := [.int x6, .int x2, .ref 45]) (h2 := (sh_rep m.T m.I m.J)) rfl rfl rfl ?_
      refine sh_w (i := .iadd) (len := 1) (pc2 := 23) (lv2 := [(0, .ref 45), (1, .int x1), (2, .int x2), (3, .int x3), (4, .int x4), (5, .int x5), (6, .int x6)]) (st2 := [.int (x2 + x6), .ref 45]) (h2 := (sh_rep m.T m.I m.J)) rfl rfl rfl ?_
      exact kk
    obtain ⟨r1, e1, e⟩ := sh_bc_e e
    refine sh_Lk_cV (r := (some (.int r1))) (st2 := [.int r1]) (pc2 := 26) (k2 := 103) (a := 44) (as := [.ref 45, .int (x2 + x6)]) (rest := []) rfl rfl rfl (fun hT => (sh_s44 hT.st)) rfl rfl ⟨Nat.le_of_ble_eq_true rfl, Nat.le_of_ble_eq_true rfl⟩ (sl_103 e1 ⟨rfl, rfl⟩) rfl rfl (Nat.le_of_ble_eq_true rfl) (Nat.le_of_ble_eq_true rfl) ?_
    refine sh_Lk_lift (T := m.T) (I := m.I) (J := m.J) (s := m.s) (pc2 := 33) (lv2 := [(7, .int r1), (0, .ref 45), (1, .int x1), (2, .int x2), (3, .int x3), (4, .int x4), (5, .int x5), (6, .int x6)]) (st2 := [.int (x3 + x6), .ref 45]) (I2 := m.I) (J2 := m.J) (fun hT v kk => ?_) ?_
    · refine sh_w (i := (.istore 7)) (len := 2) (pc2 := 28) (lv2 := [(7, .int r1), (0, .ref 45), (1, .int x1), (2, .int x2), (3, .int x3), (4, .int x4), (5, .int x5), (6, .int x6)]) (st2 := []) (h2 := (sh_rep m.T m.I m.J)) rfl rfl rfl ?_
      refine sh_w (i := (.aload_n 0)) (len := 1) (pc2 := 29) (lv2 := [(7, .int r1), (0, .ref 45), (1, .int x1), (2, .int x2), (3, .int x3), (4, .int x4), (5, .int x5), (6, .int x6)]) (st2 := [.ref 45]) (h2 := (sh_rep m.T m.I m.J)) rfl rfl rfl ?_
      refine sh_w (i := (.iload_n 3)) (len := 1) (pc2 := 30) (lv2 := [(7, .int r1), (0, .ref 45), (1, .int x1), (2, .int x2), (3, .int x3), (4, .int x4), (5, .int x5), (6, .int x6)]) (st2 := [.int x3, .ref 45]) (h2 := (sh_rep m.T m.I m.J)) rfl rfl rfl ?_
      refine sh_w (i := (.iload 6)) (len := 2) (pc2 := 32) (lv2 := [(7, .int r1), (0, .ref 45), (1, .int x1), (2, .int x2), (3, .int x3), (4, .int x4), (5, .int x5), (6, .int x6)]) (st2 := [.int x6, .int x3, .ref 45]) (h2 := (sh_rep m.T m.I m.J)) rfl rfl rfl ?_
      refine sh_w (i := .iadd) (len := 1) (pc2 := 33) (lv2 := [(7, .int r1), (0, .ref 45), (1, .int x1), (2, .int x2), (3, .int x3), (4, .int x4), (5, .int x5), (6, .int x6)]) (st2 := [.int (x3 + x6), .ref 45]) (h2 := (sh_rep m.T m.I m.J)) rfl rfl rfl ?_
      exact kk
    obtain ⟨r2, e2, e⟩ := sh_bc_e e
    refine sh_Lk_cV (r := (some (.int r2))) (st2 := [.int r2]) (pc2 := 36) (k2 := 103) (a := 44) (as := [.ref 45, .int (x3 + x6)]) (rest := []) rfl rfl rfl (fun hT => (sh_s44 hT.st)) rfl rfl ⟨Nat.le_of_ble_eq_true rfl, Nat.le_of_ble_eq_true rfl⟩ (sl_103 e2 ⟨rfl, rfl⟩) rfl rfl (Nat.le_of_ble_eq_true rfl) (Nat.le_of_ble_eq_true rfl) ?_
    refine sh_Lk_lift (T := m.T) (I := m.I) (J := m.J) (s := m.s) (pc2 := 41) (lv2 := [(8, .int r2), (7, .int r1), (0, .ref 45), (1, .int x1), (2, .int x2), (3, .int x3), (4, .int x4), (5, .int x5), (6, .int x6)]) (st2 := [.int 94, .int x1]) (I2 := m.I) (J2 := m.J) (fun hT v kk => ?_) ?_
    · refine sh_w (i := (.istore 8)) (len := 2) (pc2 := 38) (lv2 := [(8, .int r2), (7, .int r1), (0, .ref 45), (1, .int x1), (2, .int x2), (3, .int x3), (4, .int x4), (5, .int x5), (6, .int x6)]) (st2 := []) (h2 := (sh_rep m.T m.I m.J)) rfl rfl rfl ?_
      refine sh_w (i := (.iload_n 1)) (len := 1) (pc2 := 39) (lv2 := [(8, .int r2), (7, .int r1), (0, .ref 45), (1, .int x1), (2, .int x2), (3, .int x3), (4, .int x4), (5, .int x5), (6, .int x6)]) (st2 := [.int x1]) (h2 := (sh_rep m.T m.I m.J)) rfl rfl rfl ?_
      refine sh_w (i := (.bipush 94)) (len := 2) (pc2 := 41) (lv2 := [(8, .int r2), (7, .int r1), (0, .ref 45), (1, .int x1), (2, .int x2), (3, .int x3), (4, .int x4), (5, .int x5), (6, .int x6)]) (st2 := [.int 94, .int x1]) (h2 := (sh_rep m.T m.I m.J)) rfl rfl rfl ?_
      exact kk
    rcases sh_ite e with ⟨c, e⟩ | ⟨c, e⟩
    · refine sh_Lk_lift (T := m.T) (I := m.I) (J := m.J) (s := m.s) (pc2 := 58) (lv2 := [(8, .int r2), (7, .int r1), (0, .ref 45), (1, .int x1), (2, .int x2), (3, .int x3), (4, .int x4), (5, .int x5), (6, .int x6)]) (st2 := [.int r2, .int r1, .ref 10, .int (x5 + x6), .ref 45]) (I2 := m.I) (J2 := m.J) (fun hT v kk => ?_) ?_
      · refine sh_jc (c := .ne) (off := (26)) (pc2 := 44) false rfl (sh_Bnef c) rfl ?_
        refine sh_w (i := (.aload_n 0)) (len := 1) (pc2 := 45) (lv2 := [(8, .int r2), (7, .int r1), (0, .ref 45), (1, .int x1), (2, .int x2), (3, .int x3), (4, .int x4), (5, .int x5), (6, .int x6)]) (st2 := [.ref 45]) (h2 := (sh_rep m.T m.I m.J)) rfl rfl rfl ?_
        refine sh_w (i := (.iload 5)) (len := 2) (pc2 := 47) (lv2 := [(8, .int r2), (7, .int r1), (0, .ref 45), (1, .int x1), (2, .int x2), (3, .int x3), (4, .int x4), (5, .int x5), (6, .int x6)]) (st2 := [.int x5, .ref 45]) (h2 := (sh_rep m.T m.I m.J)) rfl rfl rfl ?_
        refine sh_w (i := (.iload 6)) (len := 2) (pc2 := 49) (lv2 := [(8, .int r2), (7, .int r1), (0, .ref 45), (1, .int x1), (2, .int x2), (3, .int x3), (4, .int x4), (5, .int x5), (6, .int x6)]) (st2 := [.int x6, .int x5, .ref 45]) (h2 := (sh_rep m.T m.I m.J)) rfl rfl rfl ?_
        refine sh_w (i := .iadd) (len := 1) (pc2 := 50) (lv2 := [(8, .int r2), (7, .int r1), (0, .ref 45), (1, .int x1), (2, .int x2), (3, .int x3), (4, .int x4), (5, .int x5), (6, .int x6)]) (st2 := [.int (x5 + x6), .ref 45]) (h2 := (sh_rep m.T m.I m.J)) rfl rfl rfl ?_
        refine sh_w (i := (.aload_n 0)) (len := 1) (pc2 := 51) (lv2 := [(8, .int r2), (7, .int r1), (0, .ref 45), (1, .int x1), (2, .int x2), (3, .int x3), (4, .int x4), (5, .int x5), (6, .int x6)]) (st2 := [.ref 45, .int (x5 + x6), .ref 45]) (h2 := (sh_rep m.T m.I m.J)) rfl rfl rfl ?_
        refine sh_gR1 (len := 3) (x := .ref 10) (pc2 := 54) rfl rfl (sh_s44 hT.st) rfl rfl ?_
        refine sh_w (i := (.iload 7)) (len := 2) (pc2 := 56) (lv2 := [(8, .int r2), (7, .int r1), (0, .ref 45), (1, .int x1), (2, .int x2), (3, .int x3), (4, .int x4), (5, .int x5), (6, .int x6)]) (st2 := [.int r1, .ref 10, .int (x5 + x6), .ref 45]) (h2 := (sh_rep m.T m.I m.J)) rfl rfl rfl ?_
        refine sh_w (i := (.iload 8)) (len := 2) (pc2 := 58) (lv2 := [(8, .int r2), (7, .int r1), (0, .ref 45), (1, .int x1), (2, .int x2), (3, .int x3), (4, .int x4), (5, .int x5), (6, .int x6)]) (st2 := [.int r2, .int r1, .ref 10, .int (x5 + x6), .ref 45]) (h2 := (sh_rep m.T m.I m.J)) rfl rfl rfl ?_
        exact kk
      obtain ⟨r3, m13, e3, e⟩ := sh_bn_e e
      refine sh_Lk_cV (r := (some (.int r3))) (st2 := [.int r3, .int (x5 + x6), .ref 45]) (pc2 := 61) (k2 := 130) (a := 9) (as := [.ref 10, .int r1, .int r2]) (rest := [.int (x5 + x6), .ref 45]) rfl rfl rfl (fun hT => hT.t9) rfl rfl ⟨Nat.le_of_ble_eq_true rfl, Nat.le_of_ble_eq_true rfl⟩ (sl_130 e3 ⟨rfl, rfl⟩) rfl rfl (Nat.le_of_ble_eq_true rfl) (Nat.le_of_ble_eq_true rfl) ?_
      obtain ⟨r4, m14, e4, e⟩ := sh_bn_e e
      refine sh_Lk_cV (r := none) (st2 := []) (pc2 := 64) (k2 := 100) (a := 44) (as := [.ref 45, .int (x5 + x6), .int r3]) (rest := []) rfl rfl rfl (fun hT => (sh_s44 hT.st)) rfl rfl ⟨Nat.le_of_ble_eq_true rfl, Nat.le_of_ble_eq_true rfl⟩ (sl_100 e4 ⟨rfl, rfl⟩) rfl rfl (Nat.le_of_ble_eq_true rfl) (Nat.le_of_ble_eq_true rfl) ?_
      refine sh_Lk_lift (T := m14.T) (I := m14.I) (J := m14.J) (s := m14.s) (pc2 := 123) (lv2 := [(8, .int r2), (7, .int r1), (0, .ref 45), (1, .int x1), (2, .int x2), (3, .int x3), (4, .int x4), (5, .int x5), (6, .int x6)]) (st2 := []) (I2 := m14.I) (J2 := m14.J) (fun hT v kk => ?_) ?_
      · refine sh_w (i := (.goto 59)) (len := 3) (pc2 := 123) (lv2 := [(8, .int r2), (7, .int r1), (0, .ref 45), (1, .int x1), (2, .int x2), (3, .int x3), (4, .int x4), (5, .int x5), (6, .int x6)]) (st2 := []) (h2 := (sh_rep m14.T m14.I m14.J)) rfl rfl rfl ?_
        exact kk
      exact sh_Lk_sub (sh_sub_c rfl (sh_sub_c rfl (sh_sub_c rfl (sh_sub_c rfl (sh_sub_c rfl (sh_sub_c rfl (sh_sub_c rfl (sh_sub_n)))))))) (sl_190_123 e tg)
    · refine sh_Lk_lift (T := m.T) (I := m.I) (J := m.J) (s := m.s) (pc2 := 70) (lv2 := [(8, .int r2), (7, .int r1), (0, .ref 45), (1, .int x1), (2, .int x2), (3, .int x3), (4, .int x4), (5, .int x5), (6, .int x6)]) (st2 := [.int 38, .int x1]) (I2 := m.I) (J2 := m.J) (fun hT v kk => ?_) ?_
      · refine sh_jc (c := .ne) (off := (26)) (pc2 := 67) true rfl (sh_Bnet c) rfl ?_
        refine sh_w (i := (.iload_n 1)) (len := 1) (pc2 := 68) (lv2 := [(8, .int r2), (7, .int r1), (0, .ref 45), (1, .int x1), (2, .int x2), (3, .int x3), (4, .int x4), (5, .int x5), (6, .int x6)]) (st2 := [.int x1]) (h2 := (sh_rep m.T m.I m.J)) rfl rfl rfl ?_
        refine sh_w (i := (.bipush 38)) (len := 2) (pc2 := 70) (lv2 := [(8, .int r2), (7, .int r1), (0, .ref 45), (1, .int x1), (2, .int x2), (3, .int x3), (4, .int x4), (5, .int x5), (6, .int x6)]) (st2 := [.int 38, .int x1]) (h2 := (sh_rep m.T m.I m.J)) rfl rfl rfl ?_
        exact kk
      rcases sh_ite e with ⟨c, e⟩ | ⟨c, e⟩
      · refine sh_Lk_lift (T := m.T) (I := m.I) (J := m.J) (s := m.s) (pc2 := 80) (lv2 := [(8, .int r2), (7, .int r1), (0, .ref 45), (1, .int x1), (2, .int x2), (3, .int x3), (4, .int x4), (5, .int x5), (6, .int x6)]) (st2 := []) (I2 := m.I) (J2 := m.J) (fun hT v kk => ?_) ?_
        · refine sh_jc (c := .eq) (off := (10)) (pc2 := 80) true rfl (sh_Beqt c) rfl ?_
          exact kk
        exact sh_Lk_sub (sh_sub_c rfl (sh_sub_c rfl (sh_sub_c rfl (sh_sub_c rfl (sh_sub_c rfl (sh_sub_c rfl (sh_sub_c rfl (sh_sub_c rfl (sh_sub_c rfl (sh_sub_n)))))))))) (sl_190_80 e tg)
      · refine sh_Lk_lift (T := m.T) (I := m.I) (J := m.J) (s := m.s) (pc2 := 77) (lv2 := [(8, .int r2), (7, .int r1), (0, .ref 45), (1, .int x1), (2, .int x2), (3, .int x3), (4, .int x4), (5, .int x5), (6, .int x6)]) (st2 := [.int 9766, .int x1]) (I2 := m.I) (J2 := m.J) (fun hT v kk => ?_) ?_
        · refine sh_jc (c := .eq) (off := (10)) (pc2 := 73) false rfl (sh_Beqf c) rfl ?_
          refine sh_w (i := (.iload_n 1)) (len := 1) (pc2 := 74) (lv2 := [(8, .int r2), (7, .int r1), (0, .ref 45), (1, .int x1), (2, .int x2), (3, .int x3), (4, .int x4), (5, .int x5), (6, .int x6)]) (st2 := [.int x1]) (h2 := (sh_rep m.T m.I m.J)) rfl rfl rfl ?_
          refine sh_w (i := (.sipush 9766)) (len := 3) (pc2 := 77) (lv2 := [(8, .int r2), (7, .int r1), (0, .ref 45), (1, .int x1), (2, .int x2), (3, .int x3), (4, .int x4), (5, .int x5), (6, .int x6)]) (st2 := [.int 9766, .int x1]) (h2 := (sh_rep m.T m.I m.J)) rfl rfl rfl ?_
          exact kk
        rcases sh_ite e with ⟨c, e⟩ | ⟨c, e⟩
        · refine sh_Lk_lift (T := m.T) (I := m.I) (J := m.J) (s := m.s) (pc2 := 80) (lv2 := [(8, .int r2), (7, .int r1), (0, .ref 45), (1, .int x1), (2, .int x2), (3, .int x3), (4, .int x4), (5, .int x5), (6, .int x6)]) (st2 := []) (I2 := m.I) (J2 := m.J) (fun hT v kk => ?_) ?_
          · refine sh_jc (c := .ne) (off := (26)) (pc2 := 80) false rfl (sh_Bnef c) rfl ?_
            exact kk
          exact sh_Lk_sub (sh_sub_c rfl (sh_sub_c rfl (sh_sub_c rfl (sh_sub_c rfl (sh_sub_c rfl (sh_sub_c rfl (sh_sub_c rfl (sh_sub_c rfl (sh_sub_c rfl (sh_sub_n)))))))))) (sl_190_80 e tg)
        · refine sh_Lk_lift (T := m.T) (I := m.I) (J := m.J) (s := m.s) (pc2 := 117) (lv2 := [(8, .int r2), (7, .int r1), (0, .ref 45), (1, .int x1), (2, .int x2), (3, .int x3), (4, .int x4), (5, .int x5), (6, .int x6)]) (st2 := [.int r2, .int r1, .ref 10, .int (x5 + x6), .ref 45]) (I2 := m.I) (J2 := m.J) (fun hT v kk => ?_) ?_
          · refine sh_jc (c := .ne) (off := (26)) (pc2 := 103) true rfl (sh_Bnet c) rfl ?_
            refine sh_w (i := (.aload_n 0)) (len := 1) (pc2 := 104) (lv2 := [(8, .int r2), (7, .int r1), (0, .ref 45), (1, .int x1), (2, .int x2), (3, .int x3), (4, .int x4), (5, .int x5), (6, .int x6)]) (st2 := [.ref 45]) (h2 := (sh_rep m.T m.I m.J)) rfl rfl rfl ?_
            refine sh_w (i := (.iload 5)) (len := 2) (pc2 := 106) (lv2 := [(8, .int r2), (7, .int r1), (0, .ref 45), (1, .int x1), (2, .int x2), (3, .int x3), (4, .int x4), (5, .int x5), (6, .int x6)]) (st2 := [.int x5, .ref 45]) (h2 := (sh_rep m.T m.I m.J)) rfl rfl rfl ?_
            refine sh_w (i := (.iload 6)) (len := 2) (pc2 := 108) (lv2 := [(8, .int r2), (7, .int r1), (0, .ref 45), (1, .int x1), (2, .int x2), (3, .int x3), (4, .int x4), (5, .int x5), (6, .int x6)]) (st2 := [.int x6, .int x5, .ref 45]) (h2 := (sh_rep m.T m.I m.J)) rfl rfl rfl ?_
            refine sh_w (i := .iadd) (len := 1) (pc2 := 109) (lv2 := [(8, .int r2), (7, .int r1), (0, .ref 45), (1, .int x1), (2, .int x2), (3, .int x3), (4, .int x4), (5, .int x5), (6, .int x6)]) (st2 := [.int (x5 + x6), .ref 45]) (h2 := (sh_rep m.T m.I m.J)) rfl rfl rfl ?_
            refine sh_w (i := (.aload_n 0)) (len := 1) (pc2 := 110) (lv2 := [(8, .int r2), (7, .int r1), (0, .ref 45), (1, .int x1), (2, .int x2), (3, .int x3), (4, .int x4), (5, .int x5), (6, .int x6)]) (st2 := [.ref 45, .int (x5 + x6), .ref 45]) (h2 := (sh_rep m.T m.I m.J)) rfl rfl rfl ?_
            refine sh_gR1 (len := 3) (x := .ref 10) (pc2 := 113) rfl rfl (sh_s44 hT.st) rfl rfl ?_
            refine sh_w (i := (.iload 7)) (len := 2) (pc2 := 115) (lv2 := [(8, .int r2), (7, .int r1), (0, .ref 45), (1, .int x1), (2, .int x2), (3, .int x3), (4, .int x4), (5, .int x5), (6, .int x6)]) (st2 := [.int r1, .ref 10, .int (x5 + x6), .ref 45]) (h2 := (sh_rep m.T m.I m.J)) rfl rfl rfl ?_
            refine sh_w (i := (.iload 8)) (len := 2) (pc2 := 117) (lv2 := [(8, .int r2), (7, .int r1), (0, .ref 45), (1, .int x1), (2, .int x2), (3, .int x3), (4, .int x4), (5, .int x5), (6, .int x6)]) (st2 := [.int r2, .int r1, .ref 10, .int (x5 + x6), .ref 45]) (h2 := (sh_rep m.T m.I m.J)) rfl rfl rfl ?_
            exact kk
          obtain ⟨r5, m15, e5, e⟩ := sh_bn_e e
          refine sh_Lk_cV (r := (some (.int r5))) (st2 := [.int r5, .int (x5 + x6), .ref 45]) (pc2 := 120) (k2 := 185) (a := 9) (as := [.ref 10, .int r1, .int r2]) (rest := [.int (x5 + x6), .ref 45]) rfl rfl rfl (fun hT => hT.t9) rfl rfl ⟨Nat.le_of_ble_eq_true rfl, Nat.le_of_ble_eq_true rfl⟩ (sl_185 e5 ⟨rfl, rfl⟩) rfl rfl (Nat.le_of_ble_eq_true rfl) (Nat.le_of_ble_eq_true rfl) ?_
          obtain ⟨r6, m16, e6, e⟩ := sh_bn_e e
          refine sh_Lk_cV (r := none) (st2 := []) (pc2 := 123) (k2 := 100) (a := 44) (as := [.ref 45, .int (x5 + x6), .int r5]) (rest := []) rfl rfl rfl (fun hT => (sh_s44 hT.st)) rfl rfl ⟨Nat.le_of_ble_eq_true rfl, Nat.le_of_ble_eq_true rfl⟩ (sl_100 e6 ⟨rfl, rfl⟩) rfl rfl (Nat.le_of_ble_eq_true rfl) (Nat.le_of_ble_eq_true rfl) ?_
          exact sh_Lk_sub (sh_sub_c rfl (sh_sub_c rfl (sh_sub_c rfl (sh_sub_c rfl (sh_sub_c rfl (sh_sub_c rfl (sh_sub_c rfl (sh_sub_n)))))))) (sl_190_123 e tg)
  · refine sh_Lk_lift (T := m.T) (I := m.I) (J := m.J) (s := m.s) (pc2 := 131) (lv2 := [(0, .ref 45), (1, .int x1), (2, .int x2), (3, .int x3), (4, .int x4), (5, .int x5), (6, .int x6)]) (st2 := [.int x5]) (I2 := m.I) (J2 := m.J) (fun hT v kk => ?_) ?_
    · refine sh_jc (c := .ge) (off := (114)) (pc2 := 129) true rfl (sh_Bget c) rfl ?_
      refine sh_w (i := (.iload 5)) (len := 2) (pc2 := 131) (lv2 := [(0, .ref 45), (1, .int x1), (2, .int x2), (3, .int x3), (4, .int x4), (5, .int x5), (6, .int x6)]) (st2 := [.int x5]) (h2 := (sh_rep m.T m.I m.J)) rfl rfl rfl ?_
      exact kk
    obtain rfl := Option.some.inj e
    obtain ⟨rfl, rfl⟩ := tg
    exact sh_Lk_ret (i := .ireturn) rfl rfl rfl (Nat.le_of_ble_eq_true rfl) (Nat.le_of_ble_eq_true rfl)
theorem sl_190_11 {x1 : Int32} {x2 : Int32} {x3 : Int32} {x4 : Int32} {x5 : Int32} {x6 : Int32} {m m2 : sh_X} {o : Outcome} {z : (Int32 × sh_X)} (e : sf_190_11 x1 x2 x3 x4 x5 x6 m = some z) (tg : (sh_tI o m2) z) : sh_Lk 190 11 [(0, .ref 45), (1, .int x1), (2, .int x2), (3, .int x3), (4, .int x4), (5, .int x5), (6, .int x6)] [] m o m2 12 288 := by
  unfold sf_190_11 at e
  exact sh_while_lk (P := fun q => sh_Lk 190 11 [(0, .ref 45), (1, .int x1), (2, .int x2), (3, .int x3), (4, .int x4), (5, .int x5), (6, .int q.1)] [] q.2 o m2 12 288) (Q := (sh_tI o m2)) (fun q z e tg => sl_190_11s (x1 := x1) (x2 := x2) (x3 := x3) (x4 := x4) (x5 := x5) (x6 := q.1) (m := q.2) e tg) (s := (x6, m)) e tg
theorem sl_190 {x1 : Int32} {x2 : Int32} {x3 : Int32} {x4 : Int32} {m m2 : sh_X} {o : Outcome} {z : (Int32 × sh_X)} (e : sf_190 x1 x2 x3 x4 m = some z) (tg : (sh_tI o m2) z) : sh_Lk 190 0 [(0, .ref 45), (1, .int x1), (2, .int x2), (3, .int x3), (4, .int x4)] [] m o m2 12 288 := by
  unfold sf_190 at e
  refine sh_Lk_lift (T := m.T) (I := m.I) (J := m.J) (s := m.s) (pc2 := 3) (lv2 := [(0, .ref 45), (1, .int x1), (2, .int x2), (3, .int x3), (4, .int x4)]) (st2 := [.int x4, .ref 45]) (I2 := m.I) (J2 := m.J) (fun hT v kk => ?_) ?_
  · refine sh_w (i := (.aload_n 0)) (len := 1) (pc2 := 1) (lv2 := [(0, .ref 45), (1, .int x1), (2, .int x2), (3, .int x3), (4, .int x4)]) (st2 := [.ref 45]) (h2 := (sh_rep m.T m.I m.J)) rfl rfl rfl ?_
    refine sh_w (i := (.iload 4)) (len := 2) (pc2 := 3) (lv2 := [(0, .ref 45), (1, .int x1), (2, .int x2), (3, .int x3), (4, .int x4)]) (st2 := [.int x4, .ref 45]) (h2 := (sh_rep m.T m.I m.J)) rfl rfl rfl ?_
    exact kk
  obtain ⟨r1, m11, e1, e⟩ := sh_bn_e e
  refine sh_Lk_cV (r := (some (.int r1))) (st2 := [.int r1]) (pc2 := 6) (k2 := 98) (a := 44) (as := [.ref 45, .int x4]) (rest := []) rfl rfl rfl (fun hT => (sh_s44 hT.st)) rfl rfl ⟨Nat.le_of_ble_eq_true rfl, Nat.le_of_ble_eq_true rfl⟩ (sl_98 e1 ⟨rfl, rfl⟩) rfl rfl (Nat.le_of_ble_eq_true rfl) (Nat.le_of_ble_eq_true rfl) ?_
  refine sh_Lk_lift (T := m11.T) (I := m11.I) (J := m11.J) (s := m11.s) (pc2 := 11) (lv2 := [(6, .int 0), (5, .int r1), (0, .ref 45), (1, .int x1), (2, .int x2), (3, .int x3), (4, .int x4)]) (st2 := []) (I2 := m11.I) (J2 := m11.J) (fun hT v kk => ?_) ?_
  · refine sh_w (i := (.istore 5)) (len := 2) (pc2 := 8) (lv2 := [(5, .int r1), (0, .ref 45), (1, .int x1), (2, .int x2), (3, .int x3), (4, .int x4)]) (st2 := []) (h2 := (sh_rep m11.T m11.I m11.J)) rfl rfl rfl ?_
    refine sh_w (i := (.iconst 0)) (len := 1) (pc2 := 9) (lv2 := [(5, .int r1), (0, .ref 45), (1, .int x1), (2, .int x2), (3, .int x3), (4, .int x4)]) (st2 := [.int 0]) (h2 := (sh_rep m11.T m11.I m11.J)) rfl rfl rfl ?_
    refine sh_w (i := (.istore 6)) (len := 2) (pc2 := 11) (lv2 := [(6, .int 0), (5, .int r1), (0, .ref 45), (1, .int x1), (2, .int x2), (3, .int x3), (4, .int x4)]) (st2 := []) (h2 := (sh_rep m11.T m11.I m11.J)) rfl rfl rfl ?_
    exact kk
  exact sh_Lk_sub (sh_sub_c rfl (sh_sub_c rfl (sh_sub_c rfl (sh_sub_c rfl (sh_sub_c rfl (sh_sub_c rfl (sh_sub_c rfl (sh_sub_n)))))))) (sl_190_11 e tg)
theorem sl_178 {x1 : Int32} {x2 : Int32} {x3 : Int32} {x4 : Int32} {m m2 : sh_X} {o : Outcome} {z : (Int32 × sh_X)} (e : sf_178 x1 x2 x3 x4 m = some z) (tg : (sh_tI o m2) z) : sh_Lk 178 0 [(0, .ref 45), (1, .int x1), (2, .int x2), (3, .int x3), (4, .int x4)] [] m o m2 14 387 := by
  unfold sf_178 at e
  refine sh_Lk_lift (T := m.T) (I := m.I) (J := m.J) (s := m.s) (pc2 := 2) (lv2 := [(0, .ref 45), (1, .int x1), (2, .int x2), (3, .int x3), (4, .int x4)]) (st2 := [.int x4]) (I2 := m.I) (J2 := m.J) (fun hT v kk => ?_) ?_
  · refine sh_w (i := (.iload 4)) (len := 2) (pc2 := 2) (lv2 := [(0, .ref 45), (1, .int x1), (2, .int x2), (3, .int x3), (4, .int x4)]) (st2 := [.int x4]) (h2 := (sh_rep m.T m.I m.J)) rfl rfl rfl ?_
    exact kk
  refine sh_Lk_cS (r := (some (.int (sf_94 x4)))) (st2 := [.int (sf_94 x4)]) (pc2 := 5) (k2 := 94) (as := [.int x4]) (rest := []) rfl rfl (by decide) (Nat.le_of_ble_eq_true rfl) rfl rfl ⟨Nat.le_of_ble_eq_true rfl, Nat.le_of_ble_eq_true rfl⟩ (sl_94 (m := m) rfl ⟨rfl, rfl⟩) rfl rfl (Nat.le_of_ble_eq_true rfl) (Nat.le_of_ble_eq_true rfl) ?_
  refine sh_Lk_lift (T := m.T) (I := m.I) (J := m.J) (s := m.s) (pc2 := 9) (lv2 := [(5, .int (sf_94 x4)), (0, .ref 45), (1, .int x1), (2, .int x2), (3, .int x3), (4, .int x4)]) (st2 := [.int x4]) (I2 := m.I) (J2 := m.J) (fun hT v kk => ?_) ?_
  · refine sh_w (i := (.istore 5)) (len := 2) (pc2 := 7) (lv2 := [(5, .int (sf_94 x4)), (0, .ref 45), (1, .int x1), (2, .int x2), (3, .int x3), (4, .int x4)]) (st2 := []) (h2 := (sh_rep m.T m.I m.J)) rfl rfl rfl ?_
    refine sh_w (i := (.iload 4)) (len := 2) (pc2 := 9) (lv2 := [(5, .int (sf_94 x4)), (0, .ref 45), (1, .int x1), (2, .int x2), (3, .int x3), (4, .int x4)]) (st2 := [.int x4]) (h2 := (sh_rep m.T m.I m.J)) rfl rfl rfl ?_
    exact kk
  refine sh_Lk_cS (r := (some (.int (sh_b2 (sf_114 x4))))) (st2 := [.int (sh_b2 (sf_114 x4))]) (pc2 := 12) (k2 := 114) (as := [.int x4]) (rest := []) rfl rfl (by decide) (Nat.le_of_ble_eq_true rfl) rfl rfl ⟨Nat.le_of_ble_eq_true rfl, Nat.le_of_ble_eq_true rfl⟩ (sl_114 (m := m) rfl ⟨rfl, rfl⟩) rfl rfl (Nat.le_of_ble_eq_true rfl) (Nat.le_of_ble_eq_true rfl) ?_
  refine sh_Lk_lift (T := m.T) (I := m.I) (J := m.J) (s := m.s) (pc2 := 15) (lv2 := [(6, .int (sh_b2 (sf_114 x4))), (5, .int (sf_94 x4)), (0, .ref 45), (1, .int x1), (2, .int x2), (3, .int x3), (4, .int x4)]) (st2 := [.int x1]) (I2 := m.I) (J2 := m.J) (fun hT v kk => ?_) ?_
  · refine sh_w (i := (.istore 6)) (len := 2) (pc2 := 14) (lv2 := [(6, .int (sh_b2 (sf_114 x4))), (5, .int (sf_94 x4)), (0, .ref 45), (1, .int x1), (2, .int x2), (3, .int x3), (4, .int x4)]) (st2 := []) (h2 := (sh_rep m.T m.I m.J)) rfl rfl rfl ?_
    refine sh_w (i := (.iload_n 1)) (len := 1) (pc2 := 15) (lv2 := [(6, .int (sh_b2 (sf_114 x4))), (5, .int (sf_94 x4)), (0, .ref 45), (1, .int x1), (2, .int x2), (3, .int x3), (4, .int x4)]) (st2 := [.int x1]) (h2 := (sh_rep m.T m.I m.J)) rfl rfl rfl ?_
    exact kk
  rcases sh_ite e with ⟨c, e⟩ | ⟨c0, e⟩
  · refine sh_Lk_lift (T := m.T) (I := m.I) (J := m.J) (s := m.s) (pc2 := 157) (lv2 := [(6, .int (sh_b2 (sf_114 x4))), (5, .int (sf_94 x4)), (0, .ref 45), (1, .int x1), (2, .int x2), (3, .int x3), (4, .int x4)]) (st2 := [.int 1, .int x4, .int x3, .int x2, .ref 45]) (I2 := m.I) (J2 := m.J) (fun hT v kk => ?_) ?_
    · refine sh_w (i := (.lookupswitch 253 #[(37, 136), (42, 117), (43, 97), (45, 107), (47, 126), (60, 179), (62, 194), (8509, 166), (15421, 209), (15677, 146), (15933, 231)])) (len := 97) (pc2 := 151) (lv2 := [(6, .int (sh_b2 (sf_114 x4))), (5, .int (sf_94 x4)), (0, .ref 45), (1, .int x1), (2, .int x2), (3, .int x3), (4, .int x4)]) (st2 := []) (h2 := (sh_rep m.T m.I m.J)) rfl rfl (sh_sw c rfl) ?_
      refine sh_w (i := (.aload_n 0)) (len := 1) (pc2 := 152) (lv2 := [(6, .int (sh_b2 (sf_114 x4))), (5, .int (sf_94 x4)), (0, .ref 45), (1, .int x1), (2, .int x2), (3, .int x3), (4, .int x4)]) (st2 := [.ref 45]) (h2 := (sh_rep m.T m.I m.J)) rfl rfl rfl ?_
      refine sh_w (i := (.iload_n 2)) (len := 1) (pc2 := 153) (lv2 := [(6, .int (sh_b2 (sf_114 x4))), (5, .int (sf_94 x4)), (0, .ref 45), (1, .int x1), (2, .int x2), (3, .int x3), (4, .int x4)]) (st2 := [.int x2, .ref 45]) (h2 := (sh_rep m.T m.I m.J)) rfl rfl rfl ?_
      refine sh_w (i := (.iload_n 3)) (len := 1) (pc2 := 154) (lv2 := [(6, .int (sh_b2 (sf_114 x4))), (5, .int (sf_94 x4)), (0, .ref 45), (1, .int x1), (2, .int x2), (3, .int x3), (4, .int x4)]) (st2 := [.int x3, .int x2, .ref 45]) (h2 := (sh_rep m.T m.I m.J)) rfl rfl rfl ?_
      refine sh_w (i := (.iload 4)) (len := 2) (pc2 := 156) (lv2 := [(6, .int (sh_b2 (sf_114 x4))), (5, .int (sf_94 x4)), (0, .ref 45), (1, .int x1), (2, .int x2), (3, .int x3), (4, .int x4)]) (st2 := [.int x4, .int x3, .int x2, .ref 45]) (h2 := (sh_rep m.T m.I m.J)) rfl rfl rfl ?_
      refine sh_w (i := (.iconst 1)) (len := 1) (pc2 := 157) (lv2 := [(6, .int (sh_b2 (sf_114 x4))), (5, .int (sf_94 x4)), (0, .ref 45), (1, .int x1), (2, .int x2), (3, .int x3), (4, .int x4)]) (st2 := [.int 1, .int x4, .int x3, .int x2, .ref 45]) (h2 := (sh_rep m.T m.I m.J)) rfl rfl rfl ?_
      exact kk
    obtain ⟨r3, m13, e3, e⟩ := sh_bn_e e
    refine sh_Lk_cV (r := (some (.int r3))) (st2 := [.int r3]) (pc2 := 160) (k2 := 182) (a := 44) (as := [.ref 45, .int x2, .int x3, .int x4, .int 1]) (rest := []) rfl rfl rfl (fun hT => (sh_s44 hT.st)) rfl rfl ⟨Nat.le_of_ble_eq_true rfl, Nat.le_of_ble_eq_true rfl⟩ (sl_182 e3 ⟨rfl, rfl⟩) rfl rfl (Nat.le_of_ble_eq_true rfl) (Nat.le_of_ble_eq_true rfl) ?_
    obtain rfl := Option.some.inj e
    obtain ⟨rfl, rfl⟩ := tg
    exact sh_Lk_ret (i := .ireturn) rfl rfl rfl (Nat.le_of_ble_eq_true rfl) (Nat.le_of_ble_eq_true rfl)
  rcases sh_ite e with ⟨c, e⟩ | ⟨c1, e⟩
  · refine sh_Lk_lift (T := m.T) (I := m.I) (J := m.J) (s := m.s) (pc2 := 137) (lv2 := [(6, .int (sh_b2 (sf_114 x4))), (5, .int (sf_94 x4)), (0, .ref 45), (1, .int x1), (2, .int x2), (3, .int x3), (4, .int x4)]) (st2 := [.int (sf_94 x4), .int x3, .int x2, .ref 45]) (I2 := m.I) (J2 := m.J) (fun hT v kk => ?_) ?_
    · refine sh_w (i := (.lookupswitch 253 #[(37, 136), (42, 117), (43, 97), (45, 107), (47, 126), (60, 179), (62, 194), (8509, 166), (15421, 209), (15677, 146), (15933, 231)])) (len := 97) (pc2 := 132) (lv2 := [(6, .int (sh_b2 (sf_114 x4))), (5, .int (sf_94 x4)), (0, .ref 45), (1, .int x1), (2, .int x2), (3, .int x3), (4, .int x4)]) (st2 := []) (h2 := (sh_rep m.T m.I m.J)) rfl rfl (sh_sw c rfl) ?_
      refine sh_w (i := (.aload_n 0)) (len := 1) (pc2 := 133) (lv2 := [(6, .int (sh_b2 (sf_114 x4))), (5, .int (sf_94 x4)), (0, .ref 45), (1, .int x1), (2, .int x2), (3, .int x3), (4, .int x4)]) (st2 := [.ref 45]) (h2 := (sh_rep m.T m.I m.J)) rfl rfl rfl ?_
      refine sh_w (i := (.iload_n 2)) (len := 1) (pc2 := 134) (lv2 := [(6, .int (sh_b2 (sf_114 x4))), (5, .int (sf_94 x4)), (0, .ref 45), (1, .int x1), (2, .int x2), (3, .int x3), (4, .int x4)]) (st2 := [.int x2, .ref 45]) (h2 := (sh_rep m.T m.I m.J)) rfl rfl rfl ?_
      refine sh_w (i := (.iload_n 3)) (len := 1) (pc2 := 135) (lv2 := [(6, .int (sh_b2 (sf_114 x4))), (5, .int (sf_94 x4)), (0, .ref 45), (1, .int x1), (2, .int x2), (3, .int x3), (4, .int x4)]) (st2 := [.int x3, .int x2, .ref 45]) (h2 := (sh_rep m.T m.I m.J)) rfl rfl rfl ?_
      refine sh_w (i := (.iload 5)) (len := 2) (pc2 := 137) (lv2 := [(6, .int (sh_b2 (sf_114 x4))), (5, .int (sf_94 x4)), (0, .ref 45), (1, .int x1), (2, .int x2), (3, .int x3), (4, .int x4)]) (st2 := [.int (sf_94 x4), .int x3, .int x2, .ref 45]) (h2 := (sh_rep m.T m.I m.J)) rfl rfl rfl ?_
      exact kk
    obtain ⟨r4, m14, e4, e⟩ := sh_bn_e e
    refine sh_Lk_cV (r := (some (.int r4))) (st2 := [.int r4]) (pc2 := 140) (k2 := 181) (a := 44) (as := [.ref 45, .int x2, .int x3, .int (sf_94 x4)]) (rest := []) rfl rfl rfl (fun hT => (sh_s44 hT.st)) rfl rfl ⟨Nat.le_of_ble_eq_true rfl, Nat.le_of_ble_eq_true rfl⟩ (sl_181 e4 ⟨rfl, rfl⟩) rfl rfl (Nat.le_of_ble_eq_true rfl) (Nat.le_of_ble_eq_true rfl) ?_
    obtain rfl := Option.some.inj e
    obtain ⟨rfl, rfl⟩ := tg
    exact sh_Lk_ret (i := .ireturn) rfl rfl rfl (Nat.le_of_ble_eq_true rfl) (Nat.le_of_ble_eq_true rfl)
  rcases sh_ite e with ⟨c, e⟩ | ⟨c2, e⟩
  · refine sh_Lk_lift (T := m.T) (I := m.I) (J := m.J) (s := m.s) (pc2 := 118) (lv2 := [(6, .int (sh_b2 (sf_114 x4))), (5, .int (sf_94 x4)), (0, .ref 45), (1, .int x1), (2, .int x2), (3, .int x3), (4, .int x4)]) (st2 := [.int 0, .int (sf_94 x4), .int x3, .int x2, .ref 45]) (I2 := m.I) (J2 := m.J) (fun hT v kk => ?_) ?_
    · refine sh_w (i := (.lookupswitch 253 #[(37, 136), (42, 117), (43, 97), (45, 107), (47, 126), (60, 179), (62, 194), (8509, 166), (15421, 209), (15677, 146), (15933, 231)])) (len := 97) (pc2 := 112) (lv2 := [(6, .int (sh_b2 (sf_114 x4))), (5, .int (sf_94 x4)), (0, .ref 45), (1, .int x1), (2, .int x2), (3, .int x3), (4, .int x4)]) (st2 := []) (h2 := (sh_rep m.T m.I m.J)) rfl rfl (sh_sw c rfl) ?_
      refine sh_w (i := (.aload_n 0)) (len := 1) (pc2 := 113) (lv2 := [(6, .int (sh_b2 (sf_114 x4))), (5, .int (sf_94 x4)), (0, .ref 45), (1, .int x1), (2, .int x2), (3, .int x3), (4, .int x4)]) (st2 := [.ref 45]) (h2 := (sh_rep m.T m.I m.J)) rfl rfl rfl ?_
      refine sh_w (i := (.iload_n 2)) (len := 1) (pc2 := 114) (lv2 := [(6, .int (sh_b2 (sf_114 x4))), (5, .int (sf_94 x4)), (0, .ref 45), (1, .int x1), (2, .int x2), (3, .int x3), (4, .int x4)]) (st2 := [.int x2, .ref 45]) (h2 := (sh_rep m.T m.I m.J)) rfl rfl rfl ?_
      refine sh_w (i := (.iload_n 3)) (len := 1) (pc2 := 115) (lv2 := [(6, .int (sh_b2 (sf_114 x4))), (5, .int (sf_94 x4)), (0, .ref 45), (1, .int x1), (2, .int x2), (3, .int x3), (4, .int x4)]) (st2 := [.int x3, .int x2, .ref 45]) (h2 := (sh_rep m.T m.I m.J)) rfl rfl rfl ?_
      refine sh_w (i := (.iload 5)) (len := 2) (pc2 := 117) (lv2 := [(6, .int (sh_b2 (sf_114 x4))), (5, .int (sf_94 x4)), (0, .ref 45), (1, .int x1), (2, .int x2), (3, .int x3), (4, .int x4)]) (st2 := [.int (sf_94 x4), .int x3, .int x2, .ref 45]) (h2 := (sh_rep m.T m.I m.J)) rfl rfl rfl ?_
      refine sh_w (i := (.iconst 0)) (len := 1) (pc2 := 118) (lv2 := [(6, .int (sh_b2 (sf_114 x4))), (5, .int (sf_94 x4)), (0, .ref 45), (1, .int x1), (2, .int x2), (3, .int x3), (4, .int x4)]) (st2 := [.int 0, .int (sf_94 x4), .int x3, .int x2, .ref 45]) (h2 := (sh_rep m.T m.I m.J)) rfl rfl rfl ?_
      exact kk
    obtain ⟨r5, m15, e5, e⟩ := sh_bn_e e
    refine sh_Lk_cV (r := (some (.int r5))) (st2 := [.int r5]) (pc2 := 121) (k2 := 179) (a := 44) (as := [.ref 45, .int x2, .int x3, .int (sf_94 x4), .int 0]) (rest := []) rfl rfl rfl (fun hT => (sh_s44 hT.st)) rfl rfl ⟨Nat.le_of_ble_eq_true rfl, Nat.le_of_ble_eq_true rfl⟩ (sl_179 e5 ⟨rfl, rfl⟩) rfl rfl (Nat.le_of_ble_eq_true rfl) (Nat.le_of_ble_eq_true rfl) ?_
    obtain rfl := Option.some.inj e
    obtain ⟨rfl, rfl⟩ := tg
    exact sh_Lk_ret (i := .ireturn) rfl rfl rfl (Nat.le_of_ble_eq_true rfl) (Nat.le_of_ble_eq_true rfl)
  rcases sh_ite e with ⟨c, e⟩ | ⟨c3, e⟩
  · refine sh_Lk_lift (T := m.T) (I := m.I) (J := m.J) (s := m.s) (pc2 := 128) (lv2 := [(6, .int (sh_b2 (sf_114 x4))), (5, .int (sf_94 x4)), (0, .ref 45), (1, .int x1), (2, .int x2), (3, .int x3), (4, .int x4)]) (st2 := [.int 1, .int (sf_94 x4), .int x3, .int x2, .ref 45]) (I2 := m.I) (J2 := m.J) (fun hT v kk => ?_) ?_
    · refine sh_w (i := (.lookupswitch 253 #[(37, 136), (42, 117), (43, 97), (45, 107), (47, 126), (60, 179), (62, 194), (8509, 166), (15421, 209), (15677, 146), (15933, 231)])) (len := 97) (pc2 := 122) (lv2 := [(6, .int (sh_b2 (sf_114 x4))), (5, .int (sf_94 x4)), (0, .ref 45), (1, .int x1), (2, .int x2), (3, .int x3), (4, .int x4)]) (st2 := []) (h2 := (sh_rep m.T m.I m.J)) rfl rfl (sh_sw c rfl) ?_
      refine sh_w (i := (.aload_n 0)) (len := 1) (pc2 := 123) (lv2 := [(6, .int (sh_b2 (sf_114 x4))), (5, .int (sf_94 x4)), (0, .ref 45), (1, .int x1), (2, .int x2), (3, .int x3), (4, .int x4)]) (st2 := [.ref 45]) (h2 := (sh_rep m.T m.I m.J)) rfl rfl rfl ?_
      refine sh_w (i := (.iload_n 2)) (len := 1) (pc2 := 124) (lv2 := [(6, .int (sh_b2 (sf_114 x4))), (5, .int (sf_94 x4)), (0, .ref 45), (1, .int x1), (2, .int x2), (3, .int x3), (4, .int x4)]) (st2 := [.int x2, .ref 45]) (h2 := (sh_rep m.T m.I m.J)) rfl rfl rfl ?_
      refine sh_w (i := (.iload_n 3)) (len := 1) (pc2 := 125) (lv2 := [(6, .int (sh_b2 (sf_114 x4))), (5, .int (sf_94 x4)), (0, .ref 45), (1, .int x1), (2, .int x2), (3, .int x3), (4, .int x4)]) (st2 := [.int x3, .int x2, .ref 45]) (h2 := (sh_rep m.T m.I m.J)) rfl rfl rfl ?_
      refine sh_w (i := (.iload 5)) (len := 2) (pc2 := 127) (lv2 := [(6, .int (sh_b2 (sf_114 x4))), (5, .int (sf_94 x4)), (0, .ref 45), (1, .int x1), (2, .int x2), (3, .int x3), (4, .int x4)]) (st2 := [.int (sf_94 x4), .int x3, .int x2, .ref 45]) (h2 := (sh_rep m.T m.I m.J)) rfl rfl rfl ?_
      refine sh_w (i := (.iconst 1)) (len := 1) (pc2 := 128) (lv2 := [(6, .int (sh_b2 (sf_114 x4))), (5, .int (sf_94 x4)), (0, .ref 45), (1, .int x1), (2, .int x2), (3, .int x3), (4, .int x4)]) (st2 := [.int 1, .int (sf_94 x4), .int x3, .int x2, .ref 45]) (h2 := (sh_rep m.T m.I m.J)) rfl rfl rfl ?_
      exact kk
    obtain ⟨r6, m16, e6, e⟩ := sh_bn_e e
    refine sh_Lk_cV (r := (some (.int r6))) (st2 := [.int r6]) (pc2 := 131) (k2 := 179) (a := 44) (as := [.ref 45, .int x2, .int x3, .int (sf_94 x4), .int 1]) (rest := []) rfl rfl rfl (fun hT => (sh_s44 hT.st)) rfl rfl ⟨Nat.le_of_ble_eq_true rfl, Nat.le_of_ble_eq_true rfl⟩ (sl_179 e6 ⟨rfl, rfl⟩) rfl rfl (Nat.le_of_ble_eq_true rfl) (Nat.le_of_ble_eq_true rfl) ?_
    obtain rfl := Option.some.inj e
    obtain ⟨rfl, rfl⟩ := tg
    exact sh_Lk_ret (i := .ireturn) rfl rfl rfl (Nat.le_of_ble_eq_true rfl) (Nat.le_of_ble_eq_true rfl)
  rcases sh_ite e with ⟨c, e⟩ | ⟨c4, e⟩
  · refine sh_Lk_lift (T := m.T) (I := m.I) (J := m.J) (s := m.s) (pc2 := 147) (lv2 := [(6, .int (sh_b2 (sf_114 x4))), (5, .int (sf_94 x4)), (0, .ref 45), (1, .int x1), (2, .int x2), (3, .int x3), (4, .int x4)]) (st2 := [.int 0, .int x4, .int x3, .int x2, .ref 45]) (I2 := m.I) (J2 := m.J) (fun hT v kk => ?_) ?_
    · refine sh_w (i := (.lookupswitch 253 #[(37, 136), (42, 117), (43, 97), (45, 107), (47, 126), (60, 179), (62, 194), (8509, 166), (15421, 209), (15677, 146), (15933, 231)])) (len := 97) (pc2 := 141) (lv2 := [(6, .int (sh_b2 (sf_114 x4))), (5, .int (sf_94 x4)), (0, .ref 45), (1, .int x1), (2, .int x2), (3, .int x3), (4, .int x4)]) (st2 := []) (h2 := (sh_rep m.T m.I m.J)) rfl rfl (sh_sw c rfl) ?_
      refine sh_w (i := (.aload_n 0)) (len := 1) (pc2 := 142) (lv2 := [(6, .int (sh_b2 (sf_114 x4))), (5, .int (sf_94 x4)), (0, .ref 45), (1, .int x1), (2, .int x2), (3, .int x3), (4, .int x4)]) (st2 := [.ref 45]) (h2 := (sh_rep m.T m.I m.J)) rfl rfl rfl ?_
      refine sh_w (i := (.iload_n 2)) (len := 1) (pc2 := 143) (lv2 := [(6, .int (sh_b2 (sf_114 x4))), (5, .int (sf_94 x4)), (0, .ref 45), (1, .int x1), (2, .int x2), (3, .int x3), (4, .int x4)]) (st2 := [.int x2, .ref 45]) (h2 := (sh_rep m.T m.I m.J)) rfl rfl rfl ?_
      refine sh_w (i := (.iload_n 3)) (len := 1) (pc2 := 144) (lv2 := [(6, .int (sh_b2 (sf_114 x4))), (5, .int (sf_94 x4)), (0, .ref 45), (1, .int x1), (2, .int x2), (3, .int x3), (4, .int x4)]) (st2 := [.int x3, .int x2, .ref 45]) (h2 := (sh_rep m.T m.I m.J)) rfl rfl rfl ?_
      refine sh_w (i := (.iload 4)) (len := 2) (pc2 := 146) (lv2 := [(6, .int (sh_b2 (sf_114 x4))), (5, .int (sf_94 x4)), (0, .ref 45), (1, .int x1), (2, .int x2), (3, .int x3), (4, .int x4)]) (st2 := [.int x4, .int x3, .int x2, .ref 45]) (h2 := (sh_rep m.T m.I m.J)) rfl rfl rfl ?_
      refine sh_w (i := (.iconst 0)) (len := 1) (pc2 := 147) (lv2 := [(6, .int (sh_b2 (sf_114 x4))), (5, .int (sf_94 x4)), (0, .ref 45), (1, .int x1), (2, .int x2), (3, .int x3), (4, .int x4)]) (st2 := [.int 0, .int x4, .int x3, .int x2, .ref 45]) (h2 := (sh_rep m.T m.I m.J)) rfl rfl rfl ?_
      exact kk
    obtain ⟨r7, m17, e7, e⟩ := sh_bn_e e
    refine sh_Lk_cV (r := (some (.int r7))) (st2 := [.int r7]) (pc2 := 150) (k2 := 182) (a := 44) (as := [.ref 45, .int x2, .int x3, .int x4, .int 0]) (rest := []) rfl rfl rfl (fun hT => (sh_s44 hT.st)) rfl rfl ⟨Nat.le_of_ble_eq_true rfl, Nat.le_of_ble_eq_true rfl⟩ (sl_182 e7 ⟨rfl, rfl⟩) rfl rfl (Nat.le_of_ble_eq_true rfl) (Nat.le_of_ble_eq_true rfl) ?_
    obtain rfl := Option.some.inj e
    obtain ⟨rfl, rfl⟩ := tg
    exact sh_Lk_ret (i := .ireturn) rfl rfl rfl (Nat.le_of_ble_eq_true rfl) (Nat.le_of_ble_eq_true rfl)
  rcases sh_ite e with ⟨c, e⟩ | ⟨c5, e⟩
  · refine sh_Lk_lift (T := m.T) (I := m.I) (J := m.J) (s := m.s) (pc2 := 202) (lv2 := [(6, .int (sh_b2 (sf_114 x4))), (5, .int (sf_94 x4)), (0, .ref 45), (1, .int x1), (2, .int x2), (3, .int x3), (4, .int x4)]) (st2 := [.int (sh_b2 (sf_114 x4)), .int (sf_94 x4), .int x3, .int x2, .ref 45, .ref 45]) (I2 := m.I) (J2 := m.J) (fun hT v kk => ?_) ?_
    · refine sh_w (i := (.lookupswitch 253 #[(37, 136), (42, 117), (43, 97), (45, 107), (47, 126), (60, 179), (62, 194), (8509, 166), (15421, 209), (15677, 146), (15933, 231)])) (len := 97) (pc2 := 194) (lv2 := [(6, .int (sh_b2 (sf_114 x4))), (5, .int (sf_94 x4)), (0, .ref 45), (1, .int x1), (2, .int x2), (3, .int x3), (4, .int x4)]) (st2 := []) (h2 := (sh_rep m.T m.I m.J)) rfl rfl (sh_sw c rfl) ?_
      refine sh_w (i := (.aload_n 0)) (len := 1) (pc2 := 195) (lv2 := [(6, .int (sh_b2 (sf_114 x4))), (5, .int (sf_94 x4)), (0, .ref 45), (1, .int x1), (2, .int x2), (3, .int x3), (4, .int x4)]) (st2 := [.ref 45]) (h2 := (sh_rep m.T m.I m.J)) rfl rfl rfl ?_
      refine sh_w (i := (.aload_n 0)) (len := 1) (pc2 := 196) (lv2 := [(6, .int (sh_b2 (sf_114 x4))), (5, .int (sf_94 x4)), (0, .ref 45), (1, .int x1), (2, .int x2), (3, .int x3), (4, .int x4)]) (st2 := [.ref 45, .ref 45]) (h2 := (sh_rep m.T m.I m.J)) rfl rfl rfl ?_
      refine sh_w (i := (.iload_n 2)) (len := 1) (pc2 := 197) (lv2 := [(6, .int (sh_b2 (sf_114 x4))), (5, .int (sf_94 x4)), (0, .ref 45), (1, .int x1), (2, .int x2), (3, .int x3), (4, .int x4)]) (st2 := [.int x2, .ref 45, .ref 45]) (h2 := (sh_rep m.T m.I m.J)) rfl rfl rfl ?_
      refine sh_w (i := (.iload_n 3)) (len := 1) (pc2 := 198) (lv2 := [(6, .int (sh_b2 (sf_114 x4))), (5, .int (sf_94 x4)), (0, .ref 45), (1, .int x1), (2, .int x2), (3, .int x3), (4, .int x4)]) (st2 := [.int x3, .int x2, .ref 45, .ref 45]) (h2 := (sh_rep m.T m.I m.J)) rfl rfl rfl ?_
      refine sh_w (i := (.iload 5)) (len := 2) (pc2 := 200) (lv2 := [(6, .int (sh_b2 (sf_114 x4))), (5, .int (sf_94 x4)), (0, .ref 45), (1, .int x1), (2, .int x2), (3, .int x3), (4, .int x4)]) (st2 := [.int (sf_94 x4), .int x3, .int x2, .ref 45, .ref 45]) (h2 := (sh_rep m.T m.I m.J)) rfl rfl rfl ?_
      refine sh_w (i := (.iload 6)) (len := 2) (pc2 := 202) (lv2 := [(6, .int (sh_b2 (sf_114 x4))), (5, .int (sf_94 x4)), (0, .ref 45), (1, .int x1), (2, .int x2), (3, .int x3), (4, .int x4)]) (st2 := [.int (sh_b2 (sf_114 x4)), .int (sf_94 x4), .int x3, .int x2, .ref 45, .ref 45]) (h2 := (sh_rep m.T m.I m.J)) rfl rfl rfl ?_
      exact kk
    obtain ⟨r8, m18, e8, e⟩ := sh_bn_e e
    refine sh_Lk_cV (r := (some (.int r8))) (st2 := [.int r8, .ref 45]) (pc2 := 205) (k2 := 189) (a := 44) (as := [.ref 45, .int x2, .int x3, .int (sf_94 x4), .int (sh_b2 (sf_114 x4))]) (rest := [.ref 45]) rfl rfl rfl (fun hT => (sh_s44 hT.st)) rfl rfl ⟨Nat.le_of_ble_eq_true rfl, Nat.le_of_ble_eq_true rfl⟩ (sl_189 e8 ⟨rfl, rfl⟩) rfl rfl (Nat.le_of_ble_eq_true rfl) (Nat.le_of_ble_eq_true rfl) ?_
    obtain ⟨r9, m19, e9, e⟩ := sh_bn_e e
    refine sh_Lk_cV (r := (some (.int r9))) (st2 := [.int r9]) (pc2 := 208) (k2 := 188) (a := 44) (as := [.ref 45, .int r8]) (rest := []) rfl rfl rfl (fun hT => (sh_s44 hT.st)) rfl rfl ⟨Nat.le_of_ble_eq_true rfl, Nat.le_of_ble_eq_true rfl⟩ (sl_188 e9 ⟨rfl, rfl⟩) rfl rfl (Nat.le_of_ble_eq_true rfl) (Nat.le_of_ble_eq_true rfl) ?_
    obtain rfl := Option.some.inj e
    obtain ⟨rfl, rfl⟩ := tg
    exact sh_Lk_ret (i := .ireturn) rfl rfl rfl (Nat.le_of_ble_eq_true rfl) (Nat.le_of_ble_eq_true rfl)
  rcases sh_ite e with ⟨c, e⟩ | ⟨c6, e⟩
  · refine sh_Lk_lift (T := m.T) (I := m.I) (J := m.J) (s := m.s) (pc2 := 217) (lv2 := [(6, .int (sh_b2 (sf_114 x4))), (5, .int (sf_94 x4)), (0, .ref 45), (1, .int x1), (2, .int x2), (3, .int x3), (4, .int x4)]) (st2 := [.int (sh_b2 (sf_114 x4)), .int (sf_94 x4), .int x2, .int x3, .ref 45, .ref 45]) (I2 := m.I) (J2 := m.J) (fun hT v kk => ?_) ?_
    · refine sh_w (i := (.lookupswitch 253 #[(37, 136), (42, 117), (43, 97), (45, 107), (47, 126), (60, 179), (62, 194), (8509, 166), (15421, 209), (15677, 146), (15933, 231)])) (len := 97) (pc2 := 209) (lv2 := [(6, .int (sh_b2 (sf_114 x4))), (5, .int (sf_94 x4)), (0, .ref 45), (1, .int x1), (2, .int x2), (3, .int x3), (4, .int x4)]) (st2 := []) (h2 := (sh_rep m.T m.I m.J)) rfl rfl (sh_sw c rfl) ?_
      refine sh_w (i := (.aload_n 0)) (len := 1) (pc2 := 210) (lv2 := [(6, .int (sh_b2 (sf_114 x4))), (5, .int (sf_94 x4)), (0, .ref 45), (1, .int x1), (2, .int x2), (3, .int x3), (4, .int x4)]) (st2 := [.ref 45]) (h2 := (sh_rep m.T m.I m.J)) rfl rfl rfl ?_
      refine sh_w (i := (.aload_n 0)) (len := 1) (pc2 := 211) (lv2 := [(6, .int (sh_b2 (sf_114 x4))), (5, .int (sf_94 x4)), (0, .ref 45), (1, .int x1), (2, .int x2), (3, .int x3), (4, .int x4)]) (st2 := [.ref 45, .ref 45]) (h2 := (sh_rep m.T m.I m.J)) rfl rfl rfl ?_
      refine sh_w (i := (.iload_n 3)) (len := 1) (pc2 := 212) (lv2 := [(6, .int (sh_b2 (sf_114 x4))), (5, .int (sf_94 x4)), (0, .ref 45), (1, .int x1), (2, .int x2), (3, .int x3), (4, .int x4)]) (st2 := [.int x3, .ref 45, .ref 45]) (h2 := (sh_rep m.T m.I m.J)) rfl rfl rfl ?_
      refine sh_w (i := (.iload_n 2)) (len := 1) (pc2 := 213) (lv2 := [(6, .int (sh_b2 (sf_114 x4))), (5, .int (sf_94 x4)), (0, .ref 45), (1, .int x1), (2, .int x2), (3, .int x3), (4, .int x4)]) (st2 := [.int x2, .int x3, .ref 45, .ref 45]) (h2 := (sh_rep m.T m.I m.J)) rfl rfl rfl ?_
      refine sh_w (i := (.iload 5)) (len := 2) (pc2 := 215) (lv2 := [(6, .int (sh_b2 (sf_114 x4))), (5, .int (sf_94 x4)), (0, .ref 45), (1, .int x1), (2, .int x2), (3, .int x3), (4, .int x4)]) (st2 := [.int (sf_94 x4), .int x2, .int x3, .ref 45, .ref 45]) (h2 := (sh_rep m.T m.I m.J)) rfl rfl rfl ?_
      refine sh_w (i := (.iload 6)) (len := 2) (pc2 := 217) (lv2 := [(6, .int (sh_b2 (sf_114 x4))), (5, .int (sf_94 x4)), (0, .ref 45), (1, .int x1), (2, .int x2), (3, .int x3), (4, .int x4)]) (st2 := [.int (sh_b2 (sf_114 x4)), .int (sf_94 x4), .int x2, .int x3, .ref 45, .ref 45]) (h2 := (sh_rep m.T m.I m.J)) rfl rfl rfl ?_
      exact kk
    obtain ⟨r10, m20, e10, e⟩ := sh_bn_e e
    refine sh_Lk_cV (r := (some (.int r10))) (st2 := [.int r10, .ref 45]) (pc2 := 220) (k2 := 189) (a := 44) (as := [.ref 45, .int x3, .int x2, .int (sf_94 x4), .int (sh_b2 (sf_114 x4))]) (rest := [.ref 45]) rfl rfl rfl (fun hT => (sh_s44 hT.st)) rfl rfl ⟨Nat.le_of_ble_eq_true rfl, Nat.le_of_ble_eq_true rfl⟩ (sl_189 e10 ⟨rfl, rfl⟩) rfl rfl (Nat.le_of_ble_eq_true rfl) (Nat.le_of_ble_eq_true rfl) ?_
    obtain ⟨r11, m21, e11, e⟩ := sh_bn_e e
    refine sh_Lk_cV (r := (some (.int r11))) (st2 := [.int r11]) (pc2 := 223) (k2 := 188) (a := 44) (as := [.ref 45, .int r10]) (rest := []) rfl rfl rfl (fun hT => (sh_s44 hT.st)) rfl rfl ⟨Nat.le_of_ble_eq_true rfl, Nat.le_of_ble_eq_true rfl⟩ (sl_188 e11 ⟨rfl, rfl⟩) rfl rfl (Nat.le_of_ble_eq_true rfl) (Nat.le_of_ble_eq_true rfl) ?_
    obtain rfl := Option.some.inj e
    obtain ⟨rfl, rfl⟩ := tg
    exact sh_Lk_ret (i := .ireturn) rfl rfl rfl (Nat.le_of_ble_eq_true rfl) (Nat.le_of_ble_eq_true rfl)
  rcases sh_ite e with ⟨c, e⟩ | ⟨c7, e⟩
  · refine sh_Lk_lift (T := m.T) (I := m.I) (J := m.J) (s := m.s) (pc2 := 187) (lv2 := [(6, .int (sh_b2 (sf_114 x4))), (5, .int (sf_94 x4)), (0, .ref 45), (1, .int x1), (2, .int x2), (3, .int x3), (4, .int x4)]) (st2 := [.int (sf_94 x4), .int x3, .int x2, .ref 45, .ref 45]) (I2 := m.I) (J2 := m.J) (fun hT v kk => ?_) ?_
    · refine sh_w (i := (.lookupswitch 253 #[(37, 136), (42, 117), (43, 97), (45, 107), (47, 126), (60, 179), (62, 194), (8509, 166), (15421, 209), (15677, 146), (15933, 231)])) (len := 97) (pc2 := 181) (lv2 := [(6, .int (sh_b2 (sf_114 x4))), (5, .int (sf_94 x4)), (0, .ref 45), (1, .int x1), (2, .int x2), (3, .int x3), (4, .int x4)]) (st2 := []) (h2 := (sh_rep m.T m.I m.J)) rfl rfl (sh_sw c rfl) ?_
      refine sh_w (i := (.aload_n 0)) (len := 1) (pc2 := 182) (lv2 := [(6, .int (sh_b2 (sf_114 x4))), (5, .int (sf_94 x4)), (0, .ref 45), (1, .int x1), (2, .int x2), (3, .int x3), (4, .int x4)]) (st2 := [.ref 45]) (h2 := (sh_rep m.T m.I m.J)) rfl rfl rfl ?_
      refine sh_w (i := (.aload_n 0)) (len := 1) (pc2 := 183) (lv2 := [(6, .int (sh_b2 (sf_114 x4))), (5, .int (sf_94 x4)), (0, .ref 45), (1, .int x1), (2, .int x2), (3, .int x3), (4, .int x4)]) (st2 := [.ref 45, .ref 45]) (h2 := (sh_rep m.T m.I m.J)) rfl rfl rfl ?_
      refine sh_w (i := (.iload_n 2)) (len := 1) (pc2 := 184) (lv2 := [(6, .int (sh_b2 (sf_114 x4))), (5, .int (sf_94 x4)), (0, .ref 45), (1, .int x1), (2, .int x2), (3, .int x3), (4, .int x4)]) (st2 := [.int x2, .ref 45, .ref 45]) (h2 := (sh_rep m.T m.I m.J)) rfl rfl rfl ?_
      refine sh_w (i := (.iload_n 3)) (len := 1) (pc2 := 185) (lv2 := [(6, .int (sh_b2 (sf_114 x4))), (5, .int (sf_94 x4)), (0, .ref 45), (1, .int x1), (2, .int x2), (3, .int x3), (4, .int x4)]) (st2 := [.int x3, .int x2, .ref 45, .ref 45]) (h2 := (sh_rep m.T m.I m.J)) rfl rfl rfl ?_
      refine sh_w (i := (.iload 5)) (len := 2) (pc2 := 187) (lv2 := [(6, .int (sh_b2 (sf_114 x4))), (5, .int (sf_94 x4)), (0, .ref 45), (1, .int x1), (2, .int x2), (3, .int x3), (4, .int x4)]) (st2 := [.int (sf_94 x4), .int x3, .int x2, .ref 45, .ref 45]) (h2 := (sh_rep m.T m.I m.J)) rfl rfl rfl ?_
      exact kk
    obtain ⟨r12, m22, e12, e⟩ := sh_bn_e e
    refine sh_Lk_cV (r := (some (.int r12))) (st2 := [.int r12, .ref 45]) (pc2 := 190) (k2 := 187) (a := 44) (as := [.ref 45, .int x2, .int x3, .int (sf_94 x4)]) (rest := [.ref 45]) rfl rfl rfl (fun hT => (sh_s44 hT.st)) rfl rfl ⟨Nat.le_of_ble_eq_true rfl, Nat.le_of_ble_eq_true rfl⟩ (sl_187 e12 ⟨rfl, rfl⟩) rfl rfl (Nat.le_of_ble_eq_true rfl) (Nat.le_of_ble_eq_true rfl) ?_
    obtain ⟨r13, m23, e13, e⟩ := sh_bn_e e
    refine sh_Lk_cV (r := (some (.int r13))) (st2 := [.int r13]) (pc2 := 193) (k2 := 188) (a := 44) (as := [.ref 45, .int r12]) (rest := []) rfl rfl rfl (fun hT => (sh_s44 hT.st)) rfl rfl ⟨Nat.le_of_ble_eq_true rfl, Nat.le_of_ble_eq_true rfl⟩ (sl_188 e13 ⟨rfl, rfl⟩) rfl rfl (Nat.le_of_ble_eq_true rfl) (Nat.le_of_ble_eq_true rfl) ?_
    obtain rfl := Option.some.inj e
    obtain ⟨rfl, rfl⟩ := tg
    exact sh_Lk_ret (i := .ireturn) rfl rfl rfl (Nat.le_of_ble_eq_true rfl) (Nat.le_of_ble_eq_true rfl)
  rcases sh_ite e with ⟨c, e⟩ | ⟨c8, e⟩
  · refine sh_Lk_lift (T := m.T) (I := m.I) (J := m.J) (s := m.s) (pc2 := 236) (lv2 := [(6, .int (sh_b2 (sf_114 x4))), (5, .int (sf_94 x4)), (0, .ref 45), (1, .int x1), (2, .int x2), (3, .int x3), (4, .int x4)]) (st2 := [.int (sh_b2 (sf_114 x4)), .int (sf_94 x4), .int x2, .int x3, .ref 45, .ref 10, .ref 45]) (I2 := m.I) (J2 := m.J) (fun hT v kk => ?_) ?_
    · refine sh_w (i := (.lookupswitch 253 #[(37, 136), (42, 117), (43, 97), (45, 107), (47, 126), (60, 179), (62, 194), (8509, 166), (15421, 209), (15677, 146), (15933, 231)])) (len := 97) (pc2 := 224) (lv2 := [(6, .int (sh_b2 (sf_114 x4))), (5, .int (sf_94 x4)), (0, .ref 45), (1, .int x1), (2, .int x2), (3, .int x3), (4, .int x4)]) (st2 := []) (h2 := (sh_rep m.T m.I m.J)) rfl rfl (sh_sw c rfl) ?_
      refine sh_w (i := (.aload_n 0)) (len := 1) (pc2 := 225) (lv2 := [(6, .int (sh_b2 (sf_114 x4))), (5, .int (sf_94 x4)), (0, .ref 45), (1, .int x1), (2, .int x2), (3, .int x3), (4, .int x4)]) (st2 := [.ref 45]) (h2 := (sh_rep m.T m.I m.J)) rfl rfl rfl ?_
      refine sh_w (i := (.aload_n 0)) (len := 1) (pc2 := 226) (lv2 := [(6, .int (sh_b2 (sf_114 x4))), (5, .int (sf_94 x4)), (0, .ref 45), (1, .int x1), (2, .int x2), (3, .int x3), (4, .int x4)]) (st2 := [.ref 45, .ref 45]) (h2 := (sh_rep m.T m.I m.J)) rfl rfl rfl ?_
      refine sh_gR1 (len := 3) (x := .ref 10) (pc2 := 229) rfl rfl (sh_s44 hT.st) rfl rfl ?_
      refine sh_w (i := (.aload_n 0)) (len := 1) (pc2 := 230) (lv2 := [(6, .int (sh_b2 (sf_114 x4))), (5, .int (sf_94 x4)), (0, .ref 45), (1, .int x1), (2, .int x2), (3, .int x3), (4, .int x4)]) (st2 := [.ref 45, .ref 10, .ref 45]) (h2 := (sh_rep m.T m.I m.J)) rfl rfl rfl ?_
      refine sh_w (i := (.iload_n 3)) (len := 1) (pc2 := 231) (lv2 := [(6, .int (sh_b2 (sf_114 x4))), (5, .int (sf_94 x4)), (0, .ref 45), (1, .int x1), (2, .int x2), (3, .int x3), (4, .int x4)]) (st2 := [.int x3, .ref 45, .ref 10, .ref 45]) (h2 := (sh_rep m.T m.I m.J)) rfl rfl rfl ?_
      refine sh_w (i := (.iload_n 2)) (len := 1) (pc2 := 232) (lv2 := [(6, .int (sh_b2 (sf_114 x4))), (5, .int (sf_94 x4)), (0, .ref 45), (1, .int x1), (2, .int x2), (3, .int x3), (4, .int x4)]) (st2 := [.int x2, .int x3, .ref 45, .ref 10, .ref 45]) (h2 := (sh_rep m.T m.I m.J)) rfl rfl rfl ?_
      refine sh_w (i := (.iload 5)) (len := 2) (pc2 := 234) (lv2 := [(6, .int (sh_b2 (sf_114 x4))), (5, .int (sf_94 x4)), (0, .ref 45), (1, .int x1), (2, .int x2), (3, .int x3), (4, .int x4)]) (st2 := [.int (sf_94 x4), .int x2, .int x3, .ref 45, .ref 10, .ref 45]) (h2 := (sh_rep m.T m.I m.J)) rfl rfl rfl ?_
      refine sh_w (i := (.iload 6)) (len := 2) (pc2 := 236) (lv2 := [(6, .int (sh_b2 (sf_114 x4))), (5, .int (sf_94 x4)), (0, .ref 45), (1, .int x1), (2, .int x2), (3, .int x3), (4, .int x4)]) (st2 := [.int (sh_b2 (sf_114 x4)), .int (sf_94 x4), .int x2, .int x3, .ref 45, .ref 10, .ref 45]) (h2 := (sh_rep m.T m.I m.J)) rfl rfl rfl ?_
      exact kk
    obtain ⟨r14, m24, e14, e⟩ := sh_bn_e e
    refine sh_Lk_cV (r := (some (.int r14))) (st2 := [.int r14, .ref 10, .ref 45]) (pc2 := 239) (k2 := 189) (a := 44) (as := [.ref 45, .int x3, .int x2, .int (sf_94 x4), .int (sh_b2 (sf_114 x4))]) (rest := [.ref 10, .ref 45]) rfl rfl rfl (fun hT => (sh_s44 hT.st)) rfl rfl ⟨Nat.le_of_ble_eq_true rfl, Nat.le_of_ble_eq_true rfl⟩ (sl_189 e14 ⟨rfl, rfl⟩) rfl rfl (Nat.le_of_ble_eq_true rfl) (Nat.le_of_ble_eq_true rfl) ?_
    obtain ⟨r15, m25, e15, e⟩ := sh_bn_e e
    refine sh_Lk_cV (r := (some (.int r15))) (st2 := [.int r15, .ref 45]) (pc2 := 242) (k2 := 141) (a := 9) (as := [.ref 10, .int r14]) (rest := [.ref 45]) rfl rfl rfl (fun hT => hT.t9) rfl rfl ⟨Nat.le_of_ble_eq_true rfl, Nat.le_of_ble_eq_true rfl⟩ (sl_141 e15 ⟨rfl, rfl⟩) rfl rfl (Nat.le_of_ble_eq_true rfl) (Nat.le_of_ble_eq_true rfl) ?_
    obtain ⟨r16, m26, e16, e⟩ := sh_bn_e e
    refine sh_Lk_cV (r := (some (.int r16))) (st2 := [.int r16]) (pc2 := 245) (k2 := 188) (a := 44) (as := [.ref 45, .int r15]) (rest := []) rfl rfl rfl (fun hT => (sh_s44 hT.st)) rfl rfl ⟨Nat.le_of_ble_eq_true rfl, Nat.le_of_ble_eq_true rfl⟩ (sl_188 e16 ⟨rfl, rfl⟩) rfl rfl (Nat.le_of_ble_eq_true rfl) (Nat.le_of_ble_eq_true rfl) ?_
    obtain rfl := Option.some.inj e
    obtain ⟨rfl, rfl⟩ := tg
    exact sh_Lk_ret (i := .ireturn) rfl rfl rfl (Nat.le_of_ble_eq_true rfl) (Nat.le_of_ble_eq_true rfl)
  rcases sh_ite e with ⟨c, e⟩ | ⟨c9, e⟩
  · refine sh_Lk_lift (T := m.T) (I := m.I) (J := m.J) (s := m.s) (pc2 := 171) (lv2 := [(6, .int (sh_b2 (sf_114 x4))), (5, .int (sf_94 x4)), (0, .ref 45), (1, .int x1), (2, .int x2), (3, .int x3), (4, .int x4)]) (st2 := [.int (sf_94 x4), .int x3, .int x2, .ref 45, .ref 10, .ref 45]) (I2 := m.I) (J2 := m.J) (fun hT v kk => ?_) ?_
    · refine sh_w (i := (.lookupswitch 253 #[(37, 136), (42, 117), (43, 97), (45, 107), (47, 126), (60, 179), (62, 194), (8509, 166), (15421, 209), (15677, 146), (15933, 231)])) (len := 97) (pc2 := 161) (lv2 := [(6, .int (sh_b2 (sf_114 x4))), (5, .int (sf_94 x4)), (0, .ref 45), (1, .int x1), (2, .int x2), (3, .int x3), (4, .int x4)]) (st2 := []) (h2 := (sh_rep m.T m.I m.J)) rfl rfl (sh_sw c rfl) ?_
      refine sh_w (i := (.aload_n 0)) (len := 1) (pc2 := 162) (lv2 := [(6, .int (sh_b2 (sf_114 x4))), (5, .int (sf_94 x4)), (0, .ref 45), (1, .int x1), (2, .int x2), (3, .int x3), (4, .int x4)]) (st2 := [.ref 45]) (h2 := (sh_rep m.T m.I m.J)) rfl rfl rfl ?_
      refine sh_w (i := (.aload_n 0)) (len := 1) (pc2 := 163) (lv2 := [(6, .int (sh_b2 (sf_114 x4))), (5, .int (sf_94 x4)), (0, .ref 45), (1, .int x1), (2, .int x2), (3, .int x3), (4, .int x4)]) (st2 := [.ref 45, .ref 45]) (h2 := (sh_rep m.T m.I m.J)) rfl rfl rfl ?_
      refine sh_gR1 (len := 3) (x := .ref 10) (pc2 := 166) rfl rfl (sh_s44 hT.st) rfl rfl ?_
      refine sh_w (i := (.aload_n 0)) (len := 1) (pc2 := 167) (lv2 := [(6, .int (sh_b2 (sf_114 x4))), (5, .int (sf_94 x4)), (0, .ref 45), (1, .int x1), (2, .int x2), (3, .int x3), (4, .int x4)]) (st2 := [.ref 45, .ref 10, .ref 45]) (h2 := (sh_rep m.T m.I m.J)) rfl rfl rfl ?_
      refine sh_w (i := (.iload_n 2)) (len := 1) (pc2 := 168) (lv2 := [(6, .int (sh_b2 (sf_114 x4))), (5, .int (sf_94 x4)), (0, .ref 45), (1, .int x1), (2, .int x2), (3, .int x3), (4, .int x4)]) (st2 := [.int x2, .ref 45, .ref 10, .ref 45]) (h2 := (sh_rep m.T m.I m.J)) rfl rfl rfl ?_
      refine sh_w (i := (.iload_n 3)) (len := 1) (pc2 := 169) (lv2 := [(6, .int (sh_b2 (sf_114 x4))), (5, .int (sf_94 x4)), (0, .ref 45), (1, .int x1), (2, .int x2), (3, .int x3), (4, .int x4)]) (st2 := [.int x3, .int x2, .ref 45, .ref 10, .ref 45]) (h2 := (sh_rep m.T m.I m.J)) rfl rfl rfl ?_
      refine sh_w (i := (.iload 5)) (len := 2) (pc2 := 171) (lv2 := [(6, .int (sh_b2 (sf_114 x4))), (5, .int (sf_94 x4)), (0, .ref 45), (1, .int x1), (2, .int x2), (3, .int x3), (4, .int x4)]) (st2 := [.int (sf_94 x4), .int x3, .int x2, .ref 45, .ref 10, .ref 45]) (h2 := (sh_rep m.T m.I m.J)) rfl rfl rfl ?_
      exact kk
    obtain ⟨r17, m27, e17, e⟩ := sh_bn_e e
    refine sh_Lk_cV (r := (some (.int r17))) (st2 := [.int r17, .ref 10, .ref 45]) (pc2 := 174) (k2 := 187) (a := 44) (as := [.ref 45, .int x2, .int x3, .int (sf_94 x4)]) (rest := [.ref 10, .ref 45]) rfl rfl rfl (fun hT => (sh_s44 hT.st)) rfl rfl ⟨Nat.le_of_ble_eq_true rfl, Nat.le_of_ble_eq_true rfl⟩ (sl_187 e17 ⟨rfl, rfl⟩) rfl rfl (Nat.le_of_ble_eq_true rfl) (Nat.le_of_ble_eq_true rfl) ?_
    obtain ⟨r18, m28, e18, e⟩ := sh_bn_e e
    refine sh_Lk_cV (r := (some (.int r18))) (st2 := [.int r18, .ref 45]) (pc2 := 177) (k2 := 141) (a := 9) (as := [.ref 10, .int r17]) (rest := [.ref 45]) rfl rfl rfl (fun hT => hT.t9) rfl rfl ⟨Nat.le_of_ble_eq_true rfl, Nat.le_of_ble_eq_true rfl⟩ (sl_141 e18 ⟨rfl, rfl⟩) rfl rfl (Nat.le_of_ble_eq_true rfl) (Nat.le_of_ble_eq_true rfl) ?_
    obtain ⟨r19, m29, e19, e⟩ := sh_bn_e e
    refine sh_Lk_cV (r := (some (.int r19))) (st2 := [.int r19]) (pc2 := 180) (k2 := 188) (a := 44) (as := [.ref 45, .int r18]) (rest := []) rfl rfl rfl (fun hT => (sh_s44 hT.st)) rfl rfl ⟨Nat.le_of_ble_eq_true rfl, Nat.le_of_ble_eq_true rfl⟩ (sl_188 e19 ⟨rfl, rfl⟩) rfl rfl (Nat.le_of_ble_eq_true rfl) (Nat.le_of_ble_eq_true rfl) ?_
    obtain rfl := Option.some.inj e
    obtain ⟨rfl, rfl⟩ := tg
    exact sh_Lk_ret (i := .ireturn) rfl rfl rfl (Nat.le_of_ble_eq_true rfl) (Nat.le_of_ble_eq_true rfl)
  rcases sh_ite e with ⟨c, e⟩ | ⟨c10, e⟩
  · refine sh_Lk_lift (T := m.T) (I := m.I) (J := m.J) (s := m.s) (pc2 := 258) (lv2 := [(6, .int (sh_b2 (sf_114 x4))), (5, .int (sf_94 x4)), (0, .ref 45), (1, .int x1), (2, .int x2), (3, .int x3), (4, .int x4)]) (st2 := [.int (sh_b2 (sf_114 x4)), .int (sf_94 x4), .int x3, .int x2, .ref 45, .ref 10, .ref 45]) (I2 := m.I) (J2 := m.J) (fun hT v kk => ?_) ?_
    · refine sh_w (i := (.lookupswitch 253 #[(37, 136), (42, 117), (43, 97), (45, 107), (47, 126), (60, 179), (62, 194), (8509, 166), (15421, 209), (15677, 146), (15933, 231)])) (len := 97) (pc2 := 246) (lv2 := [(6, .int (sh_b2 (sf_114 x4))), (5, .int (sf_94 x4)), (0, .ref 45), (1, .int x1), (2, .int x2), (3, .int x3), (4, .int x4)]) (st2 := []) (h2 := (sh_rep m.T m.I m.J)) rfl rfl (sh_sw c rfl) ?_
      refine sh_w (i := (.aload_n 0)) (len := 1) (pc2 := 247) (lv2 := [(6, .int (sh_b2 (sf_114 x4))), (5, .int (sf_94 x4)), (0, .ref 45), (1, .int x1), (2, .int x2), (3, .int x3), (4, .int x4)]) (st2 := [.ref 45]) (h2 := (sh_rep m.T m.I m.J)) rfl rfl rfl ?_
      refine sh_w (i := (.aload_n 0)) (len := 1) (pc2 := 248) (lv2 := [(6, .int (sh_b2 (sf_114 x4))), (5, .int (sf_94 x4)), (0, .ref 45), (1, .int x1), (2, .int x2), (3, .int x3), (4, .int x4)]) (st2 := [.ref 45, .ref 45]) (h2 := (sh_rep m.T m.I m.J)) rfl rfl rfl ?_
      refine sh_gR1 (len := 3) (x := .ref 10) (pc2 := 251) rfl rfl (sh_s44 hT.st) rfl rfl ?_
      refine sh_w (i := (.aload_n 0)) (len := 1) (pc2 := 252) (lv2 := [(6, .int (sh_b2 (sf_114 x4))), (5, .int (sf_94 x4)), (0, .ref 45), (1, .int x1), (2, .int x2), (3, .int x3), (4, .int x4)]) (st2 := [.ref 45, .ref 10, .ref 45]) (h2 := (sh_rep m.T m.I m.J)) rfl rfl rfl ?_
      refine sh_w (i := (.iload_n 2)) (len := 1) (pc2 := 253) (lv2 := [(6, .int (sh_b2 (sf_114 x4))), (5, .int (sf_94 x4)), (0, .ref 45), (1, .int x1), (2, .int x2), (3, .int x3), (4, .int x4)]) (st2 := [.int x2, .ref 45, .ref 10, .ref 45]) (h2 := (sh_rep m.T m.I m.J)) rfl rfl rfl ?_
      refine sh_w (i := (.iload_n 3)) (len := 1) (pc2 := 254) (lv2 := [(6, .int (sh_b2 (sf_114 x4))), (5, .int (sf_94 x4)), (0, .ref 45), (1, .int x1), (2, .int x2), (3, .int x3), (4, .int x4)]) (st2 := [.int x3, .int x2, .ref 45, .ref 10, .ref 45]) (h2 := (sh_rep m.T m.I m.J)) rfl rfl rfl ?_
      refine sh_w (i := (.iload 5)) (len := 2) (pc2 := 256) (lv2 := [(6, .int (sh_b2 (sf_114 x4))), (5, .int (sf_94 x4)), (0, .ref 45), (1, .int x1), (2, .int x2), (3, .int x3), (4, .int x4)]) (st2 := [.int (sf_94 x4), .int x3, .int x2, .ref 45, .ref 10, .ref 45]) (h2 := (sh_rep m.T m.I m.J)) rfl rfl rfl ?_
      refine sh_w (i := (.iload 6)) (len := 2) (pc2 := 258) (lv2 := [(6, .int (sh_b2 (sf_114 x4))), (5, .int (sf_94 x4)), (0, .ref 45), (1, .int x1), (2, .int x2), (3, .int x3), (4, .int x4)]) (st2 := [.int (sh_b2 (sf_114 x4)), .int (sf_94 x4), .int x3, .int x2, .ref 45, .ref 10, .ref 45]) (h2 := (sh_rep m.T m.I m.J)) rfl rfl rfl ?_
      exact kk
    obtain ⟨r20, m30, e20, e⟩ := sh_bn_e e
    refine sh_Lk_cV (r := (some (.int r20))) (st2 := [.int r20, .ref 10, .ref 45]) (pc2 := 261) (k2 := 189) (a := 44) (as := [.ref 45, .int x2, .int x3, .int (sf_94 x4), .int (sh_b2 (sf_114 x4))]) (rest := [.ref 10, .ref 45]) rfl rfl rfl (fun hT => (sh_s44 hT.st)) rfl rfl ⟨Nat.le_of_ble_eq_true rfl, Nat.le_of_ble_eq_true rfl⟩ (sl_189 e20 ⟨rfl, rfl⟩) rfl rfl (Nat.le_of_ble_eq_true rfl) (Nat.le_of_ble_eq_true rfl) ?_
    obtain ⟨r21, m31, e21, e⟩ := sh_bn_e e
    refine sh_Lk_cV (r := (some (.int r21))) (st2 := [.int r21, .ref 45]) (pc2 := 264) (k2 := 141) (a := 9) (as := [.ref 10, .int r20]) (rest := [.ref 45]) rfl rfl rfl (fun hT => hT.t9) rfl rfl ⟨Nat.le_of_ble_eq_true rfl, Nat.le_of_ble_eq_true rfl⟩ (sl_141 e21 ⟨rfl, rfl⟩) rfl rfl (Nat.le_of_ble_eq_true rfl) (Nat.le_of_ble_eq_true rfl) ?_
    obtain ⟨r22, m32, e22, e⟩ := sh_bn_e e
    refine sh_Lk_cV (r := (some (.int r22))) (st2 := [.int r22]) (pc2 := 267) (k2 := 188) (a := 44) (as := [.ref 45, .int r21]) (rest := []) rfl rfl rfl (fun hT => (sh_s44 hT.st)) rfl rfl ⟨Nat.le_of_ble_eq_true rfl, Nat.le_of_ble_eq_true rfl⟩ (sl_188 e22 ⟨rfl, rfl⟩) rfl rfl (Nat.le_of_ble_eq_true rfl) (Nat.le_of_ble_eq_true rfl) ?_
    obtain rfl := Option.some.inj e
    obtain ⟨rfl, rfl⟩ := tg
    exact sh_Lk_ret (i := .ireturn) rfl rfl rfl (Nat.le_of_ble_eq_true rfl) (Nat.le_of_ble_eq_true rfl)
  refine sh_Lk_lift (T := m.T) (I := m.I) (J := m.J) (s := m.s) (pc2 := 274) (lv2 := [(6, .int (sh_b2 (sf_114 x4))), (5, .int (sf_94 x4)), (0, .ref 45), (1, .int x1), (2, .int x2), (3, .int x3), (4, .int x4)]) (st2 := [.int (sf_94 x4), .int x3, .int x2, .int x1, .ref 45]) (I2 := m.I) (J2 := m.J) (fun hT v kk => ?_) ?_
  · refine sh_w (i := (.lookupswitch 253 #[(37, 136), (42, 117), (43, 97), (45, 107), (47, 126), (60, 179), (62, 194), (8509, 166), (15421, 209), (15677, 146), (15933, 231)])) (len := 97) (pc2 := 268) (lv2 := [(6, .int (sh_b2 (sf_114 x4))), (5, .int (sf_94 x4)), (0, .ref 45), (1, .int x1), (2, .int x2), (3, .int x3), (4, .int x4)]) (st2 := []) (h2 := (sh_rep m.T m.I m.J)) rfl rfl (sh_swl rfl (sh_fc (fun h => c0 (h)) (sh_fc (fun h => c1 (h)) (sh_fc (fun h => c2 (h)) (sh_fc (fun h => c3 (h)) (sh_fc (fun h => c4 (h)) (sh_fc (fun h => c5 (h)) (sh_fc (fun h => c6 (h)) (sh_fc (fun h => c7 (h)) (sh_fc (fun h => c8 (h)) (sh_fc (fun h => c9 (h)) (sh_fc (fun h => c10 (h)) sh_fn))))))))))) rfl) ?_
    refine sh_w (i := (.aload_n 0)) (len := 1) (pc2 := 269) (lv2 := [(6, .int (sh_b2 (sf_114 x4))), (5, .int (sf_94 x4)), (0, .ref 45), (1, .int x1), (2, .int x2), (3, .int x3), (4, .int x4)]) (st2 := [.ref 45]) (h2 := (sh_rep m.T m.I m.J)) rfl rfl rfl ?_
    refine sh_w (i := (.iload_n 1)) (len := 1) (pc2 := 270) (lv2 := [(6, .int (sh_b2 (sf_114 x4))), (5, .int (sf_94 x4)), (0, .ref 45), (1, .int x1), (2, .int x2), (3, .int x3), (4, .int x4)]) (st2 := [.int x1, .ref 45]) (h2 := (sh_rep m.T m.I m.J)) rfl rfl rfl ?_
    refine sh_w (i := (.iload_n 2)) (len := 1) (pc2 := 271) (lv2 := [(6, .int (sh_b2 (sf_114 x4))), (5, .int (sf_94 x4)), (0, .ref 45), (1, .int x1), (2, .int x2), (3, .int x3), (4, .int x4)]) (st2 := [.int x2, .int x1, .ref 45]) (h2 := (sh_rep m.T m.I m.J)) rfl rfl rfl ?_
    refine sh_w (i := (.iload_n 3)) (len := 1) (pc2 := 272) (lv2 := [(6, .int (sh_b2 (sf_114 x4))), (5, .int (sf_94 x4)), (0, .ref 45), (1, .int x1), (2, .int x2), (3, .int x3), (4, .int x4)]) (st2 := [.int x3, .int x2, .int x1, .ref 45]) (h2 := (sh_rep m.T m.I m.J)) rfl rfl rfl ?_
    refine sh_w (i := (.iload 5)) (len := 2) (pc2 := 274) (lv2 := [(6, .int (sh_b2 (sf_114 x4))), (5, .int (sf_94 x4)), (0, .ref 45), (1, .int x1), (2, .int x2), (3, .int x3), (4, .int x4)]) (st2 := [.int (sf_94 x4), .int x3, .int x2, .int x1, .ref 45]) (h2 := (sh_rep m.T m.I m.J)) rfl rfl rfl ?_
    exact kk
  obtain ⟨r23, m33, e23, e⟩ := sh_bn_e e
  refine sh_Lk_cV (r := (some (.int r23))) (st2 := [.int r23]) (pc2 := 277) (k2 := 190) (a := 44) (as := [.ref 45, .int x1, .int x2, .int x3, .int (sf_94 x4)]) (rest := []) rfl rfl rfl (fun hT => (sh_s44 hT.st)) rfl rfl ⟨Nat.le_of_ble_eq_true rfl, Nat.le_of_ble_eq_true rfl⟩ (sl_190 e23 ⟨rfl, rfl⟩) rfl rfl (Nat.le_of_ble_eq_true rfl) (Nat.le_of_ble_eq_true rfl) ?_
  obtain rfl := Option.some.inj e
  obtain ⟨rfl, rfl⟩ := tg
  exact sh_Lk_ret (i := .ireturn) rfl rfl rfl (Nat.le_of_ble_eq_true rfl) (Nat.le_of_ble_eq_true rfl)
theorem sl_191_40 {m m2 : sh_X} {o : Outcome} {z : Bool} (e : sf_191_40 = z) (tg : (sh_tZc m o m2) z) : sh_Lk 191 40 [] [] m o m2 8 200 := by
  unfold sf_191_40 at e
  refine sh_Lk_lift (T := m.T) (I := m.I) (J := m.J) (s := m.s) (pc2 := 45) (lv2 := []) (st2 := [.int 1]) (I2 := m.I) (J2 := m.J) (fun hT v kk => ?_) ?_
  · refine sh_w (i := (.iconst 1)) (len := 1) (pc2 := 41) (lv2 := []) (st2 := [.int 1]) (h2 := (sh_rep m.T m.I m.J)) rfl rfl rfl ?_
    refine sh_w (i := (.goto 4)) (len := 3) (pc2 := 45) (lv2 := []) (st2 := [.int 1]) (h2 := (sh_rep m.T m.I m.J)) rfl rfl rfl ?_
    exact kk
  obtain rfl := e
  obtain ⟨rfl, rfl⟩ := tg
  exact sh_Lk_ret (i := .ireturn) rfl rfl rfl (Nat.le_of_ble_eq_true rfl) (Nat.le_of_ble_eq_true rfl)
theorem sl_191 {x0 : Int32} {m m2 : sh_X} {o : Outcome} {z : Bool} (e : sf_191 x0 = z) (tg : (sh_tZc m o m2) z) : sh_Lk 191 0 [(0, .int x0)] [] m o m2 8 200 := by
  unfold sf_191 at e
  refine sh_Lk_lift (T := m.T) (I := m.I) (J := m.J) (s := m.s) (pc2 := 3) (lv2 := [(0, .int x0)]) (st2 := [.int 60, .int x0]) (I2 := m.I) (J2 := m.J) (fun hT v kk => ?_) ?_
  · refine sh_w (i := (.iload_n 0)) (len := 1) (pc2 := 1) (lv2 := [(0, .int x0)]) (st2 := [.int x0]) (h2 := (sh_rep m.T m.I m.J)) rfl rfl rfl ?_
    refine sh_w (i := (.bipush 60)) (len := 2) (pc2 := 3) (lv2 := [(0, .int x0)]) (st2 := [.int 60, .int x0]) (h2 := (sh_rep m.T m.I m.J)) rfl rfl rfl ?_
    exact kk
  rcases sh_ite e with ⟨c, e⟩ | ⟨c, e⟩
  · refine sh_Lk_lift (T := m.T) (I := m.I) (J := m.J) (s := m.s) (pc2 := 40) (lv2 := [(0, .int x0)]) (st2 := []) (I2 := m.I) (J2 := m.J) (fun hT v kk => ?_) ?_
    · refine sh_jc (c := .eq) (off := (37)) (pc2 := 40) true rfl (sh_Beqt c) rfl ?_
      exact kk
    exact sh_Lk_sub (sh_sub_n) (sl_191_40 e tg)
  · refine sh_Lk_lift (T := m.T) (I := m.I) (J := m.J) (s := m.s) (pc2 := 9) (lv2 := [(0, .int x0)]) (st2 := [.int 62, .int x0]) (I2 := m.I) (J2 := m.J) (fun hT v kk => ?_) ?_
    · refine sh_jc (c := .eq) (off := (37)) (pc2 := 6) false rfl (sh_Beqf c) rfl ?_
      refine sh_w (i := (.iload_n 0)) (len := 1) (pc2 := 7) (lv2 := [(0, .int x0)]) (st2 := [.int x0]) (h2 := (sh_rep m.T m.I m.J)) rfl rfl rfl ?_
      refine sh_w (i := (.bipush 62)) (len := 2) (pc2 := 9) (lv2 := [(0, .int x0)]) (st2 := [.int 62, .int x0]) (h2 := (sh_rep m.T m.I m.J)) rfl rfl rfl ?_
      exact kk
    rcases sh_ite e with ⟨c, e⟩ | ⟨c, e⟩
    · refine sh_Lk_lift (T := m.T) (I := m.I) (J := m.J) (s := m.s) (pc2 := 40) (lv2 := [(0, .int x0)]) (st2 := []) (I2 := m.I) (J2 := m.J) (fun hT v kk => ?_) ?_
      · refine sh_jc (c := .eq) (off := (31)) (pc2 := 40) true rfl (sh_Beqt c) rfl ?_
        exact kk
      exact sh_Lk_sub (sh_sub_n) (sl_191_40 e tg)
    · refine sh_Lk_lift (T := m.T) (I := m.I) (J := m.J) (s := m.s) (pc2 := 16) (lv2 := [(0, .int x0)]) (st2 := [.int 15421, .int x0]) (I2 := m.I) (J2 := m.J) (fun hT v kk => ?_) ?_
      · refine sh_jc (c := .eq) (off := (31)) (pc2 := 12) false rfl (sh_Beqf c) rfl ?_
        refine sh_w (i := (.iload_n 0)) (len := 1) (pc2 := 13) (lv2 := [(0, .int x0)]) (st2 := [.int x0]) (h2 := (sh_rep m.T m.I m.J)) rfl rfl rfl ?_
        refine sh_w (i := (.sipush 15421)) (len := 3) (pc2 := 16) (lv2 := [(0, .int x0)]) (st2 := [.int 15421, .int x0]) (h2 := (sh_rep m.T m.I m.J)) rfl rfl rfl ?_
        exact kk
      rcases sh_ite e with ⟨c, e⟩ | ⟨c, e⟩
      · refine sh_Lk_lift (T := m.T) (I := m.I) (J := m.J) (s := m.s) (pc2 := 40) (lv2 := [(0, .int x0)]) (st2 := []) (I2 := m.I) (J2 := m.J) (fun hT v kk => ?_) ?_
        · refine sh_jc (c := .eq) (off := (24)) (pc2 := 40) true rfl (sh_Beqt c) rfl ?_
          exact kk
        exact sh_Lk_sub (sh_sub_n) (sl_191_40 e tg)
      · refine sh_Lk_lift (T := m.T) (I := m.I) (J := m.J) (s := m.s) (pc2 := 23) (lv2 := [(0, .int x0)]) (st2 := [.int 15933, .int x0]) (I2 := m.I) (J2 := m.J) (fun hT v kk => ?_) ?_
        · refine sh_jc (c := .eq) (off := (24)) (pc2 := 19) false rfl (sh_Beqf c) rfl ?_
          refine sh_w (i := (.iload_n 0)) (len := 1) (pc2 := 20) (lv2 := [(0, .int x0)]) (st2 := [.int x0]) (h2 := (sh_rep m.T m.I m.J)) rfl rfl rfl ?_
          refine sh_w (i := (.sipush 15933)) (len := 3) (pc2 := 23) (lv2 := [(0, .int x0)]) (st2 := [.int 15933, .int x0]) (h2 := (sh_rep m.T m.I m.J)) rfl rfl rfl ?_
          exact kk
        rcases sh_ite e with ⟨c, e⟩ | ⟨c, e⟩
        · refine sh_Lk_lift (T := m.T) (I := m.I) (J := m.J) (s := m.s) (pc2 := 40) (lv2 := [(0, .int x0)]) (st2 := []) (I2 := m.I) (J2 := m.J) (fun hT v kk => ?_) ?_
          · refine sh_jc (c := .eq) (off := (17)) (pc2 := 40) true rfl (sh_Beqt c) rfl ?_
            exact kk
          exact sh_Lk_sub (sh_sub_n) (sl_191_40 e tg)
        · refine sh_Lk_lift (T := m.T) (I := m.I) (J := m.J) (s := m.s) (pc2 := 30) (lv2 := [(0, .int x0)]) (st2 := [.int 15677, .int x0]) (I2 := m.I) (J2 := m.J) (fun hT v kk => ?_) ?_
          · refine sh_jc (c := .eq) (off := (17)) (pc2 := 26) false rfl (sh_Beqf c) rfl ?_
            refine sh_w (i := (.iload_n 0)) (len := 1) (pc2 := 27) (lv2 := [(0, .int x0)]) (st2 := [.int x0]) (h2 := (sh_rep m.T m.I m.J)) rfl rfl rfl ?_
            refine sh_w (i := (.sipush 15677)) (len := 3) (pc2 := 30) (lv2 := [(0, .int x0)]) (st2 := [.int 15677, .int x0]) (h2 := (sh_rep m.T m.I m.J)) rfl rfl rfl ?_
            exact kk
          rcases sh_ite e with ⟨c, e⟩ | ⟨c, e⟩
          · refine sh_Lk_lift (T := m.T) (I := m.I) (J := m.J) (s := m.s) (pc2 := 40) (lv2 := [(0, .int x0)]) (st2 := []) (I2 := m.I) (J2 := m.J) (fun hT v kk => ?_) ?_
            · refine sh_jc (c := .eq) (off := (10)) (pc2 := 40) true rfl (sh_Beqt c) rfl ?_
              exact kk
            exact sh_Lk_sub (sh_sub_n) (sl_191_40 e tg)
          · refine sh_Lk_lift (T := m.T) (I := m.I) (J := m.J) (s := m.s) (pc2 := 37) (lv2 := [(0, .int x0)]) (st2 := [.int 8509, .int x0]) (I2 := m.I) (J2 := m.J) (fun hT v kk => ?_) ?_
            · refine sh_jc (c := .eq) (off := (10)) (pc2 := 33) false rfl (sh_Beqf c) rfl ?_
              refine sh_w (i := (.iload_n 0)) (len := 1) (pc2 := 34) (lv2 := [(0, .int x0)]) (st2 := [.int x0]) (h2 := (sh_rep m.T m.I m.J)) rfl rfl rfl ?_
              refine sh_w (i := (.sipush 8509)) (len := 3) (pc2 := 37) (lv2 := [(0, .int x0)]) (st2 := [.int 8509, .int x0]) (h2 := (sh_rep m.T m.I m.J)) rfl rfl rfl ?_
              exact kk
            rcases sh_ite e with ⟨c, e⟩ | ⟨c, e⟩
            · refine sh_Lk_lift (T := m.T) (I := m.I) (J := m.J) (s := m.s) (pc2 := 40) (lv2 := [(0, .int x0)]) (st2 := []) (I2 := m.I) (J2 := m.J) (fun hT v kk => ?_) ?_
              · refine sh_jc (c := .ne) (off := (7)) (pc2 := 40) false rfl (sh_Bnef c) rfl ?_
                exact kk
              exact sh_Lk_sub (sh_sub_n) (sl_191_40 e tg)
            · refine sh_Lk_lift (T := m.T) (I := m.I) (J := m.J) (s := m.s) (pc2 := 45) (lv2 := [(0, .int x0)]) (st2 := [.int 0]) (I2 := m.I) (J2 := m.J) (fun hT v kk => ?_) ?_
              · refine sh_jc (c := .ne) (off := (7)) (pc2 := 44) true rfl (sh_Bnet c) rfl ?_
                refine sh_w (i := (.iconst 0)) (len := 1) (pc2 := 45) (lv2 := [(0, .int x0)]) (st2 := [.int 0]) (h2 := (sh_rep m.T m.I m.J)) rfl rfl rfl ?_
                exact kk
              obtain rfl := e
              obtain ⟨rfl, rfl⟩ := tg
              exact sh_Lk_ret (i := .ireturn) rfl rfl rfl (Nat.le_of_ble_eq_true rfl) (Nat.le_of_ble_eq_true rfl)
theorem sl_171_37 {y1 : Int32} {y2 : Bool} {m m2 : sh_X} {o : Outcome} {z : (Option Unit × sh_X)} (e : sf_171_37 y1 y2 m = some z) (tg : (sh_tVt o m2) z) : sh_Lk 171 37 [] [.int (sh_b2 y2), .int y1, .ref 42] m o m2 15 413 := by
  unfold sf_171_37 at e
  rcases sh_bt_e e with ⟨m11, e1, rfl⟩ | ⟨r1, m11, e1, e⟩
  · obtain ⟨rfl, rfl⟩ := tg
    exact sh_Lk_tV (k2 := 172) (a := 41) (as := [.ref 42, .int y1, .int (sh_b2 y2)]) (rest := []) rfl rfl rfl (fun hT => (sh_s41 hT.st)) rfl rfl ⟨Nat.le_of_ble_eq_true rfl, Nat.le_of_ble_eq_true rfl⟩ (sl_172 e1 ⟨rfl, rfl⟩) rfl (Nat.le_of_ble_eq_true rfl) (Nat.le_of_ble_eq_true rfl) (Nat.le_of_ble_eq_true rfl) (Nat.le_of_ble_eq_true rfl) rfl
  refine sh_Lk_cV (r := none) (st2 := []) (pc2 := 40) (k2 := 172) (a := 41) (as := [.ref 42, .int y1, .int (sh_b2 y2)]) (rest := []) rfl rfl rfl (fun hT => (sh_s41 hT.st)) rfl rfl ⟨Nat.le_of_ble_eq_true rfl, Nat.le_of_ble_eq_true rfl⟩ (sl_172 e1 ⟨rfl, rfl⟩) rfl rfl (Nat.le_of_ble_eq_true rfl) (Nat.le_of_ble_eq_true rfl) ?_
  obtain rfl := Option.some.inj e
  obtain ⟨rfl, rfl⟩ := tg
  exact sh_Lk_ret (i := .return_) rfl rfl rfl (Nat.le_of_ble_eq_true rfl) (Nat.le_of_ble_eq_true rfl)
theorem sl_171_23 {x1 : Int32} {x2 : Int32} {m m2 : sh_X} {o : Outcome} {z : (Option Unit × sh_X)} (e : sf_171_23 x1 x2 m = some z) (tg : (sh_tVt o m2) z) : sh_Lk 171 23 [(0, .ref 42), (1, .int x1), (2, .int x2)] [] m o m2 15 413 := by
  unfold sf_171_23 at e
  refine sh_Lk_lift (T := m.T) (I := m.I) (J := m.J) (s := m.s) (pc2 := 29) (lv2 := [(0, .ref 42), (1, .int x1), (2, .int x2)]) (st2 := [.int 15420, .int x2, .int x1, .ref 42]) (I2 := m.I) (J2 := m.J) (fun hT v kk => ?_) ?_
  · refine sh_w (i := (.aload_n 0)) (len := 1) (pc2 := 24) (lv2 := [(0, .ref 42), (1, .int x1), (2, .int x2)]) (st2 := [.ref 42]) (h2 := (sh_rep m.T m.I m.J)) rfl rfl rfl ?_
    refine sh_w (i := (.iload_n 1)) (len := 1) (pc2 := 25) (lv2 := [(0, .ref 42), (1, .int x1), (2, .int x2)]) (st2 := [.int x1, .ref 42]) (h2 := (sh_rep m.T m.I m.J)) rfl rfl rfl ?_
    refine sh_w (i := (.iload_n 2)) (len := 1) (pc2 := 26) (lv2 := [(0, .ref 42), (1, .int x1), (2, .int x2)]) (st2 := [.int x2, .int x1, .ref 42]) (h2 := (sh_rep m.T m.I m.J)) rfl rfl rfl ?_
    refine sh_w (i := (.sipush 15420)) (len := 3) (pc2 := 29) (lv2 := [(0, .ref 42), (1, .int x1), (2, .int x2)]) (st2 := [.int 15420, .int x2, .int x1, .ref 42]) (h2 := (sh_rep m.T m.I m.J)) rfl rfl rfl ?_
    exact kk
  rcases sh_ite e with ⟨c, e⟩ | ⟨c, e⟩
  · refine sh_Lk_lift (T := m.T) (I := m.I) (J := m.J) (s := m.s) (pc2 := 37) (lv2 := [(0, .ref 42), (1, .int x1), (2, .int x2)]) (st2 := [.int 1, .int x1, .ref 42]) (I2 := m.I) (J2 := m.J) (fun hT v kk => ?_) ?_
    · refine sh_jc (c := .ne) (off := (7)) (pc2 := 32) false rfl (sh_Bnef c) rfl ?_
      refine sh_w (i := (.iconst 1)) (len := 1) (pc2 := 33) (lv2 := [(0, .ref 42), (1, .int x1), (2, .int x2)]) (st2 := [.int 1, .int x1, .ref 42]) (h2 := (sh_rep m.T m.I m.J)) rfl rfl rfl ?_
      refine sh_w (i := (.goto 4)) (len := 3) (pc2 := 37) (lv2 := [(0, .ref 42), (1, .int x1), (2, .int x2)]) (st2 := [.int 1, .int x1, .ref 42]) (h2 := (sh_rep m.T m.I m.J)) rfl rfl rfl ?_
      exact kk
    exact sh_Lk_sub (sh_sub_n) (sl_171_37 e tg)
  · refine sh_Lk_lift (T := m.T) (I := m.I) (J := m.J) (s := m.s) (pc2 := 37) (lv2 := [(0, .ref 42), (1, .int x1), (2, .int x2)]) (st2 := [.int 0, .int x1, .ref 42]) (I2 := m.I) (J2 := m.J) (fun hT v kk => ?_) ?_
    · refine sh_jc (c := .ne) (off := (7)) (pc2 := 36) true rfl (sh_Bnet c) rfl ?_
      refine sh_w (i := (.iconst 0)) (len := 1) (pc2 := 37) (lv2 := [(0, .ref 42), (1, .int x1), (2, .int x2)]) (st2 := [.int 0, .int x1, .ref 42]) (h2 := (sh_rep m.T m.I m.J)) rfl rfl rfl ?_
      exact kk
    exact sh_Lk_sub (sh_sub_n) (sl_171_37 e tg)
theorem sl_171_226 {x6 : Int32} {y1 : Int32} {y2 : Int32} {m m2 : sh_X} {o : Outcome} {z : (Option Unit × sh_X)} (e : sf_171_226 x6 y1 y2 m = some z) (tg : (sh_tVt o m2) z) : sh_Lk 171 226 [(6, .int x6)] [.int y2, .int y1, .ref 42] m o m2 15 413 := by
  unfold sf_171_226 at e
  refine sh_Lk_lift (T := m.T) (I := m.I) (J := m.J) (s := m.s) (pc2 := 228) (lv2 := [(6, .int x6)]) (st2 := [.int x6, .int y2, .int y1, .ref 42]) (I2 := m.I) (J2 := m.J) (fun hT v kk => ?_) ?_
  · refine sh_w (i := (.iload 6)) (len := 2) (pc2 := 228) (lv2 := [(6, .int x6)]) (st2 := [.int x6, .int y2, .int y1, .ref 42]) (h2 := (sh_rep m.T m.I m.J)) rfl rfl rfl ?_
    exact kk
  obtain ⟨r1, m11, e1, e⟩ := sh_bn_e e
  refine sh_Lk_cV (r := none) (st2 := []) (pc2 := 231) (k2 := 167) (a := 41) (as := [.ref 42, .int y1, .int y2, .int x6]) (rest := []) rfl rfl rfl (fun hT => (sh_s41 hT.st)) rfl rfl ⟨Nat.le_of_ble_eq_true rfl, Nat.le_of_ble_eq_true rfl⟩ (sl_167 e1 ⟨rfl, rfl⟩) rfl rfl (Nat.le_of_ble_eq_true rfl) (Nat.le_of_ble_eq_true rfl) ?_
  obtain rfl := Option.some.inj e
  obtain ⟨rfl, rfl⟩ := tg
  exact sh_Lk_ret (i := .return_) rfl rfl rfl (Nat.le_of_ble_eq_true rfl) (Nat.le_of_ble_eq_true rfl)
theorem sl_171_166 {x1 : Int32} {x2 : Int32} {x3 : Int32} {x4 : Int32} {x5 : Int32} {m m2 : sh_X} {o : Outcome} {z : (Option Unit × sh_X)} (e : sf_171_166 x1 x2 x3 x4 x5 m = some z) (tg : (sh_tVt o m2) z) : sh_Lk 171 166 [(0, .ref 42), (1, .int x1), (2, .int x2), (3, .int x3), (4, .int x4), (5, .int x5)] [] m o m2 15 413 := by
  unfold sf_171_166 at e
  refine sh_Lk_lift (T := m.T) (I := m.I) (J := m.J) (s := m.s) (pc2 := 170) (lv2 := [(0, .ref 42), (1, .int x1), (2, .int x2), (3, .int x3), (4, .int x4), (5, .int x5)]) (st2 := [.int x5, .int x2, .ref 42]) (I2 := m.I) (J2 := m.J) (fun hT v kk => ?_) ?_
  · refine sh_w (i := (.aload_n 0)) (len := 1) (pc2 := 167) (lv2 := [(0, .ref 42), (1, .int x1), (2, .int x2), (3, .int x3), (4, .int x4), (5, .int x5)]) (st2 := [.ref 42]) (h2 := (sh_rep m.T m.I m.J)) rfl rfl rfl ?_
    refine sh_w (i := (.iload_n 2)) (len := 1) (pc2 := 168) (lv2 := [(0, .ref 42), (1, .int x1), (2, .int x2), (3, .int x3), (4, .int x4), (5, .int x5)]) (st2 := [.int x2, .ref 42]) (h2 := (sh_rep m.T m.I m.J)) rfl rfl rfl ?_
    refine sh_w (i := (.iload 5)) (len := 2) (pc2 := 170) (lv2 := [(0, .ref 42), (1, .int x1), (2, .int x2), (3, .int x3), (4, .int x4), (5, .int x5)]) (st2 := [.int x5, .int x2, .ref 42]) (h2 := (sh_rep m.T m.I m.J)) rfl rfl rfl ?_
    exact kk
  refine sh_Lk_cS (r := (some (.int (sf_94 x5)))) (st2 := [.int (sf_94 x5), .int x2, .ref 42]) (pc2 := 173) (k2 := 94) (as := [.int x5]) (rest := [.int x2, .ref 42]) rfl rfl (by decide) (Nat.le_of_ble_eq_true rfl) rfl rfl ⟨Nat.le_of_ble_eq_true rfl, Nat.le_of_ble_eq_true rfl⟩ (sl_94 (m := m) rfl ⟨rfl, rfl⟩) rfl rfl (Nat.le_of_ble_eq_true rfl) (Nat.le_of_ble_eq_true rfl) ?_
  refine sh_Lk_cS (r := (some (.int (sf_177 x2 (sf_94 x5))))) (st2 := [.int (sf_177 x2 (sf_94 x5)), .ref 42]) (pc2 := 176) (k2 := 177) (as := [.int x2, .int (sf_94 x5)]) (rest := [.ref 42]) rfl rfl (by decide) (Nat.le_of_ble_eq_true rfl) rfl rfl ⟨Nat.le_of_ble_eq_true rfl, Nat.le_of_ble_eq_true rfl⟩ (sl_177 (m := m) rfl ⟨rfl, rfl⟩) rfl rfl (Nat.le_of_ble_eq_true rfl) (Nat.le_of_ble_eq_true rfl) ?_
  refine sh_Lk_lift (T := m.T) (I := m.I) (J := m.J) (s := m.s) (pc2 := 177) (lv2 := [(0, .ref 42), (1, .int x1), (2, .int x2), (3, .int x3), (4, .int x4), (5, .int x5)]) (st2 := [.int x1, .int (sf_177 x2 (sf_94 x5)), .ref 42]) (I2 := m.I) (J2 := m.J) (fun hT v kk => ?_) ?_
  · refine sh_w (i := (.iload_n 1)) (len := 1) (pc2 := 177) (lv2 := [(0, .ref 42), (1, .int x1), (2, .int x2), (3, .int x3), (4, .int x4), (5, .int x5)]) (st2 := [.int x1, .int (sf_177 x2 (sf_94 x5)), .ref 42]) (h2 := (sh_rep m.T m.I m.J)) rfl rfl rfl ?_
    exact kk
  rcases sh_bt_e e with ⟨m13, e3, rfl⟩ | ⟨r3, m13, e3, e⟩
  · obtain ⟨rfl, rfl⟩ := tg
    exact sh_Lk_tV (k2 := 90) (a := 41) (as := [.ref 42, .int (sf_177 x2 (sf_94 x5)), .int x1]) (rest := []) rfl rfl rfl (fun hT => (sh_s41 hT.st)) rfl rfl ⟨Nat.le_of_ble_eq_true rfl, Nat.le_of_ble_eq_true rfl⟩ (sl_90 e3 ⟨rfl, rfl⟩) rfl (Nat.le_of_ble_eq_true rfl) (Nat.le_of_ble_eq_true rfl) (Nat.le_of_ble_eq_true rfl) (Nat.le_of_ble_eq_true rfl) rfl
  refine sh_Lk_cV (r := none) (st2 := []) (pc2 := 180) (k2 := 90) (a := 41) (as := [.ref 42, .int (sf_177 x2 (sf_94 x5)), .int x1]) (rest := []) rfl rfl rfl (fun hT => (sh_s41 hT.st)) rfl rfl ⟨Nat.le_of_ble_eq_true rfl, Nat.le_of_ble_eq_true rfl⟩ (sl_90 e3 ⟨rfl, rfl⟩) rfl rfl (Nat.le_of_ble_eq_true rfl) (Nat.le_of_ble_eq_true rfl) ?_
  refine sh_Lk_lift (T := m13.T) (I := m13.I) (J := m13.J) (s := m13.s) (pc2 := 190) (lv2 := [(0, .ref 42), (1, .int x1), (2, .int x2), (3, .int x3), (4, .int x4), (5, .int x5)]) (st2 := [.int x3, .ref 49, .int x2, .ref 45]) (I2 := m13.I) (J2 := m13.J) (fun hT v kk => ?_) ?_
  · refine sh_w (i := (.aload_n 0)) (len := 1) (pc2 := 181) (lv2 := [(0, .ref 42), (1, .int x1), (2, .int x2), (3, .int x3), (4, .int x4), (5, .int x5)]) (st2 := [.ref 42]) (h2 := (sh_rep m13.T m13.I m13.J)) rfl rfl rfl ?_
    refine sh_gR1 (len := 3) (x := .ref 45) (pc2 := 184) rfl rfl (sh_s41 hT.st) rfl rfl ?_
    refine sh_w (i := (.iload_n 2)) (len := 1) (pc2 := 185) (lv2 := [(0, .ref 42), (1, .int x1), (2, .int x2), (3, .int x3), (4, .int x4), (5, .int x5)]) (st2 := [.int x2, .ref 45]) (h2 := (sh_rep m13.T m13.I m13.J)) rfl rfl rfl ?_
    refine sh_w (i := (.aload_n 0)) (len := 1) (pc2 := 186) (lv2 := [(0, .ref 42), (1, .int x1), (2, .int x2), (3, .int x3), (4, .int x4), (5, .int x5)]) (st2 := [.ref 42, .int x2, .ref 45]) (h2 := (sh_rep m13.T m13.I m13.J)) rfl rfl rfl ?_
    refine sh_gR1 (len := 3) (x := .ref 49) (pc2 := 189) rfl rfl (sh_s41 hT.st) rfl rfl ?_
    refine sh_w (i := (.iload_n 3)) (len := 1) (pc2 := 190) (lv2 := [(0, .ref 42), (1, .int x1), (2, .int x2), (3, .int x3), (4, .int x4), (5, .int x5)]) (st2 := [.int x3, .ref 49, .int x2, .ref 45]) (h2 := (sh_rep m13.T m13.I m13.J)) rfl rfl rfl ?_
    exact kk
  obtain ⟨r4, e4, e⟩ := sh_bc_e e
  refine sh_Lk_cV (r := (some (.int r4))) (st2 := [.int r4, .int x2, .ref 45]) (pc2 := 193) (k2 := 117) (a := 48) (as := [.ref 49, .int x3]) (rest := [.int x2, .ref 45]) rfl rfl rfl (fun hT => (sh_s48 hT.st)) rfl rfl ⟨Nat.le_of_ble_eq_true rfl, Nat.le_of_ble_eq_true rfl⟩ (sl_117 e4 ⟨rfl, rfl⟩) rfl rfl (Nat.le_of_ble_eq_true rfl) (Nat.le_of_ble_eq_true rfl) ?_
  refine sh_Lk_lift (T := m13.T) (I := m13.I) (J := m13.J) (s := m13.s) (pc2 := 199) (lv2 := [(0, .ref 42), (1, .int x1), (2, .int x2), (3, .int x3), (4, .int x4), (5, .int x5)]) (st2 := [.int x4, .ref 49, .int r4, .int x2, .ref 45]) (I2 := m13.I) (J2 := m13.J) (fun hT v kk => ?_) ?_
  · refine sh_w (i := (.aload_n 0)) (len := 1) (pc2 := 194) (lv2 := [(0, .ref 42), (1, .int x1), (2, .int x2), (3, .int x3), (4, .int x4), (5, .int x5)]) (st2 := [.ref 42, .int r4, .int x2, .ref 45]) (h2 := (sh_rep m13.T m13.I m13.J)) rfl rfl rfl ?_
    refine sh_gR1 (len := 3) (x := .ref 49) (pc2 := 197) rfl rfl (sh_s41 hT.st) rfl rfl ?_
    refine sh_w (i := (.iload 4)) (len := 2) (pc2 := 199) (lv2 := [(0, .ref 42), (1, .int x1), (2, .int x2), (3, .int x3), (4, .int x4), (5, .int x5)]) (st2 := [.int x4, .ref 49, .int r4, .int x2, .ref 45]) (h2 := (sh_rep m13.T m13.I m13.J)) rfl rfl rfl ?_
    exact kk
  obtain ⟨r5, e5, e⟩ := sh_bc_e e
  refine sh_Lk_cV (r := (some (.int r5))) (st2 := [.int r5, .int r4, .int x2, .ref 45]) (pc2 := 202) (k2 := 117) (a := 48) (as := [.ref 49, .int x4]) (rest := [.int r4, .int x2, .ref 45]) rfl rfl rfl (fun hT => (sh_s48 hT.st)) rfl rfl ⟨Nat.le_of_ble_eq_true rfl, Nat.le_of_ble_eq_true rfl⟩ (sl_117 e5 ⟨rfl, rfl⟩) rfl rfl (Nat.le_of_ble_eq_true rfl) (Nat.le_of_ble_eq_true rfl) ?_
  refine sh_Lk_lift (T := m13.T) (I := m13.I) (J := m13.J) (s := m13.s) (pc2 := 204) (lv2 := [(0, .ref 42), (1, .int x1), (2, .int x2), (3, .int x3), (4, .int x4), (5, .int x5)]) (st2 := [.int x5, .int r5, .int r4, .int x2, .ref 45]) (I2 := m13.I) (J2 := m13.J) (fun hT v kk => ?_) ?_
  · refine sh_w (i := (.iload 5)) (len := 2) (pc2 := 204) (lv2 := [(0, .ref 42), (1, .int x1), (2, .int x2), (3, .int x3), (4, .int x4), (5, .int x5)]) (st2 := [.int x5, .int r5, .int r4, .int x2, .ref 45]) (h2 := (sh_rep m13.T m13.I m13.J)) rfl rfl rfl ?_
    exact kk
  obtain ⟨r6, m16, e6, e⟩ := sh_bn_e e
  refine sh_Lk_cV (r := (some (.int r6))) (st2 := [.int r6]) (pc2 := 207) (k2 := 178) (a := 44) (as := [.ref 45, .int x2, .int r4, .int r5, .int x5]) (rest := []) rfl rfl rfl (fun hT => (sh_s44 hT.st)) rfl rfl ⟨Nat.le_of_ble_eq_true rfl, Nat.le_of_ble_eq_true rfl⟩ (sl_178 e6 ⟨rfl, rfl⟩) rfl rfl (Nat.le_of_ble_eq_true rfl) (Nat.le_of_ble_eq_true rfl) ?_
  refine sh_Lk_lift (T := m16.T) (I := m16.I) (J := m16.J) (s := m16.s) (pc2 := 212) (lv2 := [(6, .int r6), (0, .ref 42), (1, .int x1), (2, .int x2), (3, .int x3), (4, .int x4), (5, .int x5)]) (st2 := [.int x2, .int 2, .ref 42]) (I2 := m16.I) (J2 := m16.J) (fun hT v kk => ?_) ?_
  · refine sh_w (i := (.istore 6)) (len := 2) (pc2 := 209) (lv2 := [(6, .int r6), (0, .ref 42), (1, .int x1), (2, .int x2), (3, .int x3), (4, .int x4), (5, .int x5)]) (st2 := []) (h2 := (sh_rep m16.T m16.I m16.J)) rfl rfl rfl ?_
    refine sh_w (i := (.aload_n 0)) (len := 1) (pc2 := 210) (lv2 := [(6, .int r6), (0, .ref 42), (1, .int x1), (2, .int x2), (3, .int x3), (4, .int x4), (5, .int x5)]) (st2 := [.ref 42]) (h2 := (sh_rep m16.T m16.I m16.J)) rfl rfl rfl ?_
    refine sh_w (i := (.iconst 2)) (len := 1) (pc2 := 211) (lv2 := [(6, .int r6), (0, .ref 42), (1, .int x1), (2, .int x2), (3, .int x3), (4, .int x4), (5, .int x5)]) (st2 := [.int 2, .ref 42]) (h2 := (sh_rep m16.T m16.I m16.J)) rfl rfl rfl ?_
    refine sh_w (i := (.iload_n 2)) (len := 1) (pc2 := 212) (lv2 := [(6, .int r6), (0, .ref 42), (1, .int x1), (2, .int x2), (3, .int x3), (4, .int x4), (5, .int x5)]) (st2 := [.int x2, .int 2, .ref 42]) (h2 := (sh_rep m16.T m16.I m16.J)) rfl rfl rfl ?_
    exact kk
  refine sh_Lk_cS (r := (some (.int (sh_b2 (sf_191 x2))))) (st2 := [.int (sh_b2 (sf_191 x2)), .int 2, .ref 42]) (pc2 := 215) (k2 := 191) (as := [.int x2]) (rest := [.int 2, .ref 42]) rfl rfl (by decide) (Nat.le_of_ble_eq_true rfl) rfl rfl ⟨Nat.le_of_ble_eq_true rfl, Nat.le_of_ble_eq_true rfl⟩ (sl_191 (m := m16) rfl ⟨rfl, rfl⟩) rfl rfl (Nat.le_of_ble_eq_true rfl) (Nat.le_of_ble_eq_true rfl) ?_
  rcases sh_ite e with ⟨c, e⟩ | ⟨c, e⟩
  · refine sh_Lk_lift (T := m16.T) (I := m16.I) (J := m16.J) (s := m16.s) (pc2 := 226) (lv2 := [(6, .int r6), (0, .ref 42), (1, .int x1), (2, .int x2), (3, .int x3), (4, .int x4), (5, .int x5)]) (st2 := [.int 257, .int 2, .ref 42]) (I2 := m16.I) (J2 := m16.J) (fun hT v kk => ?_) ?_
    · refine sh_j0 (c := .eq) (off := (9)) (pc2 := 218) false rfl (sh_Zeqf c) rfl ?_
      refine sh_w (i := (.sipush 257)) (len := 3) (pc2 := 221) (lv2 := [(6, .int r6), (0, .ref 42), (1, .int x1), (2, .int x2), (3, .int x3), (4, .int x4), (5, .int x5)]) (st2 := [.int 257, .int 2, .ref 42]) (h2 := (sh_rep m16.T m16.I m16.J)) rfl rfl rfl ?_
      refine sh_w (i := (.goto 5)) (len := 3) (pc2 := 226) (lv2 := [(6, .int r6), (0, .ref 42), (1, .int x1), (2, .int x2), (3, .int x3), (4, .int x4), (5, .int x5)]) (st2 := [.int 257, .int 2, .ref 42]) (h2 := (sh_rep m16.T m16.I m16.J)) rfl rfl rfl ?_
      exact kk
    exact sh_Lk_sub (sh_sub_c rfl (sh_sub_n)) (sl_171_226 e tg)
  · refine sh_Lk_lift (T := m16.T) (I := m16.I) (J := m16.J) (s := m16.s) (pc2 := 226) (lv2 := [(6, .int r6), (0, .ref 42), (1, .int x1), (2, .int x2), (3, .int x3), (4, .int x4), (5, .int x5)]) (st2 := [.int x5, .int 2, .ref 42]) (I2 := m16.I) (J2 := m16.J) (fun hT v kk => ?_) ?_
    · refine sh_j0 (c := .eq) (off := (9)) (pc2 := 224) true rfl (sh_Zeqt c) rfl ?_
      refine sh_w (i := (.iload 5)) (len := 2) (pc2 := 226) (lv2 := [(6, .int r6), (0, .ref 42), (1, .int x1), (2, .int x2), (3, .int x3), (4, .int x4), (5, .int x5)]) (st2 := [.int x5, .int 2, .ref 42]) (h2 := (sh_rep m16.T m16.I m16.J)) rfl rfl rfl ?_
      exact kk
    exact sh_Lk_sub (sh_sub_c rfl (sh_sub_n)) (sl_171_226 e tg)
theorem sl_171_157 {x1 : Int32} {x2 : Int32} {x3 : Int32} {x4 : Int32} {x5 : Int32} {m m2 : sh_X} {o : Outcome} {z : (Option Unit × sh_X)} (e : sf_171_157 x1 x2 x3 x4 x5 m = some z) (tg : (sh_tVt o m2) z) : sh_Lk 171 157 [(0, .ref 42), (1, .int x1), (2, .int x2), (3, .int x3), (4, .int x4), (5, .int x5)] [] m o m2 15 413 := by
  unfold sf_171_157 at e
  refine sh_Lk_lift (T := m.T) (I := m.I) (J := m.J) (s := m.s) (pc2 := 163) (lv2 := [(0, .ref 42), (1, .int x1), (2, .int x2), (3, .int x3), (4, .int x4), (5, .int x5)]) (st2 := [.int x1, .int 4, .ref 3]) (I2 := m.I) (J2 := m.J) (fun hT v kk => ?_) ?_
  · refine sh_w (i := (.aload_n 0)) (len := 1) (pc2 := 158) (lv2 := [(0, .ref 42), (1, .int x1), (2, .int x2), (3, .int x3), (4, .int x4), (5, .int x5)]) (st2 := [.ref 42]) (h2 := (sh_rep m.T m.I m.J)) rfl rfl rfl ?_
    refine sh_gR1 (len := 3) (x := .ref 3) (pc2 := 161) rfl rfl (sh_s41 hT.st) rfl rfl ?_
    refine sh_w (i := (.iconst 4)) (len := 1) (pc2 := 162) (lv2 := [(0, .ref 42), (1, .int x1), (2, .int x2), (3, .int x3), (4, .int x4), (5, .int x5)]) (st2 := [.int 4, .ref 3]) (h2 := (sh_rep m.T m.I m.J)) rfl rfl rfl ?_
    refine sh_w (i := (.iload_n 1)) (len := 1) (pc2 := 163) (lv2 := [(0, .ref 42), (1, .int x1), (2, .int x2), (3, .int x3), (4, .int x4), (5, .int x5)]) (st2 := [.int x1, .int 4, .ref 3]) (h2 := (sh_rep m.T m.I m.J)) rfl rfl rfl ?_
    exact kk
  rcases sh_bt_e e with ⟨m11, e1, rfl⟩ | ⟨r1, m11, e1, e⟩
  · obtain ⟨rfl, rfl⟩ := tg
    exact sh_Lk_tV (k2 := 50) (a := 2) (as := [.ref 3, .int 4, .int x1]) (rest := []) rfl rfl rfl (fun hT => hT.t2) rfl rfl ⟨Nat.le_of_ble_eq_true rfl, Nat.le_of_ble_eq_true rfl⟩ (sl_50 e1 ⟨rfl, rfl⟩) rfl (Nat.le_of_ble_eq_true rfl) (Nat.le_of_ble_eq_true rfl) (Nat.le_of_ble_eq_true rfl) (Nat.le_of_ble_eq_true rfl) rfl
  refine sh_Lk_cV (r := none) (st2 := []) (pc2 := 166) (k2 := 50) (a := 2) (as := [.ref 3, .int 4, .int x1]) (rest := []) rfl rfl rfl (fun hT => hT.t2) rfl rfl ⟨Nat.le_of_ble_eq_true rfl, Nat.le_of_ble_eq_true rfl⟩ (sl_50 e1 ⟨rfl, rfl⟩) rfl rfl (Nat.le_of_ble_eq_true rfl) (Nat.le_of_ble_eq_true rfl) ?_
  exact sh_Lk_sub (sh_sub_c rfl (sh_sub_c rfl (sh_sub_c rfl (sh_sub_c rfl (sh_sub_c rfl (sh_sub_c rfl (sh_sub_n))))))) (sl_171_166 e tg)
theorem sl_171_111 {x1 : Int32} {x2 : Int32} {x3 : Int32} {x4 : Int32} {y0 : Int32} {m m2 : sh_X} {o : Outcome} {z : (Option Unit × sh_X)} (e : sf_171_111 x1 x2 x3 x4 y0 m = some z) (tg : (sh_tVt o m2) z) : sh_Lk 171 111 [(0, .ref 42), (1, .int x1), (2, .int x2), (3, .int x3), (4, .int x4)] [.int y0] m o m2 15 413 := by
  unfold sf_171_111 at e
  refine sh_Lk_lift (T := m.T) (I := m.I) (J := m.J) (s := m.s) (pc2 := 117) (lv2 := [(5, .int y0), (0, .ref 42), (1, .int x1), (2, .int x2), (3, .int x3), (4, .int x4)]) (st2 := [.int y0, .int x3, .ref 42]) (I2 := m.I) (J2 := m.J) (fun hT v kk => ?_) ?_
  · refine sh_w (i := (.istore 5)) (len := 2) (pc2 := 113) (lv2 := [(5, .int y0), (0, .ref 42), (1, .int x1), (2, .int x2), (3, .int x3), (4, .int x4)]) (st2 := []) (h2 := (sh_rep m.T m.I m.J)) rfl rfl rfl ?_
    refine sh_w (i := (.aload_n 0)) (len := 1) (pc2 := 114) (lv2 := [(5, .int y0), (0, .ref 42), (1, .int x1), (2, .int x2), (3, .int x3), (4, .int x4)]) (st2 := [.ref 42]) (h2 := (sh_rep m.T m.I m.J)) rfl rfl rfl ?_
    refine sh_w (i := (.iload_n 3)) (len := 1) (pc2 := 115) (lv2 := [(5, .int y0), (0, .ref 42), (1, .int x1), (2, .int x2), (3, .int x3), (4, .int x4)]) (st2 := [.int x3, .ref 42]) (h2 := (sh_rep m.T m.I m.J)) rfl rfl rfl ?_
    refine sh_w (i := (.iload 5)) (len := 2) (pc2 := 117) (lv2 := [(5, .int y0), (0, .ref 42), (1, .int x1), (2, .int x2), (3, .int x3), (4, .int x4)]) (st2 := [.int y0, .int x3, .ref 42]) (h2 := (sh_rep m.T m.I m.J)) rfl rfl rfl ?_
    exact kk
  rcases sh_bt_e e with ⟨m11, e1, rfl⟩ | ⟨r1, m11, e1, e⟩
  · obtain ⟨rfl, rfl⟩ := tg
    exact sh_Lk_tV (k2 := 107) (a := 41) (as := [.ref 42, .int x3, .int y0]) (rest := []) rfl rfl rfl (fun hT => (sh_s41 hT.st)) rfl rfl ⟨Nat.le_of_ble_eq_true rfl, Nat.le_of_ble_eq_true rfl⟩ (sl_107 e1 ⟨rfl, rfl⟩) rfl (Nat.le_of_ble_eq_true rfl) (Nat.le_of_ble_eq_true rfl) (Nat.le_of_ble_eq_true rfl) (Nat.le_of_ble_eq_true rfl) rfl
  refine sh_Lk_cV (r := none) (st2 := []) (pc2 := 120) (k2 := 107) (a := 41) (as := [.ref 42, .int x3, .int y0]) (rest := []) rfl rfl rfl (fun hT => (sh_s41 hT.st)) rfl rfl ⟨Nat.le_of_ble_eq_true rfl, Nat.le_of_ble_eq_true rfl⟩ (sl_107 e1 ⟨rfl, rfl⟩) rfl rfl (Nat.le_of_ble_eq_true rfl) (Nat.le_of_ble_eq_true rfl) ?_
  refine sh_Lk_lift (T := m11.T) (I := m11.I) (J := m11.J) (s := m11.s) (pc2 := 125) (lv2 := [(5, .int y0), (0, .ref 42), (1, .int x1), (2, .int x2), (3, .int x3), (4, .int x4)]) (st2 := [.int y0, .int x4, .ref 42]) (I2 := m11.I) (J2 := m11.J) (fun hT v kk => ?_) ?_
  · refine sh_w (i := (.aload_n 0)) (len := 1) (pc2 := 121) (lv2 := [(5, .int y0), (0, .ref 42), (1, .int x1), (2, .int x2), (3, .int x3), (4, .int x4)]) (st2 := [.ref 42]) (h2 := (sh_rep m11.T m11.I m11.J)) rfl rfl rfl ?_
    refine sh_w (i := (.iload 4)) (len := 2) (pc2 := 123) (lv2 := [(5, .int y0), (0, .ref 42), (1, .int x1), (2, .int x2), (3, .int x3), (4, .int x4)]) (st2 := [.int x4, .ref 42]) (h2 := (sh_rep m11.T m11.I m11.J)) rfl rfl rfl ?_
    refine sh_w (i := (.iload 5)) (len := 2) (pc2 := 125) (lv2 := [(5, .int y0), (0, .ref 42), (1, .int x1), (2, .int x2), (3, .int x3), (4, .int x4)]) (st2 := [.int y0, .int x4, .ref 42]) (h2 := (sh_rep m11.T m11.I m11.J)) rfl rfl rfl ?_
    exact kk
  rcases sh_bt_e e with ⟨m12, e2, rfl⟩ | ⟨r2, m12, e2, e⟩
  · obtain ⟨rfl, rfl⟩ := tg
    exact sh_Lk_tV (k2 := 107) (a := 41) (as := [.ref 42, .int x4, .int y0]) (rest := []) rfl rfl rfl (fun hT => (sh_s41 hT.st)) rfl rfl ⟨Nat.le_of_ble_eq_true rfl, Nat.le_of_ble_eq_true rfl⟩ (sl_107 e2 ⟨rfl, rfl⟩) rfl (Nat.le_of_ble_eq_true rfl) (Nat.le_of_ble_eq_true rfl) (Nat.le_of_ble_eq_true rfl) (Nat.le_of_ble_eq_true rfl) rfl
  refine sh_Lk_cV (r := none) (st2 := []) (pc2 := 128) (k2 := 107) (a := 41) (as := [.ref 42, .int x4, .int y0]) (rest := []) rfl rfl rfl (fun hT => (sh_s41 hT.st)) rfl rfl ⟨Nat.le_of_ble_eq_true rfl, Nat.le_of_ble_eq_true rfl⟩ (sl_107 e2 ⟨rfl, rfl⟩) rfl rfl (Nat.le_of_ble_eq_true rfl) (Nat.le_of_ble_eq_true rfl) ?_
  refine sh_Lk_lift (T := m12.T) (I := m12.I) (J := m12.J) (s := m12.s) (pc2 := 133) (lv2 := [(5, .int y0), (0, .ref 42), (1, .int x1), (2, .int x2), (3, .int x3), (4, .int x4)]) (st2 := [.int x3, .ref 49]) (I2 := m12.I) (J2 := m12.J) (fun hT v kk => ?_) ?_
  · refine sh_w (i := (.aload_n 0)) (len := 1) (pc2 := 129) (lv2 := [(5, .int y0), (0, .ref 42), (1, .int x1), (2, .int x2), (3, .int x3), (4, .int x4)]) (st2 := [.ref 42]) (h2 := (sh_rep m12.T m12.I m12.J)) rfl rfl rfl ?_
    refine sh_gR1 (len := 3) (x := .ref 49) (pc2 := 132) rfl rfl (sh_s41 hT.st) rfl rfl ?_
    refine sh_w (i := (.iload_n 3)) (len := 1) (pc2 := 133) (lv2 := [(5, .int y0), (0, .ref 42), (1, .int x1), (2, .int x2), (3, .int x3), (4, .int x4)]) (st2 := [.int x3, .ref 49]) (h2 := (sh_rep m12.T m12.I m12.J)) rfl rfl rfl ?_
    exact kk
  obtain ⟨r3, e3, e⟩ := sh_bc_e e
  refine sh_Lk_cV (r := (some (.int r3))) (st2 := [.int r3]) (pc2 := 136) (k2 := 108) (a := 48) (as := [.ref 49, .int x3]) (rest := []) rfl rfl rfl (fun hT => (sh_s48 hT.st)) rfl rfl ⟨Nat.le_of_ble_eq_true rfl, Nat.le_of_ble_eq_true rfl⟩ (sl_108 e3 ⟨rfl, rfl⟩) rfl rfl (Nat.le_of_ble_eq_true rfl) (Nat.le_of_ble_eq_true rfl) ?_
  refine sh_Lk_lift (T := m12.T) (I := m12.I) (J := m12.J) (s := m12.s) (pc2 := 142) (lv2 := [(5, .int y0), (0, .ref 42), (1, .int x1), (2, .int x2), (3, .int x3), (4, .int x4)]) (st2 := [.int x4, .ref 49, .int r3]) (I2 := m12.I) (J2 := m12.J) (fun hT v kk => ?_) ?_
  · refine sh_w (i := (.aload_n 0)) (len := 1) (pc2 := 137) (lv2 := [(5, .int y0), (0, .ref 42), (1, .int x1), (2, .int x2), (3, .int x3), (4, .int x4)]) (st2 := [.ref 42, .int r3]) (h2 := (sh_rep m12.T m12.I m12.J)) rfl rfl rfl ?_
    refine sh_gR1 (len := 3) (x := .ref 49) (pc2 := 140) rfl rfl (sh_s41 hT.st) rfl rfl ?_
    refine sh_w (i := (.iload 4)) (len := 2) (pc2 := 142) (lv2 := [(5, .int y0), (0, .ref 42), (1, .int x1), (2, .int x2), (3, .int x3), (4, .int x4)]) (st2 := [.int x4, .ref 49, .int r3]) (h2 := (sh_rep m12.T m12.I m12.J)) rfl rfl rfl ?_
    exact kk
  obtain ⟨r4, e4, e⟩ := sh_bc_e e
  refine sh_Lk_cV (r := (some (.int r4))) (st2 := [.int r4, .int r3]) (pc2 := 145) (k2 := 108) (a := 48) (as := [.ref 49, .int x4]) (rest := [.int r3]) rfl rfl rfl (fun hT => (sh_s48 hT.st)) rfl rfl ⟨Nat.le_of_ble_eq_true rfl, Nat.le_of_ble_eq_true rfl⟩ (sl_108 e4 ⟨rfl, rfl⟩) rfl rfl (Nat.le_of_ble_eq_true rfl) (Nat.le_of_ble_eq_true rfl) ?_
  rcases sh_ite e with ⟨c, e⟩ | ⟨c, e⟩
  · refine sh_Lk_lift (T := m12.T) (I := m12.I) (J := m12.J) (s := m12.s) (pc2 := 151) (lv2 := [(5, .int y0), (0, .ref 42), (1, .int x1), (2, .int x2), (3, .int x3), (4, .int x4)]) (st2 := [.int y0, .int x2]) (I2 := m12.I) (J2 := m12.J) (fun hT v kk => ?_) ?_
    · refine sh_jc (c := .ne) (off := (12)) (pc2 := 148) false rfl (sh_Bnef c) rfl ?_
      refine sh_w (i := (.iload_n 2)) (len := 1) (pc2 := 149) (lv2 := [(5, .int y0), (0, .ref 42), (1, .int x1), (2, .int x2), (3, .int x3), (4, .int x4)]) (st2 := [.int x2]) (h2 := (sh_rep m12.T m12.I m12.J)) rfl rfl rfl ?_
      refine sh_w (i := (.iload 5)) (len := 2) (pc2 := 151) (lv2 := [(5, .int y0), (0, .ref 42), (1, .int x1), (2, .int x2), (3, .int x3), (4, .int x4)]) (st2 := [.int y0, .int x2]) (h2 := (sh_rep m12.T m12.I m12.J)) rfl rfl rfl ?_
      exact kk
    refine sh_Lk_cS (r := (some (.int (sh_b2 (sf_176 x2 y0))))) (st2 := [.int (sh_b2 (sf_176 x2 y0))]) (pc2 := 154) (k2 := 176) (as := [.int x2, .int y0]) (rest := []) rfl rfl (by decide) (Nat.le_of_ble_eq_true rfl) rfl rfl ⟨Nat.le_of_ble_eq_true rfl, Nat.le_of_ble_eq_true rfl⟩ (sl_176 (m := m12) rfl ⟨rfl, rfl⟩) rfl rfl (Nat.le_of_ble_eq_true rfl) (Nat.le_of_ble_eq_true rfl) ?_
    rcases sh_ite e with ⟨c, e⟩ | ⟨c, e⟩
    · refine sh_Lk_lift (T := m12.T) (I := m12.I) (J := m12.J) (s := m12.s) (pc2 := 166) (lv2 := [(5, .int y0), (0, .ref 42), (1, .int x1), (2, .int x2), (3, .int x3), (4, .int x4)]) (st2 := []) (I2 := m12.I) (J2 := m12.J) (fun hT v kk => ?_) ?_
      · refine sh_j0 (c := .ne) (off := (12)) (pc2 := 166) true rfl (sh_Znet c) rfl ?_
        exact kk
      exact sh_Lk_sub (sh_sub_c rfl (sh_sub_c rfl (sh_sub_c rfl (sh_sub_c rfl (sh_sub_c rfl (sh_sub_c rfl (sh_sub_n))))))) (sl_171_166 e tg)
    · refine sh_Lk_lift (T := m12.T) (I := m12.I) (J := m12.J) (s := m12.s) (pc2 := 157) (lv2 := [(5, .int y0), (0, .ref 42), (1, .int x1), (2, .int x2), (3, .int x3), (4, .int x4)]) (st2 := []) (I2 := m12.I) (J2 := m12.J) (fun hT v kk => ?_) ?_
      · refine sh_j0 (c := .ne) (off := (12)) (pc2 := 157) false rfl (sh_Znef c) rfl ?_
        exact kk
      exact sh_Lk_sub (sh_sub_c rfl (sh_sub_c rfl (sh_sub_c rfl (sh_sub_c rfl (sh_sub_c rfl (sh_sub_c rfl (sh_sub_n))))))) (sl_171_157 e tg)
  · refine sh_Lk_lift (T := m12.T) (I := m12.I) (J := m12.J) (s := m12.s) (pc2 := 157) (lv2 := [(5, .int y0), (0, .ref 42), (1, .int x1), (2, .int x2), (3, .int x3), (4, .int x4)]) (st2 := []) (I2 := m12.I) (J2 := m12.J) (fun hT v kk => ?_) ?_
    · refine sh_jc (c := .ne) (off := (12)) (pc2 := 157) true rfl (sh_Bnet c) rfl ?_
      exact kk
    exact sh_Lk_sub (sh_sub_c rfl (sh_sub_c rfl (sh_sub_c rfl (sh_sub_c rfl (sh_sub_c rfl (sh_sub_c rfl (sh_sub_n))))))) (sl_171_157 e tg)
theorem sl_171 {x1 : Int32} {m m2 : sh_X} {o : Outcome} {z : (Option Unit × sh_X)} (e : sf_171 x1 m = some z) (tg : (sh_tVt o m2) z) : sh_Lk 171 0 [(0, .ref 42), (1, .int x1)] [] m o m2 15 413 := by
  unfold sf_171 at e
  refine sh_Lk_lift (T := m.T) (I := m.I) (J := m.J) (s := m.s) (pc2 := 5) (lv2 := [(0, .ref 42), (1, .int x1)]) (st2 := [.int x1, .ref 3]) (I2 := m.I) (J2 := m.J) (fun hT v kk => ?_) ?_
  · refine sh_w (i := (.aload_n 0)) (len := 1) (pc2 := 1) (lv2 := [(0, .ref 42), (1, .int x1)]) (st2 := [.ref 42]) (h2 := (sh_rep m.T m.I m.J)) rfl rfl rfl ?_
    refine sh_gR1 (len := 3) (x := .ref 3) (pc2 := 4) rfl rfl (sh_s41 hT.st) rfl rfl ?_
    refine sh_w (i := (.iload_n 1)) (len := 1) (pc2 := 5) (lv2 := [(0, .ref 42), (1, .int x1)]) (st2 := [.int x1, .ref 3]) (h2 := (sh_rep m.T m.I m.J)) rfl rfl rfl ?_
    exact kk
  obtain ⟨r1, e1, e⟩ := sh_bc_e e
  refine sh_Lk_cV (r := (some (.int r1))) (st2 := [.int r1]) (pc2 := 8) (k2 := 46) (a := 2) (as := [.ref 3, .int x1]) (rest := []) rfl rfl rfl (fun hT => hT.t2) rfl rfl ⟨Nat.le_of_ble_eq_true rfl, Nat.le_of_ble_eq_true rfl⟩ (sl_46 e1 ⟨rfl, rfl⟩) rfl rfl (Nat.le_of_ble_eq_true rfl) (Nat.le_of_ble_eq_true rfl) ?_
  refine sh_Lk_lift (T := m.T) (I := m.I) (J := m.J) (s := m.s) (pc2 := 13) (lv2 := [(2, .int r1), (0, .ref 42), (1, .int x1)]) (st2 := [.int 15420, .int r1]) (I2 := m.I) (J2 := m.J) (fun hT v kk => ?_) ?_
  · refine sh_w (i := (.istore_n 2)) (len := 1) (pc2 := 9) (lv2 := [(2, .int r1), (0, .ref 42), (1, .int x1)]) (st2 := []) (h2 := (sh_rep m.T m.I m.J)) rfl rfl rfl ?_
    refine sh_w (i := (.iload_n 2)) (len := 1) (pc2 := 10) (lv2 := [(2, .int r1), (0, .ref 42), (1, .int x1)]) (st2 := [.int r1]) (h2 := (sh_rep m.T m.I m.J)) rfl rfl rfl ?_
    refine sh_w (i := (.sipush 15420)) (len := 3) (pc2 := 13) (lv2 := [(2, .int r1), (0, .ref 42), (1, .int x1)]) (st2 := [.int 15420, .int r1]) (h2 := (sh_rep m.T m.I m.J)) rfl rfl rfl ?_
    exact kk
  rcases sh_ite e with ⟨c, e⟩ | ⟨c, e⟩
  · refine sh_Lk_lift (T := m.T) (I := m.I) (J := m.J) (s := m.s) (pc2 := 23) (lv2 := [(2, .int r1), (0, .ref 42), (1, .int x1)]) (st2 := []) (I2 := m.I) (J2 := m.J) (fun hT v kk => ?_) ?_
    · refine sh_jc (c := .eq) (off := (10)) (pc2 := 23) true rfl (sh_Beqt c) rfl ?_
      exact kk
    exact sh_Lk_sub (sh_sub_c rfl (sh_sub_c rfl (sh_sub_c rfl (sh_sub_n)))) (sl_171_23 e tg)
  · refine sh_Lk_lift (T := m.T) (I := m.I) (J := m.J) (s := m.s) (pc2 := 20) (lv2 := [(2, .int r1), (0, .ref 42), (1, .int x1)]) (st2 := [.int 15934, .int r1]) (I2 := m.I) (J2 := m.J) (fun hT v kk => ?_) ?_
    · refine sh_jc (c := .eq) (off := (10)) (pc2 := 16) false rfl (sh_Beqf c) rfl ?_
      refine sh_w (i := (.iload_n 2)) (len := 1) (pc2 := 17) (lv2 := [(2, .int r1), (0, .ref 42), (1, .int x1)]) (st2 := [.int r1]) (h2 := (sh_rep m.T m.I m.J)) rfl rfl rfl ?_
      refine sh_w (i := (.sipush 15934)) (len := 3) (pc2 := 20) (lv2 := [(2, .int r1), (0, .ref 42), (1, .int x1)]) (st2 := [.int 15934, .int r1]) (h2 := (sh_rep m.T m.I m.J)) rfl rfl rfl ?_
      exact kk
    rcases sh_ite e with ⟨c, e⟩ | ⟨c, e⟩
    · refine sh_Lk_lift (T := m.T) (I := m.I) (J := m.J) (s := m.s) (pc2 := 23) (lv2 := [(2, .int r1), (0, .ref 42), (1, .int x1)]) (st2 := []) (I2 := m.I) (J2 := m.J) (fun hT v kk => ?_) ?_
      · refine sh_jc (c := .ne) (off := (21)) (pc2 := 23) false rfl (sh_Bnef c) rfl ?_
        exact kk
      exact sh_Lk_sub (sh_sub_c rfl (sh_sub_c rfl (sh_sub_c rfl (sh_sub_n)))) (sl_171_23 e tg)
    · refine sh_Lk_lift (T := m.T) (I := m.I) (J := m.J) (s := m.s) (pc2 := 67) (lv2 := [(4, .int ((m.I 48 4) - 1)), (3, .int ((m.I 48 4) - 2)), (2, .int r1), (0, .ref 42), (1, .int x1)]) (st2 := [.int ((m.I 48 4) - 2), .ref 49]) (I2 := m.I) (J2 := m.J) (fun hT v kk => ?_) ?_
      · refine sh_jc (c := .ne) (off := (21)) (pc2 := 41) true rfl (sh_Bnet c) rfl ?_
        refine sh_w (i := (.aload_n 0)) (len := 1) (pc2 := 42) (lv2 := [(2, .int r1), (0, .ref 42), (1, .int x1)]) (st2 := [.ref 42]) (h2 := (sh_rep m.T m.I m.J)) rfl rfl rfl ?_
        refine sh_gR1 (len := 3) (x := .ref 49) (pc2 := 45) rfl rfl (sh_s41 hT.st) rfl rfl ?_
        refine sh_gI1 (len := 3) (x := m.I 48 4) (pc2 := 48) rfl rfl (sh_s48 hT.st) rfl rfl rfl ?_
        refine sh_w (i := (.iconst 2)) (len := 1) (pc2 := 49) (lv2 := [(2, .int r1), (0, .ref 42), (1, .int x1)]) (st2 := [.int 2, .int (m.I 48 4)]) (h2 := (sh_rep m.T m.I m.J)) rfl rfl rfl ?_
        refine sh_w (i := .isub) (len := 1) (pc2 := 50) (lv2 := [(2, .int r1), (0, .ref 42), (1, .int x1)]) (st2 := [.int ((m.I 48 4) - 2)]) (h2 := (sh_rep m.T m.I m.J)) rfl rfl rfl ?_
        refine sh_w (i := (.istore_n 3)) (len := 1) (pc2 := 51) (lv2 := [(3, .int ((m.I 48 4) - 2)), (2, .int r1), (0, .ref 42), (1, .int x1)]) (st2 := []) (h2 := (sh_rep m.T m.I m.J)) rfl rfl rfl ?_
        refine sh_w (i := (.aload_n 0)) (len := 1) (pc2 := 52) (lv2 := [(3, .int ((m.I 48 4) - 2)), (2, .int r1), (0, .ref 42), (1, .int x1)]) (st2 := [.ref 42]) (h2 := (sh_rep m.T m.I m.J)) rfl rfl rfl ?_
        refine sh_gR1 (len := 3) (x := .ref 49) (pc2 := 55) rfl rfl (sh_s41 hT.st) rfl rfl ?_
        refine sh_gI1 (len := 3) (x := m.I 48 4) (pc2 := 58) rfl rfl (sh_s48 hT.st) rfl rfl rfl ?_
        refine sh_w (i := (.iconst 1)) (len := 1) (pc2 := 59) (lv2 := [(3, .int ((m.I 48 4) - 2)), (2, .int r1), (0, .ref 42), (1, .int x1)]) (st2 := [.int 1, .int (m.I 48 4)]) (h2 := (sh_rep m.T m.I m.J)) rfl rfl rfl ?_
        refine sh_w (i := .isub) (len := 1) (pc2 := 60) (lv2 := [(3, .int ((m.I 48 4) - 2)), (2, .int r1), (0, .ref 42), (1, .int x1)]) (st2 := [.int ((m.I 48 4) - 1)]) (h2 := (sh_rep m.T m.I m.J)) rfl rfl rfl ?_
        refine sh_w (i := (.istore 4)) (len := 2) (pc2 := 62) (lv2 := [(4, .int ((m.I 48 4) - 1)), (3, .int ((m.I 48 4) - 2)), (2, .int r1), (0, .ref 42), (1, .int x1)]) (st2 := []) (h2 := (sh_rep m.T m.I m.J)) rfl rfl rfl ?_
        refine sh_w (i := (.aload_n 0)) (len := 1) (pc2 := 63) (lv2 := [(4, .int ((m.I 48 4) - 1)), (3, .int ((m.I 48 4) - 2)), (2, .int r1), (0, .ref 42), (1, .int x1)]) (st2 := [.ref 42]) (h2 := (sh_rep m.T m.I m.J)) rfl rfl rfl ?_
        refine sh_gR1 (len := 3) (x := .ref 49) (pc2 := 66) rfl rfl (sh_s41 hT.st) rfl rfl ?_
        refine sh_w (i := (.iload_n 3)) (len := 1) (pc2 := 67) (lv2 := [(4, .int ((m.I 48 4) - 1)), (3, .int ((m.I 48 4) - 2)), (2, .int r1), (0, .ref 42), (1, .int x1)]) (st2 := [.int ((m.I 48 4) - 2), .ref 49]) (h2 := (sh_rep m.T m.I m.J)) rfl rfl rfl ?_
        exact kk
      obtain ⟨r2, e2, e⟩ := sh_bc_e e
      refine sh_Lk_cV (r := (some (.int r2))) (st2 := [.int r2]) (pc2 := 70) (k2 := 108) (a := 48) (as := [.ref 49, .int ((m.I 48 4) - 2)]) (rest := []) rfl rfl rfl (fun hT => (sh_s48 hT.st)) rfl rfl ⟨Nat.le_of_ble_eq_true rfl, Nat.le_of_ble_eq_true rfl⟩ (sl_108 e2 ⟨rfl, rfl⟩) rfl rfl (Nat.le_of_ble_eq_true rfl) (Nat.le_of_ble_eq_true rfl) ?_
      rcases sh_ite e with ⟨c, e⟩ | ⟨c, e⟩
      · refine sh_Lk_lift (T := m.T) (I := m.I) (J := m.J) (s := m.s) (pc2 := 90) (lv2 := [(4, .int ((m.I 48 4) - 1)), (3, .int ((m.I 48 4) - 2)), (2, .int r1), (0, .ref 42), (1, .int x1)]) (st2 := [.int ((m.I 48 4) - 1), .ref 49]) (I2 := m.I) (J2 := m.J) (fun hT v kk => ?_) ?_
        · refine sh_j0 (c := .eq) (off := (14)) (pc2 := 84) true rfl (sh_Beqt c) rfl ?_
          refine sh_w (i := (.aload_n 0)) (len := 1) (pc2 := 85) (lv2 := [(4, .int ((m.I 48 4) - 1)), (3, .int ((m.I 48 4) - 2)), (2, .int r1), (0, .ref 42), (1, .int x1)]) (st2 := [.ref 42]) (h2 := (sh_rep m.T m.I m.J)) rfl rfl rfl ?_
          refine sh_gR1 (len := 3) (x := .ref 49) (pc2 := 88) rfl rfl (sh_s41 hT.st) rfl rfl ?_
          refine sh_w (i := (.iload 4)) (len := 2) (pc2 := 90) (lv2 := [(4, .int ((m.I 48 4) - 1)), (3, .int ((m.I 48 4) - 2)), (2, .int r1), (0, .ref 42), (1, .int x1)]) (st2 := [.int ((m.I 48 4) - 1), .ref 49]) (h2 := (sh_rep m.T m.I m.J)) rfl rfl rfl ?_
          exact kk
        obtain ⟨r3, e3, e⟩ := sh_bc_e e
        refine sh_Lk_cV (r := (some (.int r3))) (st2 := [.int r3]) (pc2 := 93) (k2 := 108) (a := 48) (as := [.ref 49, .int ((m.I 48 4) - 1)]) (rest := []) rfl rfl rfl (fun hT => (sh_s48 hT.st)) rfl rfl ⟨Nat.le_of_ble_eq_true rfl, Nat.le_of_ble_eq_true rfl⟩ (sl_108 e3 ⟨rfl, rfl⟩) rfl rfl (Nat.le_of_ble_eq_true rfl) (Nat.le_of_ble_eq_true rfl) ?_
        rcases sh_ite e with ⟨c, e⟩ | ⟨c, e⟩
        · refine sh_Lk_lift (T := m.T) (I := m.I) (J := m.J) (s := m.s) (pc2 := 111) (lv2 := [(4, .int ((m.I 48 4) - 1)), (3, .int ((m.I 48 4) - 2)), (2, .int r1), (0, .ref 42), (1, .int x1)]) (st2 := [.int 160]) (I2 := m.I) (J2 := m.J) (fun hT v kk => ?_) ?_
          · refine sh_j0 (c := .eq) (off := (15)) (pc2 := 108) true rfl (sh_Beqt c) rfl ?_
            refine sh_w (i := (.sipush 160)) (len := 3) (pc2 := 111) (lv2 := [(4, .int ((m.I 48 4) - 1)), (3, .int ((m.I 48 4) - 2)), (2, .int r1), (0, .ref 42), (1, .int x1)]) (st2 := [.int 160]) (h2 := (sh_rep m.T m.I m.J)) rfl rfl rfl ?_
            exact kk
          exact sh_Lk_sub (sh_sub_c rfl (sh_sub_c rfl (sh_sub_c rfl (sh_sub_c rfl (sh_sub_c rfl (sh_sub_n)))))) (sl_171_111 e tg)
        · refine sh_Lk_lift (T := m.T) (I := m.I) (J := m.J) (s := m.s) (pc2 := 102) (lv2 := [(4, .int ((m.I 48 4) - 1)), (3, .int ((m.I 48 4) - 2)), (2, .int r1), (0, .ref 42), (1, .int x1)]) (st2 := [.int ((m.I 48 4) - 1), .ref 49]) (I2 := m.I) (J2 := m.J) (fun hT v kk => ?_) ?_
          · refine sh_j0 (c := .eq) (off := (15)) (pc2 := 96) false rfl (sh_Beqf c) rfl ?_
            refine sh_w (i := (.aload_n 0)) (len := 1) (pc2 := 97) (lv2 := [(4, .int ((m.I 48 4) - 1)), (3, .int ((m.I 48 4) - 2)), (2, .int r1), (0, .ref 42), (1, .int x1)]) (st2 := [.ref 42]) (h2 := (sh_rep m.T m.I m.J)) rfl rfl rfl ?_
            refine sh_gR1 (len := 3) (x := .ref 49) (pc2 := 100) rfl rfl (sh_s41 hT.st) rfl rfl ?_
            refine sh_w (i := (.iload 4)) (len := 2) (pc2 := 102) (lv2 := [(4, .int ((m.I 48 4) - 1)), (3, .int ((m.I 48 4) - 2)), (2, .int r1), (0, .ref 42), (1, .int x1)]) (st2 := [.int ((m.I 48 4) - 1), .ref 49]) (h2 := (sh_rep m.T m.I m.J)) rfl rfl rfl ?_
            exact kk
          obtain ⟨r4, e4, e⟩ := sh_bc_e e
          refine sh_Lk_cV (r := (some (.int r4))) (st2 := [.int r4]) (pc2 := 105) (k2 := 108) (a := 48) (as := [.ref 49, .int ((m.I 48 4) - 1)]) (rest := []) rfl rfl rfl (fun hT => (sh_s48 hT.st)) rfl rfl ⟨Nat.le_of_ble_eq_true rfl, Nat.le_of_ble_eq_true rfl⟩ (sl_108 e4 ⟨rfl, rfl⟩) rfl rfl (Nat.le_of_ble_eq_true rfl) (Nat.le_of_ble_eq_true rfl) ?_
          refine sh_Lk_lift (T := m.T) (I := m.I) (J := m.J) (s := m.s) (pc2 := 111) (lv2 := [(4, .int ((m.I 48 4) - 1)), (3, .int ((m.I 48 4) - 2)), (2, .int r1), (0, .ref 42), (1, .int x1)]) (st2 := [.int r4]) (I2 := m.I) (J2 := m.J) (fun hT v kk => ?_) ?_
          · refine sh_w (i := (.goto 6)) (len := 3) (pc2 := 111) (lv2 := [(4, .int ((m.I 48 4) - 1)), (3, .int ((m.I 48 4) - 2)), (2, .int r1), (0, .ref 42), (1, .int x1)]) (st2 := [.int r4]) (h2 := (sh_rep m.T m.I m.J)) rfl rfl rfl ?_
            exact kk
          exact sh_Lk_sub (sh_sub_c rfl (sh_sub_c rfl (sh_sub_c rfl (sh_sub_c rfl (sh_sub_c rfl (sh_sub_n)))))) (sl_171_111 e tg)
      · refine sh_Lk_lift (T := m.T) (I := m.I) (J := m.J) (s := m.s) (pc2 := 78) (lv2 := [(4, .int ((m.I 48 4) - 1)), (3, .int ((m.I 48 4) - 2)), (2, .int r1), (0, .ref 42), (1, .int x1)]) (st2 := [.int ((m.I 48 4) - 2), .ref 49]) (I2 := m.I) (J2 := m.J) (fun hT v kk => ?_) ?_
        · refine sh_j0 (c := .eq) (off := (14)) (pc2 := 73) false rfl (sh_Beqf c) rfl ?_
          refine sh_w (i := (.aload_n 0)) (len := 1) (pc2 := 74) (lv2 := [(4, .int ((m.I 48 4) - 1)), (3, .int ((m.I 48 4) - 2)), (2, .int r1), (0, .ref 42), (1, .int x1)]) (st2 := [.ref 42]) (h2 := (sh_rep m.T m.I m.J)) rfl rfl rfl ?_
          refine sh_gR1 (len := 3) (x := .ref 49) (pc2 := 77) rfl rfl (sh_s41 hT.st) rfl rfl ?_
          refine sh_w (i := (.iload_n 3)) (len := 1) (pc2 := 78) (lv2 := [(4, .int ((m.I 48 4) - 1)), (3, .int ((m.I 48 4) - 2)), (2, .int r1), (0, .ref 42), (1, .int x1)]) (st2 := [.int ((m.I 48 4) - 2), .ref 49]) (h2 := (sh_rep m.T m.I m.J)) rfl rfl rfl ?_
          exact kk
        obtain ⟨r5, e5, e⟩ := sh_bc_e e
        refine sh_Lk_cV (r := (some (.int r5))) (st2 := [.int r5]) (pc2 := 81) (k2 := 108) (a := 48) (as := [.ref 49, .int ((m.I 48 4) - 2)]) (rest := []) rfl rfl rfl (fun hT => (sh_s48 hT.st)) rfl rfl ⟨Nat.le_of_ble_eq_true rfl, Nat.le_of_ble_eq_true rfl⟩ (sl_108 e5 ⟨rfl, rfl⟩) rfl rfl (Nat.le_of_ble_eq_true rfl) (Nat.le_of_ble_eq_true rfl) ?_
        refine sh_Lk_lift (T := m.T) (I := m.I) (J := m.J) (s := m.s) (pc2 := 111) (lv2 := [(4, .int ((m.I 48 4) - 1)), (3, .int ((m.I 48 4) - 2)), (2, .int r1), (0, .ref 42), (1, .int x1)]) (st2 := [.int r5]) (I2 := m.I) (J2 := m.J) (fun hT v kk => ?_) ?_
        · refine sh_w (i := (.goto 30)) (len := 3) (pc2 := 111) (lv2 := [(4, .int ((m.I 48 4) - 1)), (3, .int ((m.I 48 4) - 2)), (2, .int r1), (0, .ref 42), (1, .int x1)]) (st2 := [.int r5]) (h2 := (sh_rep m.T m.I m.J)) rfl rfl rfl ?_
          exact kk
        exact sh_Lk_sub (sh_sub_c rfl (sh_sub_c rfl (sh_sub_c rfl (sh_sub_c rfl (sh_sub_c rfl (sh_sub_n)))))) (sl_171_111 e tg)
theorem sl_193_96 {x1 : Int32} {x3 : Int32} {x4 : Int32} {x5 : Int32} {x6 : Int32} {x7 : Int32} {y1 : Int32} {y2 : Int32} {m m2 : sh_X} {o : Outcome} {z : ((Int32 × sh_X) ⊕ (Int32 × sh_X))} (e : sf_193_96 x1 x3 x4 x5 x6 x7 y1 y2 m = some z) (tg : (sh_el (fun q => sh_Lk 193 61 [(0, .ref 45), (1, .int x1), (3, .int x3), (4, .int x4), (5, .int x5), (6, .int x6), (7, .int q.1)] [] q.2 o m2 13 312) (sh_tI o m2)) z) : sh_Lk 193 96 [(0, .ref 45), (1, .int x1), (3, .int x3), (4, .int x4), (5, .int x5), (6, .int x6), (7, .int x7)] [.int y2, .int y1, .ref 45] m o m2 13 312 := by
  unfold sf_193_96 at e
  obtain ⟨r1, m11, e1, e⟩ := sh_bn_e e
  refine sh_Lk_cV (r := none) (st2 := []) (pc2 := 99) (k2 := 100) (a := 44) (as := [.ref 45, .int y1, .int y2]) (rest := []) rfl rfl rfl (fun hT => (sh_s44 hT.st)) rfl rfl ⟨Nat.le_of_ble_eq_true rfl, Nat.le_of_ble_eq_true rfl⟩ (sl_100 e1 ⟨rfl, rfl⟩) rfl rfl (Nat.le_of_ble_eq_true rfl) (Nat.le_of_ble_eq_true rfl) ?_
  refine sh_Lk_lift (T := m11.T) (I := m11.I) (J := m11.J) (s := m11.s) (pc2 := 61) (lv2 := [(7, .int (x7 + 1)), (0, .ref 45), (1, .int x1), (3, .int x3), (4, .int x4), (5, .int x5), (6, .int x6)]) (st2 := []) (I2 := m11.I) (J2 := m11.J) (fun hT v kk => ?_) ?_
  · refine sh_w (i := (.iinc 7 1)) (len := 3) (pc2 := 102) (lv2 := [(7, .int (x7 + 1)), (0, .ref 45), (1, .int x1), (3, .int x3), (4, .int x4), (5, .int x5), (6, .int x6)]) (st2 := []) (h2 := (sh_rep m11.T m11.I m11.J)) rfl rfl rfl ?_
    refine sh_w (i := (.goto (-41))) (len := 3) (pc2 := 61) (lv2 := [(7, .int (x7 + 1)), (0, .ref 45), (1, .int x1), (3, .int x3), (4, .int x4), (5, .int x5), (6, .int x6)]) (st2 := []) (h2 := (sh_rep m11.T m11.I m11.J)) rfl rfl rfl ?_
    exact kk
  obtain rfl := Option.some.inj e
  exact sh_Lk_sub (sh_sub_c rfl (sh_sub_c rfl (sh_sub_c rfl (sh_sub_c rfl (sh_sub_c rfl (sh_sub_c rfl (sh_sub_c rfl (sh_sub_n)))))))) tg
theorem sl_193_61s {x1 : Int32} {x3 : Int32} {x4 : Int32} {x5 : Int32} {x6 : Int32} {x7 : Int32} {m m2 : sh_X} {o : Outcome} {z : ((Int32 × sh_X) ⊕ (Int32 × sh_X))} (e : sf_193_61s x1 x3 x4 x5 x6 x7 m = some z) (tg : (sh_el (fun q => sh_Lk 193 61 [(0, .ref 45), (1, .int x1), (3, .int x3), (4, .int x4), (5, .int x5), (6, .int x6), (7, .int q.1)] [] q.2 o m2 13 312) (sh_tI o m2)) z) : sh_Lk 193 61 [(0, .ref 45), (1, .int x1), (3, .int x3), (4, .int x4), (5, .int x5), (6, .int x6), (7, .int x7)] [] m o m2 13 312 := by
  unfold sf_193_61s at e
  refine sh_Lk_lift (T := m.T) (I := m.I) (J := m.J) (s := m.s) (pc2 := 64) (lv2 := [(0, .ref 45), (1, .int x1), (3, .int x3), (4, .int x4), (5, .int x5), (6, .int x6), (7, .int x7)]) (st2 := [.int x3, .int x7]) (I2 := m.I) (J2 := m.J) (fun hT v kk => ?_) ?_
  · refine sh_w (i := (.iload 7)) (len := 2) (pc2 := 63) (lv2 := [(0, .ref 45), (1, .int x1), (3, .int x3), (4, .int x4), (5, .int x5), (6, .int x6), (7, .int x7)]) (st2 := [.int x7]) (h2 := (sh_rep m.T m.I m.J)) rfl rfl rfl ?_
    refine sh_w (i := (.iload_n 3)) (len := 1) (pc2 := 64) (lv2 := [(0, .ref 45), (1, .int x1), (3, .int x3), (4, .int x4), (5, .int x5), (6, .int x6), (7, .int x7)]) (st2 := [.int x3, .int x7]) (h2 := (sh_rep m.T m.I m.J)) rfl rfl rfl ?_
    exact kk
  refine sh_Lk_cS (r := (some (.int (sf_94 x3)))) (st2 := [.int (sf_94 x3), .int x7]) (pc2 := 67) (k2 := 94) (as := [.int x3]) (rest := [.int x7]) rfl rfl (by decide) (Nat.le_of_ble_eq_true rfl) rfl rfl ⟨Nat.le_of_ble_eq_true rfl, Nat.le_of_ble_eq_true rfl⟩ (sl_94 (m := m) rfl ⟨rfl, rfl⟩) rfl rfl (Nat.le_of_ble_eq_true rfl) (Nat.le_of_ble_eq_true rfl) ?_
  rcases sh_ite e with ⟨c, e⟩ | ⟨c, e⟩
  · refine sh_Lk_lift (T := m.T) (I := m.I) (J := m.J) (s := m.s) (pc2 := 80) (lv2 := [(0, .ref 45), (1, .int x1), (3, .int x3), (4, .int x4), (5, .int x5), (6, .int x6), (7, .int x7)]) (st2 := [.int x4, .int x7, .int (x6 + x7), .ref 45]) (I2 := m.I) (J2 := m.J) (fun hT v kk => ?_) ?_
    · refine sh_jc (c := .ge) (off := (38)) (pc2 := 70) false rfl (sh_Bgef c) rfl ?_
      refine sh_w (i := (.aload_n 0)) (len := 1) (pc2 := 71) (lv2 := [(0, .ref 45), (1, .int x1), (3, .int x3), (4, .int x4), (5, .int x5), (6, .int x6), (7, .int x7)]) (st2 := [.ref 45]) (h2 := (sh_rep m.T m.I m.J)) rfl rfl rfl ?_
      refine sh_w (i := (.iload 6)) (len := 2) (pc2 := 73) (lv2 := [(0, .ref 45), (1, .int x1), (3, .int x3), (4, .int x4), (5, .int x5), (6, .int x6), (7, .int x7)]) (st2 := [.int x6, .ref 45]) (h2 := (sh_rep m.T m.I m.J)) rfl rfl rfl ?_
      refine sh_w (i := (.iload 7)) (len := 2) (pc2 := 75) (lv2 := [(0, .ref 45), (1, .int x1), (3, .int x3), (4, .int x4), (5, .int x5), (6, .int x6), (7, .int x7)]) (st2 := [.int x7, .int x6, .ref 45]) (h2 := (sh_rep m.T m.I m.J)) rfl rfl rfl ?_
      refine sh_w (i := .iadd) (len := 1) (pc2 := 76) (lv2 := [(0, .ref 45), (1, .int x1), (3, .int x3), (4, .int x4), (5, .int x5), (6, .int x6), (7, .int x7)]) (st2 := [.int (x6 + x7), .ref 45]) (h2 := (sh_rep m.T m.I m.J)) rfl rfl rfl ?_
      refine sh_w (i := (.iload 7)) (len := 2) (pc2 := 78) (lv2 := [(0, .ref 45), (1, .int x1), (3, .int x3), (4, .int x4), (5, .int x5), (6, .int x6), (7, .int x7)]) (st2 := [.int x7, .int (x6 + x7), .ref 45]) (h2 := (sh_rep m.T m.I m.J)) rfl rfl rfl ?_
      refine sh_w (i := (.iload 4)) (len := 2) (pc2 := 80) (lv2 := [(0, .ref 45), (1, .int x1), (3, .int x3), (4, .int x4), (5, .int x5), (6, .int x6), (7, .int x7)]) (st2 := [.int x4, .int x7, .int (x6 + x7), .ref 45]) (h2 := (sh_rep m.T m.I m.J)) rfl rfl rfl ?_
      exact kk
    rcases sh_ite e with ⟨c, e⟩ | ⟨c, e⟩
    · refine sh_Lk_lift (T := m.T) (I := m.I) (J := m.J) (s := m.s) (pc2 := 88) (lv2 := [(0, .ref 45), (1, .int x1), (3, .int x3), (4, .int x4), (5, .int x5), (6, .int x6), (7, .int x7)]) (st2 := [.int (x1 + x7), .ref 45, .int (x6 + x7), .ref 45]) (I2 := m.I) (J2 := m.J) (fun hT v kk => ?_) ?_
      · refine sh_jc (c := .ge) (off := (14)) (pc2 := 83) false rfl (sh_Bgef c) rfl ?_
        refine sh_w (i := (.aload_n 0)) (len := 1) (pc2 := 84) (lv2 := [(0, .ref 45), (1, .int x1), (3, .int x3), (4, .int x4), (5, .int x5), (6, .int x6), (7, .int x7)]) (st2 := [.ref 45, .int (x6 + x7), .ref 45]) (h2 := (sh_rep m.T m.I m.J)) rfl rfl rfl ?_
        refine sh_w (i := (.iload_n 1)) (len := 1) (pc2 := 85) (lv2 := [(0, .ref 45), (1, .int x1), (3, .int x3), (4, .int x4), (5, .int x5), (6, .int x6), (7, .int x7)]) (st2 := [.int x1, .ref 45, .int (x6 + x7), .ref 45]) (h2 := (sh_rep m.T m.I m.J)) rfl rfl rfl ?_
        refine sh_w (i := (.iload 7)) (len := 2) (pc2 := 87) (lv2 := [(0, .ref 45), (1, .int x1), (3, .int x3), (4, .int x4), (5, .int x5), (6, .int x6), (7, .int x7)]) (st2 := [.int x7, .int x1, .ref 45, .int (x6 + x7), .ref 45]) (h2 := (sh_rep m.T m.I m.J)) rfl rfl rfl ?_
        refine sh_w (i := .iadd) (len := 1) (pc2 := 88) (lv2 := [(0, .ref 45), (1, .int x1), (3, .int x3), (4, .int x4), (5, .int x5), (6, .int x6), (7, .int x7)]) (st2 := [.int (x1 + x7), .ref 45, .int (x6 + x7), .ref 45]) (h2 := (sh_rep m.T m.I m.J)) rfl rfl rfl ?_
        exact kk
      obtain ⟨r2, e2, e⟩ := sh_bc_e e
      refine sh_Lk_cV (r := (some (.int r2))) (st2 := [.int r2, .int (x6 + x7), .ref 45]) (pc2 := 91) (k2 := 103) (a := 44) (as := [.ref 45, .int (x1 + x7)]) (rest := [.int (x6 + x7), .ref 45]) rfl rfl rfl (fun hT => (sh_s44 hT.st)) rfl rfl ⟨Nat.le_of_ble_eq_true rfl, Nat.le_of_ble_eq_true rfl⟩ (sl_103 e2 ⟨rfl, rfl⟩) rfl rfl (Nat.le_of_ble_eq_true rfl) (Nat.le_of_ble_eq_true rfl) ?_
      refine sh_Lk_lift (T := m.T) (I := m.I) (J := m.J) (s := m.s) (pc2 := 96) (lv2 := [(0, .ref 45), (1, .int x1), (3, .int x3), (4, .int x4), (5, .int x5), (6, .int x6), (7, .int x7)]) (st2 := [.int r2, .int (x6 + x7), .ref 45]) (I2 := m.I) (J2 := m.J) (fun hT v kk => ?_) ?_
      · refine sh_w (i := (.goto 5)) (len := 3) (pc2 := 96) (lv2 := [(0, .ref 45), (1, .int x1), (3, .int x3), (4, .int x4), (5, .int x5), (6, .int x6), (7, .int x7)]) (st2 := [.int r2, .int (x6 + x7), .ref 45]) (h2 := (sh_rep m.T m.I m.J)) rfl rfl rfl ?_
        exact kk
      exact sh_Lk_sub (sh_sub_c rfl (sh_sub_c rfl (sh_sub_c rfl (sh_sub_c rfl (sh_sub_c rfl (sh_sub_c rfl (sh_sub_c rfl (sh_sub_n)))))))) (sl_193_96 e tg)
    · refine sh_Lk_lift (T := m.T) (I := m.I) (J := m.J) (s := m.s) (pc2 := 96) (lv2 := [(0, .ref 45), (1, .int x1), (3, .int x3), (4, .int x4), (5, .int x5), (6, .int x6), (7, .int x7)]) (st2 := [.int x5, .int (x6 + x7), .ref 45]) (I2 := m.I) (J2 := m.J) (fun hT v kk => ?_) ?_
      · refine sh_jc (c := .ge) (off := (14)) (pc2 := 94) true rfl (sh_Bget c) rfl ?_
        refine sh_w (i := (.iload 5)) (len := 2) (pc2 := 96) (lv2 := [(0, .ref 45), (1, .int x1), (3, .int x3), (4, .int x4), (5, .int x5), (6, .int x6), (7, .int x7)]) (st2 := [.int x5, .int (x6 + x7), .ref 45]) (h2 := (sh_rep m.T m.I m.J)) rfl rfl rfl ?_
        exact kk
      exact sh_Lk_sub (sh_sub_c rfl (sh_sub_c rfl (sh_sub_c rfl (sh_sub_c rfl (sh_sub_c rfl (sh_sub_c rfl (sh_sub_c rfl (sh_sub_n)))))))) (sl_193_96 e tg)
  · refine sh_Lk_lift (T := m.T) (I := m.I) (J := m.J) (s := m.s) (pc2 := 107) (lv2 := [(0, .ref 45), (1, .int x1), (3, .int x3), (4, .int x4), (5, .int x5), (6, .int x6), (7, .int x7)]) (st2 := [.int x6]) (I2 := m.I) (J2 := m.J) (fun hT v kk => ?_) ?_
    · refine sh_jc (c := .ge) (off := (38)) (pc2 := 105) true rfl (sh_Bget c) rfl ?_
      refine sh_w (i := (.iload 6)) (len := 2) (pc2 := 107) (lv2 := [(0, .ref 45), (1, .int x1), (3, .int x3), (4, .int x4), (5, .int x5), (6, .int x6), (7, .int x7)]) (st2 := [.int x6]) (h2 := (sh_rep m.T m.I m.J)) rfl rfl rfl ?_
      exact kk
    obtain rfl := Option.some.inj e
    obtain ⟨rfl, rfl⟩ := tg
    exact sh_Lk_ret (i := .ireturn) rfl rfl rfl (Nat.le_of_ble_eq_true rfl) (Nat.le_of_ble_eq_true rfl)
theorem sl_193_61 {x1 : Int32} {x3 : Int32} {x4 : Int32} {x5 : Int32} {x6 : Int32} {x7 : Int32} {m m2 : sh_X} {o : Outcome} {z : (Int32 × sh_X)} (e : sf_193_61 x1 x3 x4 x5 x6 x7 m = some z) (tg : (sh_tI o m2) z) : sh_Lk 193 61 [(0, .ref 45), (1, .int x1), (3, .int x3), (4, .int x4), (5, .int x5), (6, .int x6), (7, .int x7)] [] m o m2 13 312 := by
  unfold sf_193_61 at e
  exact sh_while_lk (P := fun q => sh_Lk 193 61 [(0, .ref 45), (1, .int x1), (3, .int x3), (4, .int x4), (5, .int x5), (6, .int x6), (7, .int q.1)] [] q.2 o m2 13 312) (Q := (sh_tI o m2)) (fun q z e tg => sl_193_61s (x1 := x1) (x3 := x3) (x4 := x4) (x5 := x5) (x6 := x6) (x7 := q.1) (m := q.2) e tg) (s := (x7, m)) e tg
theorem sl_193_46 {x1 : Int32} {x3 : Int32} {x4 : Int32} {y0 : Int32} {m m2 : sh_X} {o : Outcome} {z : (Int32 × sh_X)} (e : sf_193_46 x1 x3 x4 y0 m = some z) (tg : (sh_tI o m2) z) : sh_Lk 193 46 [(0, .ref 45), (1, .int x1), (3, .int x3), (4, .int x4)] [.int y0] m o m2 13 312 := by
  unfold sf_193_46 at e
  refine sh_Lk_lift (T := m.T) (I := m.I) (J := m.J) (s := m.s) (pc2 := 50) (lv2 := [(5, .int y0), (0, .ref 45), (1, .int x1), (3, .int x3), (4, .int x4)]) (st2 := [.int x3, .ref 45]) (I2 := m.I) (J2 := m.J) (fun hT v kk => ?_) ?_
  · refine sh_w (i := (.istore 5)) (len := 2) (pc2 := 48) (lv2 := [(5, .int y0), (0, .ref 45), (1, .int x1), (3, .int x3), (4, .int x4)]) (st2 := []) (h2 := (sh_rep m.T m.I m.J)) rfl rfl rfl ?_
    refine sh_w (i := (.aload_n 0)) (len := 1) (pc2 := 49) (lv2 := [(5, .int y0), (0, .ref 45), (1, .int x1), (3, .int x3), (4, .int x4)]) (st2 := [.ref 45]) (h2 := (sh_rep m.T m.I m.J)) rfl rfl rfl ?_
    refine sh_w (i := (.iload_n 3)) (len := 1) (pc2 := 50) (lv2 := [(5, .int y0), (0, .ref 45), (1, .int x1), (3, .int x3), (4, .int x4)]) (st2 := [.int x3, .ref 45]) (h2 := (sh_rep m.T m.I m.J)) rfl rfl rfl ?_
    exact kk
  refine sh_Lk_cS (r := (some (.int (sf_94 x3)))) (st2 := [.int (sf_94 x3), .ref 45]) (pc2 := 53) (k2 := 94) (as := [.int x3]) (rest := [.ref 45]) rfl rfl (by decide) (Nat.le_of_ble_eq_true rfl) rfl rfl ⟨Nat.le_of_ble_eq_true rfl, Nat.le_of_ble_eq_true rfl⟩ (sl_94 (m := m) rfl ⟨rfl, rfl⟩) rfl rfl (Nat.le_of_ble_eq_true rfl) (Nat.le_of_ble_eq_true rfl) ?_
  obtain ⟨r2, m12, e2, e⟩ := sh_bn_e e
  refine sh_Lk_cV (r := (some (.int r2))) (st2 := [.int r2]) (pc2 := 56) (k2 := 98) (a := 44) (as := [.ref 45, .int (sf_94 x3)]) (rest := []) rfl rfl rfl (fun hT => (sh_s44 hT.st)) rfl rfl ⟨Nat.le_of_ble_eq_true rfl, Nat.le_of_ble_eq_true rfl⟩ (sl_98 e2 ⟨rfl, rfl⟩) rfl rfl (Nat.le_of_ble_eq_true rfl) (Nat.le_of_ble_eq_true rfl) ?_
  refine sh_Lk_lift (T := m12.T) (I := m12.I) (J := m12.J) (s := m12.s) (pc2 := 61) (lv2 := [(7, .int 0), (6, .int r2), (5, .int y0), (0, .ref 45), (1, .int x1), (3, .int x3), (4, .int x4)]) (st2 := []) (I2 := m12.I) (J2 := m12.J) (fun hT v kk => ?_) ?_
  · refine sh_w (i := (.istore 6)) (len := 2) (pc2 := 58) (lv2 := [(6, .int r2), (5, .int y0), (0, .ref 45), (1, .int x1), (3, .int x3), (4, .int x4)]) (st2 := []) (h2 := (sh_rep m12.T m12.I m12.J)) rfl rfl rfl ?_
    refine sh_w (i := (.iconst 0)) (len := 1) (pc2 := 59) (lv2 := [(6, .int r2), (5, .int y0), (0, .ref 45), (1, .int x1), (3, .int x3), (4, .int x4)]) (st2 := [.int 0]) (h2 := (sh_rep m12.T m12.I m12.J)) rfl rfl rfl ?_
    refine sh_w (i := (.istore 7)) (len := 2) (pc2 := 61) (lv2 := [(7, .int 0), (6, .int r2), (5, .int y0), (0, .ref 45), (1, .int x1), (3, .int x3), (4, .int x4)]) (st2 := []) (h2 := (sh_rep m12.T m12.I m12.J)) rfl rfl rfl ?_
    exact kk
  exact sh_Lk_sub (sh_sub_c rfl (sh_sub_c rfl (sh_sub_c rfl (sh_sub_c rfl (sh_sub_c rfl (sh_sub_c rfl (sh_sub_c rfl (sh_sub_n)))))))) (sl_193_61 e tg)
theorem sl_193 {x1 : Int32} {x2 : Int32} {x3 : Int32} {m m2 : sh_X} {o : Outcome} {z : (Int32 × sh_X)} (e : sf_193 x1 x2 x3 m = some z) (tg : (sh_tI o m2) z) : sh_Lk 193 0 [(0, .ref 45), (1, .int x1), (2, .int x2), (3, .int x3)] [] m o m2 13 312 := by
  unfold sf_193 at e
  refine sh_Lk_lift (T := m.T) (I := m.I) (J := m.J) (s := m.s) (pc2 := 1) (lv2 := [(0, .ref 45), (1, .int x1), (2, .int x2), (3, .int x3)]) (st2 := [.int x2]) (I2 := m.I) (J2 := m.J) (fun hT v kk => ?_) ?_
  · refine sh_w (i := (.iload_n 2)) (len := 1) (pc2 := 1) (lv2 := [(0, .ref 45), (1, .int x1), (2, .int x2), (3, .int x3)]) (st2 := [.int x2]) (h2 := (sh_rep m.T m.I m.J)) rfl rfl rfl ?_
    exact kk
  refine sh_Lk_cS (r := (some (.int (sf_94 x2)))) (st2 := [.int (sf_94 x2)]) (pc2 := 4) (k2 := 94) (as := [.int x2]) (rest := []) rfl rfl (by decide) (Nat.le_of_ble_eq_true rfl) rfl rfl ⟨Nat.le_of_ble_eq_true rfl, Nat.le_of_ble_eq_true rfl⟩ (sl_94 (m := m) rfl ⟨rfl, rfl⟩) rfl rfl (Nat.le_of_ble_eq_true rfl) (Nat.le_of_ble_eq_true rfl) ?_
  refine sh_Lk_lift (T := m.T) (I := m.I) (J := m.J) (s := m.s) (pc2 := 10) (lv2 := [(4, .int (sf_94 x2)), (0, .ref 45), (1, .int x1), (2, .int x2), (3, .int x3)]) (st2 := [.int 257, .int x3]) (I2 := m.I) (J2 := m.J) (fun hT v kk => ?_) ?_
  · refine sh_w (i := (.istore 4)) (len := 2) (pc2 := 6) (lv2 := [(4, .int (sf_94 x2)), (0, .ref 45), (1, .int x1), (2, .int x2), (3, .int x3)]) (st2 := []) (h2 := (sh_rep m.T m.I m.J)) rfl rfl rfl ?_
    refine sh_w (i := (.iload_n 3)) (len := 1) (pc2 := 7) (lv2 := [(4, .int (sf_94 x2)), (0, .ref 45), (1, .int x1), (2, .int x2), (3, .int x3)]) (st2 := [.int x3]) (h2 := (sh_rep m.T m.I m.J)) rfl rfl rfl ?_
    refine sh_w (i := (.sipush 257)) (len := 3) (pc2 := 10) (lv2 := [(4, .int (sf_94 x2)), (0, .ref 45), (1, .int x1), (2, .int x2), (3, .int x3)]) (st2 := [.int 257, .int x3]) (h2 := (sh_rep m.T m.I m.J)) rfl rfl rfl ?_
    exact kk
  rcases sh_ite e with ⟨c, e⟩ | ⟨c, e⟩
  · refine sh_Lk_lift (T := m.T) (I := m.I) (J := m.J) (s := m.s) (pc2 := 18) (lv2 := [(4, .int (sf_94 x2)), (0, .ref 45), (1, .int x1), (2, .int x2), (3, .int x3)]) (st2 := [.int (sf_94 x2), .int x1, .ref 45, .ref 45]) (I2 := m.I) (J2 := m.J) (fun hT v kk => ?_) ?_
    · refine sh_jc (c := .ne) (off := (15)) (pc2 := 13) false rfl (sh_Bnef c) rfl ?_
      refine sh_w (i := (.aload_n 0)) (len := 1) (pc2 := 14) (lv2 := [(4, .int (sf_94 x2)), (0, .ref 45), (1, .int x1), (2, .int x2), (3, .int x3)]) (st2 := [.ref 45]) (h2 := (sh_rep m.T m.I m.J)) rfl rfl rfl ?_
      refine sh_w (i := (.aload_n 0)) (len := 1) (pc2 := 15) (lv2 := [(4, .int (sf_94 x2)), (0, .ref 45), (1, .int x1), (2, .int x2), (3, .int x3)]) (st2 := [.ref 45, .ref 45]) (h2 := (sh_rep m.T m.I m.J)) rfl rfl rfl ?_
      refine sh_w (i := (.iload_n 1)) (len := 1) (pc2 := 16) (lv2 := [(4, .int (sf_94 x2)), (0, .ref 45), (1, .int x1), (2, .int x2), (3, .int x3)]) (st2 := [.int x1, .ref 45, .ref 45]) (h2 := (sh_rep m.T m.I m.J)) rfl rfl rfl ?_
      refine sh_w (i := (.iload 4)) (len := 2) (pc2 := 18) (lv2 := [(4, .int (sf_94 x2)), (0, .ref 45), (1, .int x1), (2, .int x2), (3, .int x3)]) (st2 := [.int (sf_94 x2), .int x1, .ref 45, .ref 45]) (h2 := (sh_rep m.T m.I m.J)) rfl rfl rfl ?_
      exact kk
    obtain ⟨r2, m12, e2, e⟩ := sh_bn_e e
    refine sh_Lk_cV (r := (some (.int r2))) (st2 := [.int r2, .ref 45]) (pc2 := 21) (k2 := 186) (a := 44) (as := [.ref 45, .int x1, .int (sf_94 x2)]) (rest := [.ref 45]) rfl rfl rfl (fun hT => (sh_s44 hT.st)) rfl rfl ⟨Nat.le_of_ble_eq_true rfl, Nat.le_of_ble_eq_true rfl⟩ (sl_186 e2 ⟨rfl, rfl⟩) rfl rfl (Nat.le_of_ble_eq_true rfl) (Nat.le_of_ble_eq_true rfl) ?_
    obtain ⟨r3, m13, e3, e⟩ := sh_bn_e e
    refine sh_Lk_cV (r := (some (.int r3))) (st2 := [.int r3]) (pc2 := 24) (k2 := 188) (a := 44) (as := [.ref 45, .int r2]) (rest := []) rfl rfl rfl (fun hT => (sh_s44 hT.st)) rfl rfl ⟨Nat.le_of_ble_eq_true rfl, Nat.le_of_ble_eq_true rfl⟩ (sl_188 e3 ⟨rfl, rfl⟩) rfl rfl (Nat.le_of_ble_eq_true rfl) (Nat.le_of_ble_eq_true rfl) ?_
    obtain rfl := Option.some.inj e
    obtain ⟨rfl, rfl⟩ := tg
    exact sh_Lk_ret (i := .ireturn) rfl rfl rfl (Nat.le_of_ble_eq_true rfl) (Nat.le_of_ble_eq_true rfl)
  · refine sh_Lk_lift (T := m.T) (I := m.I) (J := m.J) (s := m.s) (pc2 := 26) (lv2 := [(4, .int (sf_94 x2)), (0, .ref 45), (1, .int x1), (2, .int x2), (3, .int x3)]) (st2 := [.int x2]) (I2 := m.I) (J2 := m.J) (fun hT v kk => ?_) ?_
    · refine sh_jc (c := .ne) (off := (15)) (pc2 := 25) true rfl (sh_Bnet c) rfl ?_
      refine sh_w (i := (.iload_n 2)) (len := 1) (pc2 := 26) (lv2 := [(4, .int (sf_94 x2)), (0, .ref 45), (1, .int x1), (2, .int x2), (3, .int x3)]) (st2 := [.int x2]) (h2 := (sh_rep m.T m.I m.J)) rfl rfl rfl ?_
      exact kk
    refine sh_Lk_cS (r := (some (.int (sh_b2 (sf_114 x2))))) (st2 := [.int (sh_b2 (sf_114 x2))]) (pc2 := 29) (k2 := 114) (as := [.int x2]) (rest := []) rfl rfl (by decide) (Nat.le_of_ble_eq_true rfl) rfl rfl ⟨Nat.le_of_ble_eq_true rfl, Nat.le_of_ble_eq_true rfl⟩ (sl_114 (m := m) rfl ⟨rfl, rfl⟩) rfl rfl (Nat.le_of_ble_eq_true rfl) (Nat.le_of_ble_eq_true rfl) ?_
    rcases sh_ite e with ⟨c, e⟩ | ⟨c, e⟩
    · refine sh_Lk_lift (T := m.T) (I := m.I) (J := m.J) (s := m.s) (pc2 := 39) (lv2 := [(4, .int (sf_94 x2)), (0, .ref 45), (1, .int x1), (2, .int x2), (3, .int x3)]) (st2 := [.int ((x1 + (sf_94 x2)) - 1), .ref 45]) (I2 := m.I) (J2 := m.J) (fun hT v kk => ?_) ?_
      · refine sh_j0 (c := .eq) (off := (16)) (pc2 := 32) false rfl (sh_Zeqf c) rfl ?_
        refine sh_w (i := (.aload_n 0)) (len := 1) (pc2 := 33) (lv2 := [(4, .int (sf_94 x2)), (0, .ref 45), (1, .int x1), (2, .int x2), (3, .int x3)]) (st2 := [.ref 45]) (h2 := (sh_rep m.T m.I m.J)) rfl rfl rfl ?_
        refine sh_w (i := (.iload_n 1)) (len := 1) (pc2 := 34) (lv2 := [(4, .int (sf_94 x2)), (0, .ref 45), (1, .int x1), (2, .int x2), (3, .int x3)]) (st2 := [.int x1, .ref 45]) (h2 := (sh_rep m.T m.I m.J)) rfl rfl rfl ?_
        refine sh_w (i := (.iload 4)) (len := 2) (pc2 := 36) (lv2 := [(4, .int (sf_94 x2)), (0, .ref 45), (1, .int x1), (2, .int x2), (3, .int x3)]) (st2 := [.int (sf_94 x2), .int x1, .ref 45]) (h2 := (sh_rep m.T m.I m.J)) rfl rfl rfl ?_
        refine sh_w (i := .iadd) (len := 1) (pc2 := 37) (lv2 := [(4, .int (sf_94 x2)), (0, .ref 45), (1, .int x1), (2, .int x2), (3, .int x3)]) (st2 := [.int (x1 + (sf_94 x2)), .ref 45]) (h2 := (sh_rep m.T m.I m.J)) rfl rfl rfl ?_
        refine sh_w (i := (.iconst 1)) (len := 1) (pc2 := 38) (lv2 := [(4, .int (sf_94 x2)), (0, .ref 45), (1, .int x1), (2, .int x2), (3, .int x3)]) (st2 := [.int 1, .int (x1 + (sf_94 x2)), .ref 45]) (h2 := (sh_rep m.T m.I m.J)) rfl rfl rfl ?_
        refine sh_w (i := .isub) (len := 1) (pc2 := 39) (lv2 := [(4, .int (sf_94 x2)), (0, .ref 45), (1, .int x1), (2, .int x2), (3, .int x3)]) (st2 := [.int ((x1 + (sf_94 x2)) - 1), .ref 45]) (h2 := (sh_rep m.T m.I m.J)) rfl rfl rfl ?_
        exact kk
      obtain ⟨r5, e5, e⟩ := sh_bc_e e
      refine sh_Lk_cV (r := (some (.int r5))) (st2 := [.int r5]) (pc2 := 42) (k2 := 103) (a := 44) (as := [.ref 45, .int ((x1 + (sf_94 x2)) - 1)]) (rest := []) rfl rfl rfl (fun hT => (sh_s44 hT.st)) rfl rfl ⟨Nat.le_of_ble_eq_true rfl, Nat.le_of_ble_eq_true rfl⟩ (sl_103 e5 ⟨rfl, rfl⟩) rfl rfl (Nat.le_of_ble_eq_true rfl) (Nat.le_of_ble_eq_true rfl) ?_
      refine sh_Lk_lift (T := m.T) (I := m.I) (J := m.J) (s := m.s) (pc2 := 46) (lv2 := [(4, .int (sf_94 x2)), (0, .ref 45), (1, .int x1), (2, .int x2), (3, .int x3)]) (st2 := [.int r5]) (I2 := m.I) (J2 := m.J) (fun hT v kk => ?_) ?_
      · refine sh_w (i := (.goto 4)) (len := 3) (pc2 := 46) (lv2 := [(4, .int (sf_94 x2)), (0, .ref 45), (1, .int x1), (2, .int x2), (3, .int x3)]) (st2 := [.int r5]) (h2 := (sh_rep m.T m.I m.J)) rfl rfl rfl ?_
        exact kk
      exact sh_Lk_sub (sh_sub_c rfl (sh_sub_c rfl (sh_sub_c rfl (sh_sub_c rfl (sh_sub_n))))) (sl_193_46 e tg)
    · refine sh_Lk_lift (T := m.T) (I := m.I) (J := m.J) (s := m.s) (pc2 := 46) (lv2 := [(4, .int (sf_94 x2)), (0, .ref 45), (1, .int x1), (2, .int x2), (3, .int x3)]) (st2 := [.int 0]) (I2 := m.I) (J2 := m.J) (fun hT v kk => ?_) ?_
      · refine sh_j0 (c := .eq) (off := (16)) (pc2 := 45) true rfl (sh_Zeqt c) rfl ?_
        refine sh_w (i := (.iconst 0)) (len := 1) (pc2 := 46) (lv2 := [(4, .int (sf_94 x2)), (0, .ref 45), (1, .int x1), (2, .int x2), (3, .int x3)]) (st2 := [.int 0]) (h2 := (sh_rep m.T m.I m.J)) rfl rfl rfl ?_
        exact kk
      exact sh_Lk_sub (sh_sub_c rfl (sh_sub_c rfl (sh_sub_c rfl (sh_sub_c rfl (sh_sub_n))))) (sl_193_46 e tg)
theorem sl_192_45 {x1 : Int32} {x2 : Int32} {x3 : Int32} {x4 : Int32} {m m2 : sh_X} {o : Outcome} {z : (Option Unit × sh_X)} (e : sf_192_45 x1 x2 x3 x4 m = some z) (tg : (sh_tVt o m2) z) : sh_Lk 192 45 [(0, .ref 42), (1, .int x1), (2, .int x2), (3, .int x3), (4, .int x4)] [] m o m2 14 339 := by
  unfold sf_192_45 at e
  refine sh_Lk_lift (T := m.T) (I := m.I) (J := m.J) (s := m.s) (pc2 := 47) (lv2 := [(0, .ref 42), (1, .int x1), (2, .int x2), (3, .int x3), (4, .int x4)]) (st2 := [.int x2, .ref 42]) (I2 := m.I) (J2 := m.J) (fun hT v kk => ?_) ?_
  · refine sh_w (i := (.aload_n 0)) (len := 1) (pc2 := 46) (lv2 := [(0, .ref 42), (1, .int x1), (2, .int x2), (3, .int x3), (4, .int x4)]) (st2 := [.ref 42]) (h2 := (sh_rep m.T m.I m.J)) rfl rfl rfl ?_
    refine sh_w (i := (.iload_n 2)) (len := 1) (pc2 := 47) (lv2 := [(0, .ref 42), (1, .int x1), (2, .int x2), (3, .int x3), (4, .int x4)]) (st2 := [.int x2, .ref 42]) (h2 := (sh_rep m.T m.I m.J)) rfl rfl rfl ?_
    exact kk
  refine sh_Lk_cS (r := (some (.int (sf_94 x2)))) (st2 := [.int (sf_94 x2), .ref 42]) (pc2 := 50) (k2 := 94) (as := [.int x2]) (rest := [.ref 42]) rfl rfl (by decide) (Nat.le_of_ble_eq_true rfl) rfl rfl ⟨Nat.le_of_ble_eq_true rfl, Nat.le_of_ble_eq_true rfl⟩ (sl_94 (m := m) rfl ⟨rfl, rfl⟩) rfl rfl (Nat.le_of_ble_eq_true rfl) (Nat.le_of_ble_eq_true rfl) ?_
  refine sh_Lk_lift (T := m.T) (I := m.I) (J := m.J) (s := m.s) (pc2 := 52) (lv2 := [(0, .ref 42), (1, .int x1), (2, .int x2), (3, .int x3), (4, .int x4)]) (st2 := [.int x4, .int (sf_94 x2), .ref 42]) (I2 := m.I) (J2 := m.J) (fun hT v kk => ?_) ?_
  · refine sh_w (i := (.iload 4)) (len := 2) (pc2 := 52) (lv2 := [(0, .ref 42), (1, .int x1), (2, .int x2), (3, .int x3), (4, .int x4)]) (st2 := [.int x4, .int (sf_94 x2), .ref 42]) (h2 := (sh_rep m.T m.I m.J)) rfl rfl rfl ?_
    exact kk
  refine sh_Lk_cS (r := (some (.int (sf_94 x4)))) (st2 := [.int (sf_94 x4), .int (sf_94 x2), .ref 42]) (pc2 := 55) (k2 := 94) (as := [.int x4]) (rest := [.int (sf_94 x2), .ref 42]) rfl rfl (by decide) (Nat.le_of_ble_eq_true rfl) rfl rfl ⟨Nat.le_of_ble_eq_true rfl, Nat.le_of_ble_eq_true rfl⟩ (sl_94 (m := m) rfl ⟨rfl, rfl⟩) rfl rfl (Nat.le_of_ble_eq_true rfl) (Nat.le_of_ble_eq_true rfl) ?_
  refine sh_Lk_lift (T := m.T) (I := m.I) (J := m.J) (s := m.s) (pc2 := 57) (lv2 := [(0, .ref 42), (1, .int x1), (2, .int x2), (3, .int x3), (4, .int x4)]) (st2 := [.int x1, .int ((sf_94 x2) + (sf_94 x4)), .ref 42]) (I2 := m.I) (J2 := m.J) (fun hT v kk => ?_) ?_
  · refine sh_w (i := .iadd) (len := 1) (pc2 := 56) (lv2 := [(0, .ref 42), (1, .int x1), (2, .int x2), (3, .int x3), (4, .int x4)]) (st2 := [.int ((sf_94 x2) + (sf_94 x4)), .ref 42]) (h2 := (sh_rep m.T m.I m.J)) rfl rfl rfl ?_
    refine sh_w (i := (.iload_n 1)) (len := 1) (pc2 := 57) (lv2 := [(0, .ref 42), (1, .int x1), (2, .int x2), (3, .int x3), (4, .int x4)]) (st2 := [.int x1, .int ((sf_94 x2) + (sf_94 x4)), .ref 42]) (h2 := (sh_rep m.T m.I m.J)) rfl rfl rfl ?_
    exact kk
  rcases sh_bt_e e with ⟨m13, e3, rfl⟩ | ⟨r3, m13, e3, e⟩
  · obtain ⟨rfl, rfl⟩ := tg
    exact sh_Lk_tV (k2 := 90) (a := 41) (as := [.ref 42, .int ((sf_94 x2) + (sf_94 x4)), .int x1]) (rest := []) rfl rfl rfl (fun hT => (sh_s41 hT.st)) rfl rfl ⟨Nat.le_of_ble_eq_true rfl, Nat.le_of_ble_eq_true rfl⟩ (sl_90 e3 ⟨rfl, rfl⟩) rfl (Nat.le_of_ble_eq_true rfl) (Nat.le_of_ble_eq_true rfl) (Nat.le_of_ble_eq_true rfl) (Nat.le_of_ble_eq_true rfl) rfl
  refine sh_Lk_cV (r := none) (st2 := []) (pc2 := 60) (k2 := 90) (a := 41) (as := [.ref 42, .int ((sf_94 x2) + (sf_94 x4)), .int x1]) (rest := []) rfl rfl rfl (fun hT => (sh_s41 hT.st)) rfl rfl ⟨Nat.le_of_ble_eq_true rfl, Nat.le_of_ble_eq_true rfl⟩ (sl_90 e3 ⟨rfl, rfl⟩) rfl rfl (Nat.le_of_ble_eq_true rfl) (Nat.le_of_ble_eq_true rfl) ?_
  refine sh_Lk_lift (T := m13.T) (I := m13.I) (J := m13.J) (s := m13.s) (pc2 := 72) (lv2 := [(0, .ref 42), (1, .int x1), (2, .int x2), (3, .int x3), (4, .int x4)]) (st2 := [.int x3, .ref 49, .ref 45, .int x2, .int 1, .ref 42]) (I2 := m13.I) (J2 := m13.J) (fun hT v kk => ?_) ?_
  · refine sh_w (i := (.aload_n 0)) (len := 1) (pc2 := 61) (lv2 := [(0, .ref 42), (1, .int x1), (2, .int x2), (3, .int x3), (4, .int x4)]) (st2 := [.ref 42]) (h2 := (sh_rep m13.T m13.I m13.J)) rfl rfl rfl ?_
    refine sh_w (i := (.iconst 1)) (len := 1) (pc2 := 62) (lv2 := [(0, .ref 42), (1, .int x1), (2, .int x2), (3, .int x3), (4, .int x4)]) (st2 := [.int 1, .ref 42]) (h2 := (sh_rep m13.T m13.I m13.J)) rfl rfl rfl ?_
    refine sh_w (i := (.iload_n 2)) (len := 1) (pc2 := 63) (lv2 := [(0, .ref 42), (1, .int x1), (2, .int x2), (3, .int x3), (4, .int x4)]) (st2 := [.int x2, .int 1, .ref 42]) (h2 := (sh_rep m13.T m13.I m13.J)) rfl rfl rfl ?_
    refine sh_w (i := (.aload_n 0)) (len := 1) (pc2 := 64) (lv2 := [(0, .ref 42), (1, .int x1), (2, .int x2), (3, .int x3), (4, .int x4)]) (st2 := [.ref 42, .int x2, .int 1, .ref 42]) (h2 := (sh_rep m13.T m13.I m13.J)) rfl rfl rfl ?_
    refine sh_gR1 (len := 3) (x := .ref 45) (pc2 := 67) rfl rfl (sh_s41 hT.st) rfl rfl ?_
    refine sh_w (i := (.aload_n 0)) (len := 1) (pc2 := 68) (lv2 := [(0, .ref 42), (1, .int x1), (2, .int x2), (3, .int x3), (4, .int x4)]) (st2 := [.ref 42, .ref 45, .int x2, .int 1, .ref 42]) (h2 := (sh_rep m13.T m13.I m13.J)) rfl rfl rfl ?_
    refine sh_gR1 (len := 3) (x := .ref 49) (pc2 := 71) rfl rfl (sh_s41 hT.st) rfl rfl ?_
    refine sh_w (i := (.iload_n 3)) (len := 1) (pc2 := 72) (lv2 := [(0, .ref 42), (1, .int x1), (2, .int x2), (3, .int x3), (4, .int x4)]) (st2 := [.int x3, .ref 49, .ref 45, .int x2, .int 1, .ref 42]) (h2 := (sh_rep m13.T m13.I m13.J)) rfl rfl rfl ?_
    exact kk
  obtain ⟨r4, e4, e⟩ := sh_bc_e e
  refine sh_Lk_cV (r := (some (.int r4))) (st2 := [.int r4, .ref 45, .int x2, .int 1, .ref 42]) (pc2 := 75) (k2 := 117) (a := 48) (as := [.ref 49, .int x3]) (rest := [.ref 45, .int x2, .int 1, .ref 42]) rfl rfl rfl (fun hT => (sh_s48 hT.st)) rfl rfl ⟨Nat.le_of_ble_eq_true rfl, Nat.le_of_ble_eq_true rfl⟩ (sl_117 e4 ⟨rfl, rfl⟩) rfl rfl (Nat.le_of_ble_eq_true rfl) (Nat.le_of_ble_eq_true rfl) ?_
  refine sh_Lk_lift (T := m13.T) (I := m13.I) (J := m13.J) (s := m13.s) (pc2 := 78) (lv2 := [(0, .ref 42), (1, .int x1), (2, .int x2), (3, .int x3), (4, .int x4)]) (st2 := [.int x2, .int x4, .int r4, .ref 45, .int x2, .int 1, .ref 42]) (I2 := m13.I) (J2 := m13.J) (fun hT v kk => ?_) ?_
  · refine sh_w (i := (.iload 4)) (len := 2) (pc2 := 77) (lv2 := [(0, .ref 42), (1, .int x1), (2, .int x2), (3, .int x3), (4, .int x4)]) (st2 := [.int x4, .int r4, .ref 45, .int x2, .int 1, .ref 42]) (h2 := (sh_rep m13.T m13.I m13.J)) rfl rfl rfl ?_
    refine sh_w (i := (.iload_n 2)) (len := 1) (pc2 := 78) (lv2 := [(0, .ref 42), (1, .int x1), (2, .int x2), (3, .int x3), (4, .int x4)]) (st2 := [.int x2, .int x4, .int r4, .ref 45, .int x2, .int 1, .ref 42]) (h2 := (sh_rep m13.T m13.I m13.J)) rfl rfl rfl ?_
    exact kk
  obtain ⟨r5, m15, e5, e⟩ := sh_bn_e e
  refine sh_Lk_cV (r := (some (.int r5))) (st2 := [.int r5, .int x2, .int 1, .ref 42]) (pc2 := 81) (k2 := 193) (a := 44) (as := [.ref 45, .int r4, .int x4, .int x2]) (rest := [.int x2, .int 1, .ref 42]) rfl rfl rfl (fun hT => (sh_s44 hT.st)) rfl rfl ⟨Nat.le_of_ble_eq_true rfl, Nat.le_of_ble_eq_true rfl⟩ (sl_193 e5 ⟨rfl, rfl⟩) rfl rfl (Nat.le_of_ble_eq_true rfl) (Nat.le_of_ble_eq_true rfl) ?_
  obtain ⟨r6, m16, e6, e⟩ := sh_bn_e e
  refine sh_Lk_cV (r := none) (st2 := []) (pc2 := 84) (k2 := 167) (a := 41) (as := [.ref 42, .int 1, .int x2, .int r5]) (rest := []) rfl rfl rfl (fun hT => (sh_s41 hT.st)) rfl rfl ⟨Nat.le_of_ble_eq_true rfl, Nat.le_of_ble_eq_true rfl⟩ (sl_167 e6 ⟨rfl, rfl⟩) rfl rfl (Nat.le_of_ble_eq_true rfl) (Nat.le_of_ble_eq_true rfl) ?_
  obtain rfl := Option.some.inj e
  obtain ⟨rfl, rfl⟩ := tg
  exact sh_Lk_ret (i := .return_) rfl rfl rfl (Nat.le_of_ble_eq_true rfl) (Nat.le_of_ble_eq_true rfl)
theorem sl_192 {x1 : Int32} {x2 : Int32} {m m2 : sh_X} {o : Outcome} {z : (Option Unit × sh_X)} (e : sf_192 x1 x2 m = some z) (tg : (sh_tVt o m2) z) : sh_Lk 192 0 [(0, .ref 42), (1, .int x1), (2, .int x2)] [] m o m2 14 339 := by
  unfold sf_192 at e
  refine sh_Lk_lift (T := m.T) (I := m.I) (J := m.J) (s := m.s) (pc2 := 15) (lv2 := [(3, .int ((m.I 48 4) - 1)), (0, .ref 42), (1, .int x1), (2, .int x2)]) (st2 := [.int 160, .int ((m.I 48 4) - 1), .ref 42]) (I2 := m.I) (J2 := m.J) (fun hT v kk => ?_) ?_
  · refine sh_w (i := (.aload_n 0)) (len := 1) (pc2 := 1) (lv2 := [(0, .ref 42), (1, .int x1), (2, .int x2)]) (st2 := [.ref 42]) (h2 := (sh_rep m.T m.I m.J)) rfl rfl rfl ?_
    refine sh_gR1 (len := 3) (x := .ref 49) (pc2 := 4) rfl rfl (sh_s41 hT.st) rfl rfl ?_
    refine sh_gI1 (len := 3) (x := m.I 48 4) (pc2 := 7) rfl rfl (sh_s48 hT.st) rfl rfl rfl ?_
    refine sh_w (i := (.iconst 1)) (len := 1) (pc2 := 8) (lv2 := [(0, .ref 42), (1, .int x1), (2, .int x2)]) (st2 := [.int 1, .int (m.I 48 4)]) (h2 := (sh_rep m.T m.I m.J)) rfl rfl rfl ?_
    refine sh_w (i := .isub) (len := 1) (pc2 := 9) (lv2 := [(0, .ref 42), (1, .int x1), (2, .int x2)]) (st2 := [.int ((m.I 48 4) - 1)]) (h2 := (sh_rep m.T m.I m.J)) rfl rfl rfl ?_
    refine sh_w (i := (.istore_n 3)) (len := 1) (pc2 := 10) (lv2 := [(3, .int ((m.I 48 4) - 1)), (0, .ref 42), (1, .int x1), (2, .int x2)]) (st2 := []) (h2 := (sh_rep m.T m.I m.J)) rfl rfl rfl ?_
    refine sh_w (i := (.aload_n 0)) (len := 1) (pc2 := 11) (lv2 := [(3, .int ((m.I 48 4) - 1)), (0, .ref 42), (1, .int x1), (2, .int x2)]) (st2 := [.ref 42]) (h2 := (sh_rep m.T m.I m.J)) rfl rfl rfl ?_
    refine sh_w (i := (.iload_n 3)) (len := 1) (pc2 := 12) (lv2 := [(3, .int ((m.I 48 4) - 1)), (0, .ref 42), (1, .int x1), (2, .int x2)]) (st2 := [.int ((m.I 48 4) - 1), .ref 42]) (h2 := (sh_rep m.T m.I m.J)) rfl rfl rfl ?_
    refine sh_w (i := (.sipush 160)) (len := 3) (pc2 := 15) (lv2 := [(3, .int ((m.I 48 4) - 1)), (0, .ref 42), (1, .int x1), (2, .int x2)]) (st2 := [.int 160, .int ((m.I 48 4) - 1), .ref 42]) (h2 := (sh_rep m.T m.I m.J)) rfl rfl rfl ?_
    exact kk
  rcases sh_bt_e e with ⟨m11, e1, rfl⟩ | ⟨r1, m11, e1, e⟩
  · obtain ⟨rfl, rfl⟩ := tg
    exact sh_Lk_tV (k2 := 107) (a := 41) (as := [.ref 42, .int ((m.I 48 4) - 1), .int 160]) (rest := []) rfl rfl rfl (fun hT => (sh_s41 hT.st)) rfl rfl ⟨Nat.le_of_ble_eq_true rfl, Nat.le_of_ble_eq_true rfl⟩ (sl_107 e1 ⟨rfl, rfl⟩) rfl (Nat.le_of_ble_eq_true rfl) (Nat.le_of_ble_eq_true rfl) (Nat.le_of_ble_eq_true rfl) (Nat.le_of_ble_eq_true rfl) rfl
  refine sh_Lk_cV (r := none) (st2 := []) (pc2 := 18) (k2 := 107) (a := 41) (as := [.ref 42, .int ((m.I 48 4) - 1), .int 160]) (rest := []) rfl rfl rfl (fun hT => (sh_s41 hT.st)) rfl rfl ⟨Nat.le_of_ble_eq_true rfl, Nat.le_of_ble_eq_true rfl⟩ (sl_107 e1 ⟨rfl, rfl⟩) rfl rfl (Nat.le_of_ble_eq_true rfl) (Nat.le_of_ble_eq_true rfl) ?_
  refine sh_Lk_lift (T := m11.T) (I := m11.I) (J := m11.J) (s := m11.s) (pc2 := 23) (lv2 := [(3, .int ((m.I 48 4) - 1)), (0, .ref 42), (1, .int x1), (2, .int x2)]) (st2 := [.int ((m.I 48 4) - 1), .ref 49]) (I2 := m11.I) (J2 := m11.J) (fun hT v kk => ?_) ?_
  · refine sh_w (i := (.aload_n 0)) (len := 1) (pc2 := 19) (lv2 := [(3, .int ((m.I 48 4) - 1)), (0, .ref 42), (1, .int x1), (2, .int x2)]) (st2 := [.ref 42]) (h2 := (sh_rep m11.T m11.I m11.J)) rfl rfl rfl ?_
    refine sh_gR1 (len := 3) (x := .ref 49) (pc2 := 22) rfl rfl (sh_s41 hT.st) rfl rfl ?_
    refine sh_w (i := (.iload_n 3)) (len := 1) (pc2 := 23) (lv2 := [(3, .int ((m.I 48 4) - 1)), (0, .ref 42), (1, .int x1), (2, .int x2)]) (st2 := [.int ((m.I 48 4) - 1), .ref 49]) (h2 := (sh_rep m11.T m11.I m11.J)) rfl rfl rfl ?_
    exact kk
  obtain ⟨r2, e2, e⟩ := sh_bc_e e
  refine sh_Lk_cV (r := (some (.int r2))) (st2 := [.int r2]) (pc2 := 26) (k2 := 108) (a := 48) (as := [.ref 49, .int ((m.I 48 4) - 1)]) (rest := []) rfl rfl rfl (fun hT => (sh_s48 hT.st)) rfl rfl ⟨Nat.le_of_ble_eq_true rfl, Nat.le_of_ble_eq_true rfl⟩ (sl_108 e2 ⟨rfl, rfl⟩) rfl rfl (Nat.le_of_ble_eq_true rfl) (Nat.le_of_ble_eq_true rfl) ?_
  refine sh_Lk_lift (T := m11.T) (I := m11.I) (J := m11.J) (s := m11.s) (pc2 := 30) (lv2 := [(4, .int r2), (3, .int ((m.I 48 4) - 1)), (0, .ref 42), (1, .int x1), (2, .int x2)]) (st2 := [.int r2]) (I2 := m11.I) (J2 := m11.J) (fun hT v kk => ?_) ?_
  · refine sh_w (i := (.istore 4)) (len := 2) (pc2 := 28) (lv2 := [(4, .int r2), (3, .int ((m.I 48 4) - 1)), (0, .ref 42), (1, .int x1), (2, .int x2)]) (st2 := []) (h2 := (sh_rep m11.T m11.I m11.J)) rfl rfl rfl ?_
    refine sh_w (i := (.iload 4)) (len := 2) (pc2 := 30) (lv2 := [(4, .int r2), (3, .int ((m.I 48 4) - 1)), (0, .ref 42), (1, .int x1), (2, .int x2)]) (st2 := [.int r2]) (h2 := (sh_rep m11.T m11.I m11.J)) rfl rfl rfl ?_
    exact kk
  refine sh_Lk_cS (r := (some (.int (sh_b2 (sf_123 r2))))) (st2 := [.int (sh_b2 (sf_123 r2))]) (pc2 := 33) (k2 := 123) (as := [.int r2]) (rest := []) rfl rfl (by decide) (Nat.le_of_ble_eq_true rfl) rfl rfl ⟨Nat.le_of_ble_eq_true rfl, Nat.le_of_ble_eq_true rfl⟩ (sl_123 (m := m11) rfl ⟨rfl, rfl⟩) rfl rfl (Nat.le_of_ble_eq_true rfl) (Nat.le_of_ble_eq_true rfl) ?_
  rcases sh_ite e with ⟨c, e⟩ | ⟨c, e⟩
  · refine sh_Lk_lift (T := m11.T) (I := m11.I) (J := m11.J) (s := m11.s) (pc2 := 42) (lv2 := [(4, .int r2), (3, .int ((m.I 48 4) - 1)), (0, .ref 42), (1, .int x1), (2, .int x2)]) (st2 := [.int x1, .int 4, .ref 3]) (I2 := m11.I) (J2 := m11.J) (fun hT v kk => ?_) ?_
    · refine sh_j0 (c := .eq) (off := (12)) (pc2 := 36) false rfl (sh_Zeqf c) rfl ?_
      refine sh_w (i := (.aload_n 0)) (len := 1) (pc2 := 37) (lv2 := [(4, .int r2), (3, .int ((m.I 48 4) - 1)), (0, .ref 42), (1, .int x1), (2, .int x2)]) (st2 := [.ref 42]) (h2 := (sh_rep m11.T m11.I m11.J)) rfl rfl rfl ?_
      refine sh_gR1 (len := 3) (x := .ref 3) (pc2 := 40) rfl rfl (sh_s41 hT.st) rfl rfl ?_
      refine sh_w (i := (.iconst 4)) (len := 1) (pc2 := 41) (lv2 := [(4, .int r2), (3, .int ((m.I 48 4) - 1)), (0, .ref 42), (1, .int x1), (2, .int x2)]) (st2 := [.int 4, .ref 3]) (h2 := (sh_rep m11.T m11.I m11.J)) rfl rfl rfl ?_
      refine sh_w (i := (.iload_n 1)) (len := 1) (pc2 := 42) (lv2 := [(4, .int r2), (3, .int ((m.I 48 4) - 1)), (0, .ref 42), (1, .int x1), (2, .int x2)]) (st2 := [.int x1, .int 4, .ref 3]) (h2 := (sh_rep m11.T m11.I m11.J)) rfl rfl rfl ?_
      exact kk
    rcases sh_bt_e e with ⟨m14, e4, rfl⟩ | ⟨r4, m14, e4, e⟩
    · obtain ⟨rfl, rfl⟩ := tg
      exact sh_Lk_tV (k2 := 50) (a := 2) (as := [.ref 3, .int 4, .int x1]) (rest := []) rfl rfl rfl (fun hT => hT.t2) rfl rfl ⟨Nat.le_of_ble_eq_true rfl, Nat.le_of_ble_eq_true rfl⟩ (sl_50 e4 ⟨rfl, rfl⟩) rfl (Nat.le_of_ble_eq_true rfl) (Nat.le_of_ble_eq_true rfl) (Nat.le_of_ble_eq_true rfl) (Nat.le_of_ble_eq_true rfl) rfl
    refine sh_Lk_cV (r := none) (st2 := []) (pc2 := 45) (k2 := 50) (a := 2) (as := [.ref 3, .int 4, .int x1]) (rest := []) rfl rfl rfl (fun hT => hT.t2) rfl rfl ⟨Nat.le_of_ble_eq_true rfl, Nat.le_of_ble_eq_true rfl⟩ (sl_50 e4 ⟨rfl, rfl⟩) rfl rfl (Nat.le_of_ble_eq_true rfl) (Nat.le_of_ble_eq_true rfl) ?_
    exact sh_Lk_sub (sh_sub_c rfl (sh_sub_c rfl (sh_sub_c rfl (sh_sub_c rfl (sh_sub_c rfl (sh_sub_n)))))) (sl_192_45 e tg)
  · refine sh_Lk_lift (T := m11.T) (I := m11.I) (J := m11.J) (s := m11.s) (pc2 := 45) (lv2 := [(4, .int r2), (3, .int ((m.I 48 4) - 1)), (0, .ref 42), (1, .int x1), (2, .int x2)]) (st2 := []) (I2 := m11.I) (J2 := m11.J) (fun hT v kk => ?_) ?_
    · refine sh_j0 (c := .eq) (off := (12)) (pc2 := 45) true rfl (sh_Zeqt c) rfl ?_
      exact kk
    exact sh_Lk_sub (sh_sub_c rfl (sh_sub_c rfl (sh_sub_c rfl (sh_sub_c rfl (sh_sub_c rfl (sh_sub_n)))))) (sl_192_45 e tg)
theorem sl_194_58 {x1 : Int32} {x2 : Int32} {x3 : Int32} {x5 : Int32} {y0 : Int32} {m m2 : sh_X} {o : Outcome} {z : ((Int32 × Int32 × sh_X) ⊕ (Option Unit × sh_X))} (e : sf_194_58 x1 x2 x3 x5 y0 m = some z) (tg : (sh_el (fun q => sh_Lk 194 26 [(0, .ref 42), (1, .int x1), (2, .int x2), (3, .int x3), (4, .int q.1), (5, .int q.2.1)] [] q.2.2 o m2 12 289) (sh_tVt o m2)) z) : sh_Lk 194 58 [(0, .ref 42), (1, .int x1), (2, .int x2), (3, .int x3), (5, .int x5)] [.int y0] m o m2 12 289 := by
  unfold sf_194_58 at e
  refine sh_Lk_lift (T := m.T) (I := m.I) (J := m.J) (s := m.s) (pc2 := 26) (lv2 := [(5, .int (x5 + (-1))), (4, .int y0), (0, .ref 42), (1, .int x1), (2, .int x2), (3, .int x3)]) (st2 := []) (I2 := m.I) (J2 := m.J) (fun hT v kk => ?_) ?_
  · refine sh_w (i := (.istore 4)) (len := 2) (pc2 := 60) (lv2 := [(4, .int y0), (0, .ref 42), (1, .int x1), (2, .int x2), (3, .int x3), (5, .int x5)]) (st2 := []) (h2 := (sh_rep m.T m.I m.J)) rfl rfl rfl ?_
    refine sh_w (i := (.iinc 5 (-1))) (len := 3) (pc2 := 63) (lv2 := [(5, .int (x5 + (-1))), (4, .int y0), (0, .ref 42), (1, .int x1), (2, .int x2), (3, .int x3)]) (st2 := []) (h2 := (sh_rep m.T m.I m.J)) rfl rfl rfl ?_
    refine sh_w (i := (.goto (-37))) (len := 3) (pc2 := 26) (lv2 := [(5, .int (x5 + (-1))), (4, .int y0), (0, .ref 42), (1, .int x1), (2, .int x2), (3, .int x3)]) (st2 := []) (h2 := (sh_rep m.T m.I m.J)) rfl rfl rfl ?_
    exact kk
  obtain rfl := Option.some.inj e
  exact sh_Lk_sub (sh_sub_c rfl (sh_sub_c rfl (sh_sub_c rfl (sh_sub_c rfl (sh_sub_c rfl (sh_sub_c rfl (sh_sub_n))))))) tg
theorem sl_194_134 {x1 : Int32} {x2 : Int32} {x3 : Int32} {x4 : Int32} {x6 : Int32} {y0 : Bool} {m m2 : sh_X} {o : Outcome} {z : ((Bool × Int32 × sh_X) ⊕ (Option Unit × sh_X))} (e : sf_194_134 x1 x2 x3 x4 x6 y0 m = some z) (tg : (sh_el (fun q => sh_Lk 194 90 [(0, .ref 42), (1, .int x1), (2, .int x2), (3, .int x3), (4, .int x4), (5, .int (sh_b2 q.1)), (6, .int q.2.1)] [] q.2.2 o m2 12 289) (sh_tVt o m2)) z) : sh_Lk 194 134 [(0, .ref 42), (1, .int x1), (2, .int x2), (3, .int x3), (4, .int x4), (6, .int x6)] [.int (sh_b2 y0)] m o m2 12 289 := by
  unfold sf_194_134 at e
  refine sh_Lk_lift (T := m.T) (I := m.I) (J := m.J) (s := m.s) (pc2 := 90) (lv2 := [(6, .int (x6 + 1)), (5, .int (sh_b2 y0)), (0, .ref 42), (1, .int x1), (2, .int x2), (3, .int x3), (4, .int x4)]) (st2 := []) (I2 := m.I) (J2 := m.J) (fun hT v kk => ?_) ?_
  · refine sh_w (i := (.istore 5)) (len := 2) (pc2 := 136) (lv2 := [(5, .int (sh_b2 y0)), (0, .ref 42), (1, .int x1), (2, .int x2), (3, .int x3), (4, .int x4), (6, .int x6)]) (st2 := []) (h2 := (sh_rep m.T m.I m.J)) rfl rfl rfl ?_
    refine sh_w (i := (.iinc 6 1)) (len := 3) (pc2 := 139) (lv2 := [(6, .int (x6 + 1)), (5, .int (sh_b2 y0)), (0, .ref 42), (1, .int x1), (2, .int x2), (3, .int x3), (4, .int x4)]) (st2 := []) (h2 := (sh_rep m.T m.I m.J)) rfl rfl rfl ?_
    refine sh_w (i := (.goto (-49))) (len := 3) (pc2 := 90) (lv2 := [(6, .int (x6 + 1)), (5, .int (sh_b2 y0)), (0, .ref 42), (1, .int x1), (2, .int x2), (3, .int x3), (4, .int x4)]) (st2 := []) (h2 := (sh_rep m.T m.I m.J)) rfl rfl rfl ?_
    exact kk
  obtain rfl := Option.some.inj e
  exact sh_Lk_sub (sh_sub_c rfl (sh_sub_c rfl (sh_sub_c rfl (sh_sub_c rfl (sh_sub_c rfl (sh_sub_c rfl (sh_sub_c rfl (sh_sub_n)))))))) tg
theorem sl_194_133 {x1 : Int32} {x2 : Int32} {x3 : Int32} {x4 : Int32} {x6 : Int32} {m m2 : sh_X} {o : Outcome} {z : ((Bool × Int32 × sh_X) ⊕ (Option Unit × sh_X))} (e : sf_194_133 x1 x2 x3 x4 x6 m = some z) (tg : (sh_el (fun q => sh_Lk 194 90 [(0, .ref 42), (1, .int x1), (2, .int x2), (3, .int x3), (4, .int x4), (5, .int (sh_b2 q.1)), (6, .int q.2.1)] [] q.2.2 o m2 12 289) (sh_tVt o m2)) z) : sh_Lk 194 133 [(0, .ref 42), (1, .int x1), (2, .int x2), (3, .int x3), (4, .int x4), (6, .int x6)] [] m o m2 12 289 := by
  unfold sf_194_133 at e
  refine sh_Lk_lift (T := m.T) (I := m.I) (J := m.J) (s := m.s) (pc2 := 134) (lv2 := [(0, .ref 42), (1, .int x1), (2, .int x2), (3, .int x3), (4, .int x4), (6, .int x6)]) (st2 := [.int 0]) (I2 := m.I) (J2 := m.J) (fun hT v kk => ?_) ?_
  · refine sh_w (i := (.iconst 0)) (len := 1) (pc2 := 134) (lv2 := [(0, .ref 42), (1, .int x1), (2, .int x2), (3, .int x3), (4, .int x4), (6, .int x6)]) (st2 := [.int 0]) (h2 := (sh_rep m.T m.I m.J)) rfl rfl rfl ?_
    exact kk
  exact sh_Lk_sub (sh_sub_c rfl (sh_sub_c rfl (sh_sub_c rfl (sh_sub_c rfl (sh_sub_c rfl (sh_sub_c rfl (sh_sub_n))))))) (sl_194_134 e tg)
theorem sl_194_188s {x2 : Int32} {x3 : Int32} {x4 : Int32} {x6 : Int32} {x7 : Int32} {x8 : Int32} {m m2 : sh_X} {o : Outcome} {z : ((Int32 × sh_X) ⊕ (Option Unit × sh_X))} (e : sf_194_188s x2 x3 x4 x6 x7 x8 m = some z) (tg : (sh_el (fun q => sh_Lk 194 188 [(0, .ref 42), (2, .int x2), (3, .int x3), (4, .int x4), (6, .int x6), (7, .int x7), (8, .int q.1)] [] q.2 o m2 12 289) (sh_tVt o m2)) z) : sh_Lk 194 188 [(0, .ref 42), (2, .int x2), (3, .int x3), (4, .int x4), (6, .int x6), (7, .int x7), (8, .int x8)] [] m o m2 12 289 := by
  unfold sf_194_188s at e
  refine sh_Lk_lift (T := m.T) (I := m.I) (J := m.J) (s := m.s) (pc2 := 191) (lv2 := [(0, .ref 42), (2, .int x2), (3, .int x3), (4, .int x4), (6, .int x6), (7, .int x7), (8, .int x8)]) (st2 := [.int x2, .int x8]) (I2 := m.I) (J2 := m.J) (fun hT v kk => ?_) ?_
  · refine sh_w (i := (.iload 8)) (len := 2) (pc2 := 190) (lv2 := [(0, .ref 42), (2, .int x2), (3, .int x3), (4, .int x4), (6, .int x6), (7, .int x7), (8, .int x8)]) (st2 := [.int x8]) (h2 := (sh_rep m.T m.I m.J)) rfl rfl rfl ?_
    refine sh_w (i := (.iload_n 2)) (len := 1) (pc2 := 191) (lv2 := [(0, .ref 42), (2, .int x2), (3, .int x3), (4, .int x4), (6, .int x6), (7, .int x7), (8, .int x8)]) (st2 := [.int x2, .int x8]) (h2 := (sh_rep m.T m.I m.J)) rfl rfl rfl ?_
    exact kk
  rcases sh_ite e with ⟨c, e⟩ | ⟨c, e⟩
  · refine sh_Lk_lift (T := m.T) (I := m.I) (J := m.J) (s := m.s) (pc2 := 206) (lv2 := [(0, .ref 42), (2, .int x2), (3, .int x3), (4, .int x4), (6, .int x6), (7, .int x7), (8, .int x8)]) (st2 := [.int (x3 + x8), .ref 49, .ref 45]) (I2 := m.I) (J2 := m.J) (fun hT v kk => ?_) ?_
    · refine sh_jc (c := .ge) (off := (37)) (pc2 := 194) false rfl (sh_Bgef c) rfl ?_
      refine sh_w (i := (.aload_n 0)) (len := 1) (pc2 := 195) (lv2 := [(0, .ref 42), (2, .int x2), (3, .int x3), (4, .int x4), (6, .int x6), (7, .int x7), (8, .int x8)]) (st2 := [.ref 42]) (h2 := (sh_rep m.T m.I m.J)) rfl rfl rfl ?_
      refine sh_gR1 (len := 3) (x := .ref 45) (pc2 := 198) rfl rfl (sh_s41 hT.st) rfl rfl ?_
      refine sh_w (i := (.aload_n 0)) (len := 1) (pc2 := 199) (lv2 := [(0, .ref 42), (2, .int x2), (3, .int x3), (4, .int x4), (6, .int x6), (7, .int x7), (8, .int x8)]) (st2 := [.ref 42, .ref 45]) (h2 := (sh_rep m.T m.I m.J)) rfl rfl rfl ?_
      refine sh_gR1 (len := 3) (x := .ref 49) (pc2 := 202) rfl rfl (sh_s41 hT.st) rfl rfl ?_
      refine sh_w (i := (.iload_n 3)) (len := 1) (pc2 := 203) (lv2 := [(0, .ref 42), (2, .int x2), (3, .int x3), (4, .int x4), (6, .int x6), (7, .int x7), (8, .int x8)]) (st2 := [.int x3, .ref 49, .ref 45]) (h2 := (sh_rep m.T m.I m.J)) rfl rfl rfl ?_
      refine sh_w (i := (.iload 8)) (len := 2) (pc2 := 205) (lv2 := [(0, .ref 42), (2, .int x2), (3, .int x3), (4, .int x4), (6, .int x6), (7, .int x7), (8, .int x8)]) (st2 := [.int x8, .int x3, .ref 49, .ref 45]) (h2 := (sh_rep m.T m.I m.J)) rfl rfl rfl ?_
      refine sh_w (i := .iadd) (len := 1) (pc2 := 206) (lv2 := [(0, .ref 42), (2, .int x2), (3, .int x3), (4, .int x4), (6, .int x6), (7, .int x7), (8, .int x8)]) (st2 := [.int (x3 + x8), .ref 49, .ref 45]) (h2 := (sh_rep m.T m.I m.J)) rfl rfl rfl ?_
      exact kk
    obtain ⟨r1, e1, e⟩ := sh_bc_e e
    refine sh_Lk_cV (r := (some (.int r1))) (st2 := [.int r1, .ref 45]) (pc2 := 209) (k2 := 117) (a := 48) (as := [.ref 49, .int (x3 + x8)]) (rest := [.ref 45]) rfl rfl rfl (fun hT => (sh_s48 hT.st)) rfl rfl ⟨Nat.le_of_ble_eq_true rfl, Nat.le_of_ble_eq_true rfl⟩ (sl_117 e1 ⟨rfl, rfl⟩) rfl rfl (Nat.le_of_ble_eq_true rfl) (Nat.le_of_ble_eq_true rfl) ?_
    refine sh_Lk_lift (T := m.T) (I := m.I) (J := m.J) (s := m.s) (pc2 := 219) (lv2 := [(0, .ref 42), (2, .int x2), (3, .int x3), (4, .int x4), (6, .int x6), (7, .int x7), (8, .int x8)]) (st2 := [.int x6, .int (x7 + (x8 * x6)), .int r1, .ref 45]) (I2 := m.I) (J2 := m.J) (fun hT v kk => ?_) ?_
    · refine sh_w (i := (.iload 7)) (len := 2) (pc2 := 211) (lv2 := [(0, .ref 42), (2, .int x2), (3, .int x3), (4, .int x4), (6, .int x6), (7, .int x7), (8, .int x8)]) (st2 := [.int x7, .int r1, .ref 45]) (h2 := (sh_rep m.T m.I m.J)) rfl rfl rfl ?_
      refine sh_w (i := (.iload 8)) (len := 2) (pc2 := 213) (lv2 := [(0, .ref 42), (2, .int x2), (3, .int x3), (4, .int x4), (6, .int x6), (7, .int x7), (8, .int x8)]) (st2 := [.int x8, .int x7, .int r1, .ref 45]) (h2 := (sh_rep m.T m.I m.J)) rfl rfl rfl ?_
      refine sh_w (i := (.iload 6)) (len := 2) (pc2 := 215) (lv2 := [(0, .ref 42), (2, .int x2), (3, .int x3), (4, .int x4), (6, .int x6), (7, .int x7), (8, .int x8)]) (st2 := [.int x6, .int x8, .int x7, .int r1, .ref 45]) (h2 := (sh_rep m.T m.I m.J)) rfl rfl rfl ?_
      refine sh_w (i := .imul) (len := 1) (pc2 := 216) (lv2 := [(0, .ref 42), (2, .int x2), (3, .int x3), (4, .int x4), (6, .int x6), (7, .int x7), (8, .int x8)]) (st2 := [.int (x8 * x6), .int x7, .int r1, .ref 45]) (h2 := (sh_rep m.T m.I m.J)) rfl rfl rfl ?_
      refine sh_w (i := .iadd) (len := 1) (pc2 := 217) (lv2 := [(0, .ref 42), (2, .int x2), (3, .int x3), (4, .int x4), (6, .int x6), (7, .int x7), (8, .int x8)]) (st2 := [.int (x7 + (x8 * x6)), .int r1, .ref 45]) (h2 := (sh_rep m.T m.I m.J)) rfl rfl rfl ?_
      refine sh_w (i := (.iload 6)) (len := 2) (pc2 := 219) (lv2 := [(0, .ref 42), (2, .int x2), (3, .int x3), (4, .int x4), (6, .int x6), (7, .int x7), (8, .int x8)]) (st2 := [.int x6, .int (x7 + (x8 * x6)), .int r1, .ref 45]) (h2 := (sh_rep m.T m.I m.J)) rfl rfl rfl ?_
      exact kk
    obtain ⟨r2, m12, e2, e⟩ := sh_bn_e e
    refine sh_Lk_cV (r := none) (st2 := []) (pc2 := 222) (k2 := 137) (a := 44) (as := [.ref 45, .int r1, .int (x7 + (x8 * x6)), .int x6]) (rest := []) rfl rfl rfl (fun hT => (sh_s44 hT.st)) rfl rfl ⟨Nat.le_of_ble_eq_true rfl, Nat.le_of_ble_eq_true rfl⟩ (sl_137 e2 ⟨rfl, rfl⟩) rfl rfl (Nat.le_of_ble_eq_true rfl) (Nat.le_of_ble_eq_true rfl) ?_
    refine sh_Lk_lift (T := m12.T) (I := m12.I) (J := m12.J) (s := m12.s) (pc2 := 188) (lv2 := [(8, .int (x8 + 1)), (0, .ref 42), (2, .int x2), (3, .int x3), (4, .int x4), (6, .int x6), (7, .int x7)]) (st2 := []) (I2 := m12.I) (J2 := m12.J) (fun hT v kk => ?_) ?_
    · refine sh_w (i := (.iinc 8 1)) (len := 3) (pc2 := 225) (lv2 := [(8, .int (x8 + 1)), (0, .ref 42), (2, .int x2), (3, .int x3), (4, .int x4), (6, .int x6), (7, .int x7)]) (st2 := []) (h2 := (sh_rep m12.T m12.I m12.J)) rfl rfl rfl ?_
      refine sh_w (i := (.goto (-37))) (len := 3) (pc2 := 188) (lv2 := [(8, .int (x8 + 1)), (0, .ref 42), (2, .int x2), (3, .int x3), (4, .int x4), (6, .int x6), (7, .int x7)]) (st2 := []) (h2 := (sh_rep m12.T m12.I m12.J)) rfl rfl rfl ?_
      exact kk
    obtain rfl := Option.some.inj e
    exact sh_Lk_sub (sh_sub_c rfl (sh_sub_c rfl (sh_sub_c rfl (sh_sub_c rfl (sh_sub_c rfl (sh_sub_c rfl (sh_sub_c rfl (sh_sub_n)))))))) tg
  · refine sh_Lk_lift (T := m.T) (I := m.I) (J := m.J) (s := m.s) (pc2 := 240) (lv2 := [(0, .ref 42), (2, .int x2), (3, .int x3), (4, .int x4), (6, .int x6), (7, .int x7), (8, .int x8)]) (st2 := [.int x7, .int (x4 + (512 * x2)), .int x2, .ref 42]) (I2 := m.I) (J2 := m.J) (fun hT v kk => ?_) ?_
    · refine sh_jc (c := .ge) (off := (37)) (pc2 := 228) true rfl (sh_Bget c) rfl ?_
      refine sh_w (i := (.aload_n 0)) (len := 1) (pc2 := 229) (lv2 := [(0, .ref 42), (2, .int x2), (3, .int x3), (4, .int x4), (6, .int x6), (7, .int x7), (8, .int x8)]) (st2 := [.ref 42]) (h2 := (sh_rep m.T m.I m.J)) rfl rfl rfl ?_
      refine sh_w (i := (.iload_n 2)) (len := 1) (pc2 := 230) (lv2 := [(0, .ref 42), (2, .int x2), (3, .int x3), (4, .int x4), (6, .int x6), (7, .int x7), (8, .int x8)]) (st2 := [.int x2, .ref 42]) (h2 := (sh_rep m.T m.I m.J)) rfl rfl rfl ?_
      refine sh_w (i := (.iload 4)) (len := 2) (pc2 := 232) (lv2 := [(0, .ref 42), (2, .int x2), (3, .int x3), (4, .int x4), (6, .int x6), (7, .int x7), (8, .int x8)]) (st2 := [.int x4, .int x2, .ref 42]) (h2 := (sh_rep m.T m.I m.J)) rfl rfl rfl ?_
      refine sh_w (i := (.sipush 512)) (len := 3) (pc2 := 235) (lv2 := [(0, .ref 42), (2, .int x2), (3, .int x3), (4, .int x4), (6, .int x6), (7, .int x7), (8, .int x8)]) (st2 := [.int 512, .int x4, .int x2, .ref 42]) (h2 := (sh_rep m.T m.I m.J)) rfl rfl rfl ?_
      refine sh_w (i := (.iload_n 2)) (len := 1) (pc2 := 236) (lv2 := [(0, .ref 42), (2, .int x2), (3, .int x3), (4, .int x4), (6, .int x6), (7, .int x7), (8, .int x8)]) (st2 := [.int x2, .int 512, .int x4, .int x2, .ref 42]) (h2 := (sh_rep m.T m.I m.J)) rfl rfl rfl ?_
      refine sh_w (i := .imul) (len := 1) (pc2 := 237) (lv2 := [(0, .ref 42), (2, .int x2), (3, .int x3), (4, .int x4), (6, .int x6), (7, .int x7), (8, .int x8)]) (st2 := [.int (512 * x2), .int x4, .int x2, .ref 42]) (h2 := (sh_rep m.T m.I m.J)) rfl rfl rfl ?_
      refine sh_w (i := .iadd) (len := 1) (pc2 := 238) (lv2 := [(0, .ref 42), (2, .int x2), (3, .int x3), (4, .int x4), (6, .int x6), (7, .int x7), (8, .int x8)]) (st2 := [.int (x4 + (512 * x2)), .int x2, .ref 42]) (h2 := (sh_rep m.T m.I m.J)) rfl rfl rfl ?_
      refine sh_w (i := (.iload 7)) (len := 2) (pc2 := 240) (lv2 := [(0, .ref 42), (2, .int x2), (3, .int x3), (4, .int x4), (6, .int x6), (7, .int x7), (8, .int x8)]) (st2 := [.int x7, .int (x4 + (512 * x2)), .int x2, .ref 42]) (h2 := (sh_rep m.T m.I m.J)) rfl rfl rfl ?_
      exact kk
    obtain ⟨r3, m13, e3, e⟩ := sh_bn_e e
    refine sh_Lk_cV (r := none) (st2 := []) (pc2 := 243) (k2 := 167) (a := 41) (as := [.ref 42, .int x2, .int (x4 + (512 * x2)), .int x7]) (rest := []) rfl rfl rfl (fun hT => (sh_s41 hT.st)) rfl rfl ⟨Nat.le_of_ble_eq_true rfl, Nat.le_of_ble_eq_true rfl⟩ (sl_167 e3 ⟨rfl, rfl⟩) rfl rfl (Nat.le_of_ble_eq_true rfl) (Nat.le_of_ble_eq_true rfl) ?_
    obtain rfl := Option.some.inj e
    obtain ⟨rfl, rfl⟩ := tg
    exact sh_Lk_ret (i := .return_) rfl rfl rfl (Nat.le_of_ble_eq_true rfl) (Nat.le_of_ble_eq_true rfl)
theorem sl_194_188 {x2 : Int32} {x3 : Int32} {x4 : Int32} {x6 : Int32} {x7 : Int32} {x8 : Int32} {m m2 : sh_X} {o : Outcome} {z : (Option Unit × sh_X)} (e : sf_194_188 x2 x3 x4 x6 x7 x8 m = some z) (tg : (sh_tVt o m2) z) : sh_Lk 194 188 [(0, .ref 42), (2, .int x2), (3, .int x3), (4, .int x4), (6, .int x6), (7, .int x7), (8, .int x8)] [] m o m2 12 289 := by
  unfold sf_194_188 at e
  exact sh_while_lk (P := fun q => sh_Lk 194 188 [(0, .ref 42), (2, .int x2), (3, .int x3), (4, .int x4), (6, .int x6), (7, .int x7), (8, .int q.1)] [] q.2 o m2 12 289) (Q := (sh_tVt o m2)) (fun q z e tg => sl_194_188s (x2 := x2) (x3 := x3) (x4 := x4) (x6 := x6) (x7 := x7) (x8 := q.1) (m := q.2) e tg) (s := (x8, m)) e tg
theorem sl_194_156 {x1 : Int32} {x2 : Int32} {x3 : Int32} {x4 : Int32} {m m2 : sh_X} {o : Outcome} {z : (Option Unit × sh_X)} (e : sf_194_156 x1 x2 x3 x4 m = some z) (tg : (sh_tVt o m2) z) : sh_Lk 194 156 [(0, .ref 42), (1, .int x1), (2, .int x2), (3, .int x3), (4, .int x4)] [] m o m2 12 289 := by
  unfold sf_194_156 at e
  refine sh_Lk_lift (T := m.T) (I := m.I) (J := m.J) (s := m.s) (pc2 := 158) (lv2 := [(0, .ref 42), (1, .int x1), (2, .int x2), (3, .int x3), (4, .int x4)]) (st2 := [.int x4]) (I2 := m.I) (J2 := m.J) (fun hT v kk => ?_) ?_
  · refine sh_w (i := (.iload 4)) (len := 2) (pc2 := 158) (lv2 := [(0, .ref 42), (1, .int x1), (2, .int x2), (3, .int x3), (4, .int x4)]) (st2 := [.int x4]) (h2 := (sh_rep m.T m.I m.J)) rfl rfl rfl ?_
    exact kk
  refine sh_Lk_cS (r := (some (.int (sf_94 x4)))) (st2 := [.int (sf_94 x4)]) (pc2 := 161) (k2 := 94) (as := [.int x4]) (rest := []) rfl rfl (by decide) (Nat.le_of_ble_eq_true rfl) rfl rfl ⟨Nat.le_of_ble_eq_true rfl, Nat.le_of_ble_eq_true rfl⟩ (sl_94 (m := m) rfl ⟨rfl, rfl⟩) rfl rfl (Nat.le_of_ble_eq_true rfl) (Nat.le_of_ble_eq_true rfl) ?_
  refine sh_Lk_lift (T := m.T) (I := m.I) (J := m.J) (s := m.s) (pc2 := 169) (lv2 := [(6, .int (sf_94 x4)), (0, .ref 42), (1, .int x1), (2, .int x2), (3, .int x3), (4, .int x4)]) (st2 := [.int x1, .int (x2 * (sf_94 x4)), .ref 42]) (I2 := m.I) (J2 := m.J) (fun hT v kk => ?_) ?_
  · refine sh_w (i := (.istore 6)) (len := 2) (pc2 := 163) (lv2 := [(6, .int (sf_94 x4)), (0, .ref 42), (1, .int x1), (2, .int x2), (3, .int x3), (4, .int x4)]) (st2 := []) (h2 := (sh_rep m.T m.I m.J)) rfl rfl rfl ?_
    refine sh_w (i := (.aload_n 0)) (len := 1) (pc2 := 164) (lv2 := [(6, .int (sf_94 x4)), (0, .ref 42), (1, .int x1), (2, .int x2), (3, .int x3), (4, .int x4)]) (st2 := [.ref 42]) (h2 := (sh_rep m.T m.I m.J)) rfl rfl rfl ?_
    refine sh_w (i := (.iload_n 2)) (len := 1) (pc2 := 165) (lv2 := [(6, .int (sf_94 x4)), (0, .ref 42), (1, .int x1), (2, .int x2), (3, .int x3), (4, .int x4)]) (st2 := [.int x2, .ref 42]) (h2 := (sh_rep m.T m.I m.J)) rfl rfl rfl ?_
    refine sh_w (i := (.iload 6)) (len := 2) (pc2 := 167) (lv2 := [(6, .int (sf_94 x4)), (0, .ref 42), (1, .int x1), (2, .int x2), (3, .int x3), (4, .int x4)]) (st2 := [.int (sf_94 x4), .int x2, .ref 42]) (h2 := (sh_rep m.T m.I m.J)) rfl rfl rfl ?_
    refine sh_w (i := .imul) (len := 1) (pc2 := 168) (lv2 := [(6, .int (sf_94 x4)), (0, .ref 42), (1, .int x1), (2, .int x2), (3, .int x3), (4, .int x4)]) (st2 := [.int (x2 * (sf_94 x4)), .ref 42]) (h2 := (sh_rep m.T m.I m.J)) rfl rfl rfl ?_
    refine sh_w (i := (.iload_n 1)) (len := 1) (pc2 := 169) (lv2 := [(6, .int (sf_94 x4)), (0, .ref 42), (1, .int x1), (2, .int x2), (3, .int x3), (4, .int x4)]) (st2 := [.int x1, .int (x2 * (sf_94 x4)), .ref 42]) (h2 := (sh_rep m.T m.I m.J)) rfl rfl rfl ?_
    exact kk
  rcases sh_bt_e e with ⟨m12, e2, rfl⟩ | ⟨r2, m12, e2, e⟩
  · obtain ⟨rfl, rfl⟩ := tg
    exact sh_Lk_tV (k2 := 90) (a := 41) (as := [.ref 42, .int (x2 * (sf_94 x4)), .int x1]) (rest := []) rfl rfl rfl (fun hT => (sh_s41 hT.st)) rfl rfl ⟨Nat.le_of_ble_eq_true rfl, Nat.le_of_ble_eq_true rfl⟩ (sl_90 e2 ⟨rfl, rfl⟩) rfl (Nat.le_of_ble_eq_true rfl) (Nat.le_of_ble_eq_true rfl) (Nat.le_of_ble_eq_true rfl) (Nat.le_of_ble_eq_true rfl) rfl
  refine sh_Lk_cV (r := none) (st2 := []) (pc2 := 172) (k2 := 90) (a := 41) (as := [.ref 42, .int (x2 * (sf_94 x4)), .int x1]) (rest := []) rfl rfl rfl (fun hT => (sh_s41 hT.st)) rfl rfl ⟨Nat.le_of_ble_eq_true rfl, Nat.le_of_ble_eq_true rfl⟩ (sl_90 e2 ⟨rfl, rfl⟩) rfl rfl (Nat.le_of_ble_eq_true rfl) (Nat.le_of_ble_eq_true rfl) ?_
  refine sh_Lk_lift (T := m12.T) (I := m12.I) (J := m12.J) (s := m12.s) (pc2 := 180) (lv2 := [(6, .int (sf_94 x4)), (0, .ref 42), (1, .int x1), (2, .int x2), (3, .int x3), (4, .int x4)]) (st2 := [.int (x2 * (sf_94 x4)), .ref 45]) (I2 := m12.I) (J2 := m12.J) (fun hT v kk => ?_) ?_
  · refine sh_w (i := (.aload_n 0)) (len := 1) (pc2 := 173) (lv2 := [(6, .int (sf_94 x4)), (0, .ref 42), (1, .int x1), (2, .int x2), (3, .int x3), (4, .int x4)]) (st2 := [.ref 42]) (h2 := (sh_rep m12.T m12.I m12.J)) rfl rfl rfl ?_
    refine sh_gR1 (len := 3) (x := .ref 45) (pc2 := 176) rfl rfl (sh_s41 hT.st) rfl rfl ?_
    refine sh_w (i := (.iload_n 2)) (len := 1) (pc2 := 177) (lv2 := [(6, .int (sf_94 x4)), (0, .ref 42), (1, .int x1), (2, .int x2), (3, .int x3), (4, .int x4)]) (st2 := [.int x2, .ref 45]) (h2 := (sh_rep m12.T m12.I m12.J)) rfl rfl rfl ?_
    refine sh_w (i := (.iload 6)) (len := 2) (pc2 := 179) (lv2 := [(6, .int (sf_94 x4)), (0, .ref 42), (1, .int x1), (2, .int x2), (3, .int x3), (4, .int x4)]) (st2 := [.int (sf_94 x4), .int x2, .ref 45]) (h2 := (sh_rep m12.T m12.I m12.J)) rfl rfl rfl ?_
    refine sh_w (i := .imul) (len := 1) (pc2 := 180) (lv2 := [(6, .int (sf_94 x4)), (0, .ref 42), (1, .int x1), (2, .int x2), (3, .int x3), (4, .int x4)]) (st2 := [.int (x2 * (sf_94 x4)), .ref 45]) (h2 := (sh_rep m12.T m12.I m12.J)) rfl rfl rfl ?_
    exact kk
  obtain ⟨r3, m13, e3, e⟩ := sh_bn_e e
  refine sh_Lk_cV (r := (some (.int r3))) (st2 := [.int r3]) (pc2 := 183) (k2 := 98) (a := 44) (as := [.ref 45, .int (x2 * (sf_94 x4))]) (rest := []) rfl rfl rfl (fun hT => (sh_s44 hT.st)) rfl rfl ⟨Nat.le_of_ble_eq_true rfl, Nat.le_of_ble_eq_true rfl⟩ (sl_98 e3 ⟨rfl, rfl⟩) rfl rfl (Nat.le_of_ble_eq_true rfl) (Nat.le_of_ble_eq_true rfl) ?_
  refine sh_Lk_lift (T := m13.T) (I := m13.I) (J := m13.J) (s := m13.s) (pc2 := 188) (lv2 := [(8, .int 0), (7, .int r3), (6, .int (sf_94 x4)), (0, .ref 42), (1, .int x1), (2, .int x2), (3, .int x3), (4, .int x4)]) (st2 := []) (I2 := m13.I) (J2 := m13.J) (fun hT v kk => ?_) ?_
  · refine sh_w (i := (.istore 7)) (len := 2) (pc2 := 185) (lv2 := [(7, .int r3), (6, .int (sf_94 x4)), (0, .ref 42), (1, .int x1), (2, .int x2), (3, .int x3), (4, .int x4)]) (st2 := []) (h2 := (sh_rep m13.T m13.I m13.J)) rfl rfl rfl ?_
    refine sh_w (i := (.iconst 0)) (len := 1) (pc2 := 186) (lv2 := [(7, .int r3), (6, .int (sf_94 x4)), (0, .ref 42), (1, .int x1), (2, .int x2), (3, .int x3), (4, .int x4)]) (st2 := [.int 0]) (h2 := (sh_rep m13.T m13.I m13.J)) rfl rfl rfl ?_
    refine sh_w (i := (.istore 8)) (len := 2) (pc2 := 188) (lv2 := [(8, .int 0), (7, .int r3), (6, .int (sf_94 x4)), (0, .ref 42), (1, .int x1), (2, .int x2), (3, .int x3), (4, .int x4)]) (st2 := []) (h2 := (sh_rep m13.T m13.I m13.J)) rfl rfl rfl ?_
    exact kk
  exact sh_Lk_sub (sh_sub_c rfl (sh_sub_c rfl (sh_sub_c rfl (sh_sub_c rfl (sh_sub_c rfl (sh_sub_c rfl (sh_sub_c rfl (sh_sub_n)))))))) (sl_194_188 e tg)
theorem sl_194_90s {x1 : Int32} {x2 : Int32} {x3 : Int32} {x4 : Int32} {x5 : Bool} {x6 : Int32} {m m2 : sh_X} {o : Outcome} {z : ((Bool × Int32 × sh_X) ⊕ (Option Unit × sh_X))} (e : sf_194_90s x1 x2 x3 x4 x5 x6 m = some z) (tg : (sh_el (fun q => sh_Lk 194 90 [(0, .ref 42), (1, .int x1), (2, .int x2), (3, .int x3), (4, .int x4), (5, .int (sh_b2 q.1)), (6, .int q.2.1)] [] q.2.2 o m2 12 289) (sh_tVt o m2)) z) : sh_Lk 194 90 [(0, .ref 42), (1, .int x1), (2, .int x2), (3, .int x3), (4, .int x4), (5, .int (sh_b2 x5)), (6, .int x6)] [] m o m2 12 289 := by
  unfold sf_194_90s at e
  refine sh_Lk_lift (T := m.T) (I := m.I) (J := m.J) (s := m.s) (pc2 := 99) (lv2 := [(0, .ref 42), (1, .int x1), (2, .int x2), (3, .int x3), (4, .int x4), (5, .int (sh_b2 x5)), (6, .int x6)]) (st2 := [.int (m.I 48 4), .int x6]) (I2 := m.I) (J2 := m.J) (fun hT v kk => ?_) ?_
  · refine sh_w (i := (.iload 6)) (len := 2) (pc2 := 92) (lv2 := [(0, .ref 42), (1, .int x1), (2, .int x2), (3, .int x3), (4, .int x4), (5, .int (sh_b2 x5)), (6, .int x6)]) (st2 := [.int x6]) (h2 := (sh_rep m.T m.I m.J)) rfl rfl rfl ?_
    refine sh_w (i := (.aload_n 0)) (len := 1) (pc2 := 93) (lv2 := [(0, .ref 42), (1, .int x1), (2, .int x2), (3, .int x3), (4, .int x4), (5, .int (sh_b2 x5)), (6, .int x6)]) (st2 := [.ref 42, .int x6]) (h2 := (sh_rep m.T m.I m.J)) rfl rfl rfl ?_
    refine sh_gR1 (len := 3) (x := .ref 49) (pc2 := 96) rfl rfl (sh_s41 hT.st) rfl rfl ?_
    refine sh_gI1 (len := 3) (x := m.I 48 4) (pc2 := 99) rfl rfl (sh_s48 hT.st) rfl rfl rfl ?_
    exact kk
  rcases sh_ite e with ⟨c, e⟩ | ⟨c, e⟩
  · refine sh_Lk_lift (T := m.T) (I := m.I) (J := m.J) (s := m.s) (pc2 := 107) (lv2 := [(0, .ref 42), (1, .int x1), (2, .int x2), (3, .int x3), (4, .int x4), (5, .int (sh_b2 x5)), (6, .int x6)]) (st2 := [.int x4, .int x6, .ref 42]) (I2 := m.I) (J2 := m.J) (fun hT v kk => ?_) ?_
    · refine sh_jc (c := .ge) (off := (43)) (pc2 := 102) false rfl (sh_Bgef c) rfl ?_
      refine sh_w (i := (.aload_n 0)) (len := 1) (pc2 := 103) (lv2 := [(0, .ref 42), (1, .int x1), (2, .int x2), (3, .int x3), (4, .int x4), (5, .int (sh_b2 x5)), (6, .int x6)]) (st2 := [.ref 42]) (h2 := (sh_rep m.T m.I m.J)) rfl rfl rfl ?_
      refine sh_w (i := (.iload 6)) (len := 2) (pc2 := 105) (lv2 := [(0, .ref 42), (1, .int x1), (2, .int x2), (3, .int x3), (4, .int x4), (5, .int (sh_b2 x5)), (6, .int x6)]) (st2 := [.int x6, .ref 42]) (h2 := (sh_rep m.T m.I m.J)) rfl rfl rfl ?_
      refine sh_w (i := (.iload 4)) (len := 2) (pc2 := 107) (lv2 := [(0, .ref 42), (1, .int x1), (2, .int x2), (3, .int x3), (4, .int x4), (5, .int (sh_b2 x5)), (6, .int x6)]) (st2 := [.int x4, .int x6, .ref 42]) (h2 := (sh_rep m.T m.I m.J)) rfl rfl rfl ?_
      exact kk
    rcases sh_bt_e e with ⟨m11, e1, rfl⟩ | ⟨r1, m11, e1, e⟩
    · obtain ⟨rfl, rfl⟩ := tg
      exact sh_Lk_tV (k2 := 107) (a := 41) (as := [.ref 42, .int x6, .int x4]) (rest := []) rfl rfl rfl (fun hT => (sh_s41 hT.st)) rfl rfl ⟨Nat.le_of_ble_eq_true rfl, Nat.le_of_ble_eq_true rfl⟩ (sl_107 e1 ⟨rfl, rfl⟩) rfl (Nat.le_of_ble_eq_true rfl) (Nat.le_of_ble_eq_true rfl) (Nat.le_of_ble_eq_true rfl) (Nat.le_of_ble_eq_true rfl) rfl
    refine sh_Lk_cV (r := none) (st2 := []) (pc2 := 110) (k2 := 107) (a := 41) (as := [.ref 42, .int x6, .int x4]) (rest := []) rfl rfl rfl (fun hT => (sh_s41 hT.st)) rfl rfl ⟨Nat.le_of_ble_eq_true rfl, Nat.le_of_ble_eq_true rfl⟩ (sl_107 e1 ⟨rfl, rfl⟩) rfl rfl (Nat.le_of_ble_eq_true rfl) (Nat.le_of_ble_eq_true rfl) ?_
    refine sh_Lk_lift (T := m11.T) (I := m11.I) (J := m11.J) (s := m11.s) (pc2 := 112) (lv2 := [(0, .ref 42), (1, .int x1), (2, .int x2), (3, .int x3), (4, .int x4), (5, .int (sh_b2 x5)), (6, .int x6)]) (st2 := [.int (sh_b2 x5)]) (I2 := m11.I) (J2 := m11.J) (fun hT v kk => ?_) ?_
    · refine sh_w (i := (.iload 5)) (len := 2) (pc2 := 112) (lv2 := [(0, .ref 42), (1, .int x1), (2, .int x2), (3, .int x3), (4, .int x4), (5, .int (sh_b2 x5)), (6, .int x6)]) (st2 := [.int (sh_b2 x5)]) (h2 := (sh_rep m11.T m11.I m11.J)) rfl rfl rfl ?_
      exact kk
    rcases sh_ite e with ⟨c, e⟩ | ⟨c, e⟩
    · refine sh_Lk_lift (T := m11.T) (I := m11.I) (J := m11.J) (s := m11.s) (pc2 := 121) (lv2 := [(0, .ref 42), (1, .int x1), (2, .int x2), (3, .int x3), (4, .int x4), (5, .int (sh_b2 x5)), (6, .int x6)]) (st2 := [.int x6, .ref 49]) (I2 := m11.I) (J2 := m11.J) (fun hT v kk => ?_) ?_
      · refine sh_j0 (c := .eq) (off := (21)) (pc2 := 115) false rfl (sh_Zeqf c) rfl ?_
        refine sh_w (i := (.aload_n 0)) (len := 1) (pc2 := 116) (lv2 := [(0, .ref 42), (1, .int x1), (2, .int x2), (3, .int x3), (4, .int x4), (5, .int (sh_b2 x5)), (6, .int x6)]) (st2 := [.ref 42]) (h2 := (sh_rep m11.T m11.I m11.J)) rfl rfl rfl ?_
        refine sh_gR1 (len := 3) (x := .ref 49) (pc2 := 119) rfl rfl (sh_s41 hT.st) rfl rfl ?_
        refine sh_w (i := (.iload 6)) (len := 2) (pc2 := 121) (lv2 := [(0, .ref 42), (1, .int x1), (2, .int x2), (3, .int x3), (4, .int x4), (5, .int (sh_b2 x5)), (6, .int x6)]) (st2 := [.int x6, .ref 49]) (h2 := (sh_rep m11.T m11.I m11.J)) rfl rfl rfl ?_
        exact kk
      obtain ⟨r2, e2, e⟩ := sh_bc_e e
      refine sh_Lk_cV (r := (some (.int r2))) (st2 := [.int r2]) (pc2 := 124) (k2 := 108) (a := 48) (as := [.ref 49, .int x6]) (rest := []) rfl rfl rfl (fun hT => (sh_s48 hT.st)) rfl rfl ⟨Nat.le_of_ble_eq_true rfl, Nat.le_of_ble_eq_true rfl⟩ (sl_108 e2 ⟨rfl, rfl⟩) rfl rfl (Nat.le_of_ble_eq_true rfl) (Nat.le_of_ble_eq_true rfl) ?_
      refine sh_Lk_lift (T := m11.T) (I := m11.I) (J := m11.J) (s := m11.s) (pc2 := 126) (lv2 := [(0, .ref 42), (1, .int x1), (2, .int x2), (3, .int x3), (4, .int x4), (5, .int (sh_b2 x5)), (6, .int x6)]) (st2 := [.int x4, .int r2]) (I2 := m11.I) (J2 := m11.J) (fun hT v kk => ?_) ?_
      · refine sh_w (i := (.iload 4)) (len := 2) (pc2 := 126) (lv2 := [(0, .ref 42), (1, .int x1), (2, .int x2), (3, .int x3), (4, .int x4), (5, .int (sh_b2 x5)), (6, .int x6)]) (st2 := [.int x4, .int r2]) (h2 := (sh_rep m11.T m11.I m11.J)) rfl rfl rfl ?_
        exact kk
      rcases sh_ite e with ⟨c, e⟩ | ⟨c, e⟩
      · refine sh_Lk_lift (T := m11.T) (I := m11.I) (J := m11.J) (s := m11.s) (pc2 := 134) (lv2 := [(0, .ref 42), (1, .int x1), (2, .int x2), (3, .int x3), (4, .int x4), (5, .int (sh_b2 x5)), (6, .int x6)]) (st2 := [.int 1]) (I2 := m11.I) (J2 := m11.J) (fun hT v kk => ?_) ?_
        · refine sh_jc (c := .ne) (off := (7)) (pc2 := 129) false rfl (sh_Bnef c) rfl ?_
          refine sh_w (i := (.iconst 1)) (len := 1) (pc2 := 130) (lv2 := [(0, .ref 42), (1, .int x1), (2, .int x2), (3, .int x3), (4, .int x4), (5, .int (sh_b2 x5)), (6, .int x6)]) (st2 := [.int 1]) (h2 := (sh_rep m11.T m11.I m11.J)) rfl rfl rfl ?_
          refine sh_w (i := (.goto 4)) (len := 3) (pc2 := 134) (lv2 := [(0, .ref 42), (1, .int x1), (2, .int x2), (3, .int x3), (4, .int x4), (5, .int (sh_b2 x5)), (6, .int x6)]) (st2 := [.int 1]) (h2 := (sh_rep m11.T m11.I m11.J)) rfl rfl rfl ?_
          exact kk
        exact sh_Lk_sub (sh_sub_c rfl (sh_sub_c rfl (sh_sub_c rfl (sh_sub_c rfl (sh_sub_c rfl (sh_sub_c rfl (sh_sub_n))))))) (sl_194_134 e tg)
      · refine sh_Lk_lift (T := m11.T) (I := m11.I) (J := m11.J) (s := m11.s) (pc2 := 133) (lv2 := [(0, .ref 42), (1, .int x1), (2, .int x2), (3, .int x3), (4, .int x4), (5, .int (sh_b2 x5)), (6, .int x6)]) (st2 := []) (I2 := m11.I) (J2 := m11.J) (fun hT v kk => ?_) ?_
        · refine sh_jc (c := .ne) (off := (7)) (pc2 := 133) true rfl (sh_Bnet c) rfl ?_
          exact kk
        exact sh_Lk_sub (sh_sub_c rfl (sh_sub_c rfl (sh_sub_c rfl (sh_sub_c rfl (sh_sub_c rfl (sh_sub_c rfl (sh_sub_n))))))) (sl_194_133 e tg)
    · refine sh_Lk_lift (T := m11.T) (I := m11.I) (J := m11.J) (s := m11.s) (pc2 := 133) (lv2 := [(0, .ref 42), (1, .int x1), (2, .int x2), (3, .int x3), (4, .int x4), (5, .int (sh_b2 x5)), (6, .int x6)]) (st2 := []) (I2 := m11.I) (J2 := m11.J) (fun hT v kk => ?_) ?_
      · refine sh_j0 (c := .eq) (off := (21)) (pc2 := 133) true rfl (sh_Zeqt c) rfl ?_
        exact kk
      exact sh_Lk_sub (sh_sub_c rfl (sh_sub_c rfl (sh_sub_c rfl (sh_sub_c rfl (sh_sub_c rfl (sh_sub_c rfl (sh_sub_n))))))) (sl_194_133 e tg)
  · refine sh_Lk_lift (T := m.T) (I := m.I) (J := m.J) (s := m.s) (pc2 := 144) (lv2 := [(0, .ref 42), (1, .int x1), (2, .int x2), (3, .int x3), (4, .int x4), (5, .int (sh_b2 x5)), (6, .int x6)]) (st2 := [.int (sh_b2 x5)]) (I2 := m.I) (J2 := m.J) (fun hT v kk => ?_) ?_
    · refine sh_jc (c := .ge) (off := (43)) (pc2 := 142) true rfl (sh_Bget c) rfl ?_
      refine sh_w (i := (.iload 5)) (len := 2) (pc2 := 144) (lv2 := [(0, .ref 42), (1, .int x1), (2, .int x2), (3, .int x3), (4, .int x4), (5, .int (sh_b2 x5)), (6, .int x6)]) (st2 := [.int (sh_b2 x5)]) (h2 := (sh_rep m.T m.I m.J)) rfl rfl rfl ?_
      exact kk
    rcases sh_ite e with ⟨c, e⟩ | ⟨c, e⟩
    · refine sh_Lk_lift (T := m.T) (I := m.I) (J := m.J) (s := m.s) (pc2 := 156) (lv2 := [(0, .ref 42), (1, .int x1), (2, .int x2), (3, .int x3), (4, .int x4), (5, .int (sh_b2 x5)), (6, .int x6)]) (st2 := []) (I2 := m.I) (J2 := m.J) (fun hT v kk => ?_) ?_
      · refine sh_j0 (c := .ne) (off := (12)) (pc2 := 156) true rfl (sh_Znet c) rfl ?_
        exact kk
      obtain ⟨_, eu, rfl⟩ := sh_up_e e
      exact sh_Lk_sub (sh_sub_c rfl (sh_sub_c rfl (sh_sub_c rfl (sh_sub_c rfl (sh_sub_c rfl (sh_sub_n)))))) (sl_194_156 eu tg)
    · refine sh_Lk_lift (T := m.T) (I := m.I) (J := m.J) (s := m.s) (pc2 := 153) (lv2 := [(0, .ref 42), (1, .int x1), (2, .int x2), (3, .int x3), (4, .int x4), (5, .int (sh_b2 x5)), (6, .int x6)]) (st2 := [.int x1, .int 4, .ref 3]) (I2 := m.I) (J2 := m.J) (fun hT v kk => ?_) ?_
      · refine sh_j0 (c := .ne) (off := (12)) (pc2 := 147) false rfl (sh_Znef c) rfl ?_
        refine sh_w (i := (.aload_n 0)) (len := 1) (pc2 := 148) (lv2 := [(0, .ref 42), (1, .int x1), (2, .int x2), (3, .int x3), (4, .int x4), (5, .int (sh_b2 x5)), (6, .int x6)]) (st2 := [.ref 42]) (h2 := (sh_rep m.T m.I m.J)) rfl rfl rfl ?_
        refine sh_gR1 (len := 3) (x := .ref 3) (pc2 := 151) rfl rfl (sh_s41 hT.st) rfl rfl ?_
        refine sh_w (i := (.iconst 4)) (len := 1) (pc2 := 152) (lv2 := [(0, .ref 42), (1, .int x1), (2, .int x2), (3, .int x3), (4, .int x4), (5, .int (sh_b2 x5)), (6, .int x6)]) (st2 := [.int 4, .ref 3]) (h2 := (sh_rep m.T m.I m.J)) rfl rfl rfl ?_
        refine sh_w (i := (.iload_n 1)) (len := 1) (pc2 := 153) (lv2 := [(0, .ref 42), (1, .int x1), (2, .int x2), (3, .int x3), (4, .int x4), (5, .int (sh_b2 x5)), (6, .int x6)]) (st2 := [.int x1, .int 4, .ref 3]) (h2 := (sh_rep m.T m.I m.J)) rfl rfl rfl ?_
        exact kk
      rcases sh_bt_e e with ⟨m13, e3, rfl⟩ | ⟨r3, m13, e3, e⟩
      · obtain ⟨rfl, rfl⟩ := tg
        exact sh_Lk_tV (k2 := 50) (a := 2) (as := [.ref 3, .int 4, .int x1]) (rest := []) rfl rfl rfl (fun hT => hT.t2) rfl rfl ⟨Nat.le_of_ble_eq_true rfl, Nat.le_of_ble_eq_true rfl⟩ (sl_50 e3 ⟨rfl, rfl⟩) rfl (Nat.le_of_ble_eq_true rfl) (Nat.le_of_ble_eq_true rfl) (Nat.le_of_ble_eq_true rfl) (Nat.le_of_ble_eq_true rfl) rfl
      refine sh_Lk_cV (r := none) (st2 := []) (pc2 := 156) (k2 := 50) (a := 2) (as := [.ref 3, .int 4, .int x1]) (rest := []) rfl rfl rfl (fun hT => hT.t2) rfl rfl ⟨Nat.le_of_ble_eq_true rfl, Nat.le_of_ble_eq_true rfl⟩ (sl_50 e3 ⟨rfl, rfl⟩) rfl rfl (Nat.le_of_ble_eq_true rfl) (Nat.le_of_ble_eq_true rfl) ?_
      obtain ⟨_, eu, rfl⟩ := sh_up_e e
      exact sh_Lk_sub (sh_sub_c rfl (sh_sub_c rfl (sh_sub_c rfl (sh_sub_c rfl (sh_sub_c rfl (sh_sub_n)))))) (sl_194_156 eu tg)
theorem sl_194_90 {x1 : Int32} {x2 : Int32} {x3 : Int32} {x4 : Int32} {x5 : Bool} {x6 : Int32} {m m2 : sh_X} {o : Outcome} {z : (Option Unit × sh_X)} (e : sf_194_90 x1 x2 x3 x4 x5 x6 m = some z) (tg : (sh_tVt o m2) z) : sh_Lk 194 90 [(0, .ref 42), (1, .int x1), (2, .int x2), (3, .int x3), (4, .int x4), (5, .int (sh_b2 x5)), (6, .int x6)] [] m o m2 12 289 := by
  unfold sf_194_90 at e
  exact sh_while_lk (P := fun q => sh_Lk 194 90 [(0, .ref 42), (1, .int x1), (2, .int x2), (3, .int x3), (4, .int x4), (5, .int (sh_b2 q.1)), (6, .int q.2.1)] [] q.2.2 o m2 12 289) (Q := (sh_tVt o m2)) (fun q z e tg => sl_194_90s (x1 := x1) (x2 := x2) (x3 := x3) (x4 := x4) (x5 := q.1) (x6 := q.2.1) (m := q.2.2) e tg) (s := (x5, x6, m)) e tg
theorem sl_194_85 {x1 : Int32} {x2 : Int32} {x3 : Int32} {x4 : Int32} {y0 : Bool} {m m2 : sh_X} {o : Outcome} {z : (Option Unit × sh_X)} (e : sf_194_85 x1 x2 x3 x4 y0 m = some z) (tg : (sh_tVt o m2) z) : sh_Lk 194 85 [(0, .ref 42), (1, .int x1), (2, .int x2), (3, .int x3), (4, .int x4)] [.int (sh_b2 y0)] m o m2 12 289 := by
  unfold sf_194_85 at e
  refine sh_Lk_lift (T := m.T) (I := m.I) (J := m.J) (s := m.s) (pc2 := 90) (lv2 := [(6, .int x3), (5, .int (sh_b2 y0)), (0, .ref 42), (1, .int x1), (2, .int x2), (3, .int x3), (4, .int x4)]) (st2 := []) (I2 := m.I) (J2 := m.J) (fun hT v kk => ?_) ?_
  · refine sh_w (i := (.istore 5)) (len := 2) (pc2 := 87) (lv2 := [(5, .int (sh_b2 y0)), (0, .ref 42), (1, .int x1), (2, .int x2), (3, .int x3), (4, .int x4)]) (st2 := []) (h2 := (sh_rep m.T m.I m.J)) rfl rfl rfl ?_
    refine sh_w (i := (.iload_n 3)) (len := 1) (pc2 := 88) (lv2 := [(5, .int (sh_b2 y0)), (0, .ref 42), (1, .int x1), (2, .int x2), (3, .int x3), (4, .int x4)]) (st2 := [.int x3]) (h2 := (sh_rep m.T m.I m.J)) rfl rfl rfl ?_
    refine sh_w (i := (.istore 6)) (len := 2) (pc2 := 90) (lv2 := [(6, .int x3), (5, .int (sh_b2 y0)), (0, .ref 42), (1, .int x1), (2, .int x2), (3, .int x3), (4, .int x4)]) (st2 := []) (h2 := (sh_rep m.T m.I m.J)) rfl rfl rfl ?_
    exact kk
  exact sh_Lk_sub (sh_sub_c rfl (sh_sub_c rfl (sh_sub_c rfl (sh_sub_c rfl (sh_sub_c rfl (sh_sub_c rfl (sh_sub_c rfl (sh_sub_n)))))))) (sl_194_90 e tg)
theorem sl_194_84 {x1 : Int32} {x2 : Int32} {x3 : Int32} {x4 : Int32} {m m2 : sh_X} {o : Outcome} {z : (Option Unit × sh_X)} (e : sf_194_84 x1 x2 x3 x4 m = some z) (tg : (sh_tVt o m2) z) : sh_Lk 194 84 [(0, .ref 42), (1, .int x1), (2, .int x2), (3, .int x3), (4, .int x4)] [] m o m2 12 289 := by
  unfold sf_194_84 at e
  refine sh_Lk_lift (T := m.T) (I := m.I) (J := m.J) (s := m.s) (pc2 := 85) (lv2 := [(0, .ref 42), (1, .int x1), (2, .int x2), (3, .int x3), (4, .int x4)]) (st2 := [.int 0]) (I2 := m.I) (J2 := m.J) (fun hT v kk => ?_) ?_
  · refine sh_w (i := (.iconst 0)) (len := 1) (pc2 := 85) (lv2 := [(0, .ref 42), (1, .int x1), (2, .int x2), (3, .int x3), (4, .int x4)]) (st2 := [.int 0]) (h2 := (sh_rep m.T m.I m.J)) rfl rfl rfl ?_
    exact kk
  exact sh_Lk_sub (sh_sub_c rfl (sh_sub_c rfl (sh_sub_c rfl (sh_sub_c rfl (sh_sub_c rfl (sh_sub_n)))))) (sl_194_85 e tg)
theorem sl_194_26s {x1 : Int32} {x2 : Int32} {x3 : Int32} {x4 : Int32} {x5 : Int32} {m m2 : sh_X} {o : Outcome} {z : ((Int32 × Int32 × sh_X) ⊕ (Option Unit × sh_X))} (e : sf_194_26s x1 x2 x3 x4 x5 m = some z) (tg : (sh_el (fun q => sh_Lk 194 26 [(0, .ref 42), (1, .int x1), (2, .int x2), (3, .int x3), (4, .int q.1), (5, .int q.2.1)] [] q.2.2 o m2 12 289) (sh_tVt o m2)) z) : sh_Lk 194 26 [(0, .ref 42), (1, .int x1), (2, .int x2), (3, .int x3), (4, .int x4), (5, .int x5)] [] m o m2 12 289 := by
  unfold sf_194_26s at e
  refine sh_Lk_lift (T := m.T) (I := m.I) (J := m.J) (s := m.s) (pc2 := 29) (lv2 := [(0, .ref 42), (1, .int x1), (2, .int x2), (3, .int x3), (4, .int x4), (5, .int x5)]) (st2 := [.int x3, .int x5]) (I2 := m.I) (J2 := m.J) (fun hT v kk => ?_) ?_
  · refine sh_w (i := (.iload 5)) (len := 2) (pc2 := 28) (lv2 := [(0, .ref 42), (1, .int x1), (2, .int x2), (3, .int x3), (4, .int x4), (5, .int x5)]) (st2 := [.int x5]) (h2 := (sh_rep m.T m.I m.J)) rfl rfl rfl ?_
    refine sh_w (i := (.iload_n 3)) (len := 1) (pc2 := 29) (lv2 := [(0, .ref 42), (1, .int x1), (2, .int x2), (3, .int x3), (4, .int x4), (5, .int x5)]) (st2 := [.int x3, .int x5]) (h2 := (sh_rep m.T m.I m.J)) rfl rfl rfl ?_
    exact kk
  rcases sh_ite e with ⟨c, e⟩ | ⟨c, e⟩
  · refine sh_Lk_lift (T := m.T) (I := m.I) (J := m.J) (s := m.s) (pc2 := 69) (lv2 := [(0, .ref 42), (1, .int x1), (2, .int x2), (3, .int x3), (4, .int x4), (5, .int x5)]) (st2 := [.int 32, .int x2]) (I2 := m.I) (J2 := m.J) (fun hT v kk => ?_) ?_
    · refine sh_jc (c := .lt) (off := (37)) (pc2 := 66) true rfl (sh_Bltt c) rfl ?_
      refine sh_w (i := (.iload_n 2)) (len := 1) (pc2 := 67) (lv2 := [(0, .ref 42), (1, .int x1), (2, .int x2), (3, .int x3), (4, .int x4), (5, .int x5)]) (st2 := [.int x2]) (h2 := (sh_rep m.T m.I m.J)) rfl rfl rfl ?_
      refine sh_w (i := (.bipush 32)) (len := 2) (pc2 := 69) (lv2 := [(0, .ref 42), (1, .int x1), (2, .int x2), (3, .int x3), (4, .int x4), (5, .int x5)]) (st2 := [.int 32, .int x2]) (h2 := (sh_rep m.T m.I m.J)) rfl rfl rfl ?_
      exact kk
    rcases sh_ite e with ⟨c, e⟩ | ⟨c, e⟩
    · refine sh_Lk_lift (T := m.T) (I := m.I) (J := m.J) (s := m.s) (pc2 := 84) (lv2 := [(0, .ref 42), (1, .int x1), (2, .int x2), (3, .int x3), (4, .int x4), (5, .int x5)]) (st2 := []) (I2 := m.I) (J2 := m.J) (fun hT v kk => ?_) ?_
      · refine sh_jc (c := .gt) (off := (15)) (pc2 := 84) true rfl (sh_Bgtt c) rfl ?_
        exact kk
      obtain ⟨_, eu, rfl⟩ := sh_up_e e
      exact sh_Lk_sub (sh_sub_c rfl (sh_sub_c rfl (sh_sub_c rfl (sh_sub_c rfl (sh_sub_c rfl (sh_sub_n)))))) (sl_194_84 eu tg)
    · refine sh_Lk_lift (T := m.T) (I := m.I) (J := m.J) (s := m.s) (pc2 := 74) (lv2 := [(0, .ref 42), (1, .int x1), (2, .int x2), (3, .int x3), (4, .int x4), (5, .int x5)]) (st2 := [.int x4]) (I2 := m.I) (J2 := m.J) (fun hT v kk => ?_) ?_
      · refine sh_jc (c := .gt) (off := (15)) (pc2 := 72) false rfl (sh_Bgtf c) rfl ?_
        refine sh_w (i := (.iload 4)) (len := 2) (pc2 := 74) (lv2 := [(0, .ref 42), (1, .int x1), (2, .int x2), (3, .int x3), (4, .int x4), (5, .int x5)]) (st2 := [.int x4]) (h2 := (sh_rep m.T m.I m.J)) rfl rfl rfl ?_
        exact kk
      refine sh_Lk_cS (r := (some (.int (sh_b2 (sf_123 x4))))) (st2 := [.int (sh_b2 (sf_123 x4))]) (pc2 := 77) (k2 := 123) (as := [.int x4]) (rest := []) rfl rfl (by decide) (Nat.le_of_ble_eq_true rfl) rfl rfl ⟨Nat.le_of_ble_eq_true rfl, Nat.le_of_ble_eq_true rfl⟩ (sl_123 (m := m) rfl ⟨rfl, rfl⟩) rfl rfl (Nat.le_of_ble_eq_true rfl) (Nat.le_of_ble_eq_true rfl) ?_
      rcases sh_ite e with ⟨c, e⟩ | ⟨c, e⟩
      · refine sh_Lk_lift (T := m.T) (I := m.I) (J := m.J) (s := m.s) (pc2 := 84) (lv2 := [(0, .ref 42), (1, .int x1), (2, .int x2), (3, .int x3), (4, .int x4), (5, .int x5)]) (st2 := []) (I2 := m.I) (J2 := m.J) (fun hT v kk => ?_) ?_
        · refine sh_j0 (c := .ne) (off := (7)) (pc2 := 84) true rfl (sh_Znet c) rfl ?_
          exact kk
        obtain ⟨_, eu, rfl⟩ := sh_up_e e
        exact sh_Lk_sub (sh_sub_c rfl (sh_sub_c rfl (sh_sub_c rfl (sh_sub_c rfl (sh_sub_c rfl (sh_sub_n)))))) (sl_194_84 eu tg)
      · refine sh_Lk_lift (T := m.T) (I := m.I) (J := m.J) (s := m.s) (pc2 := 85) (lv2 := [(0, .ref 42), (1, .int x1), (2, .int x2), (3, .int x3), (4, .int x4), (5, .int x5)]) (st2 := [.int 1]) (I2 := m.I) (J2 := m.J) (fun hT v kk => ?_) ?_
        · refine sh_j0 (c := .ne) (off := (7)) (pc2 := 80) false rfl (sh_Znef c) rfl ?_
          refine sh_w (i := (.iconst 1)) (len := 1) (pc2 := 81) (lv2 := [(0, .ref 42), (1, .int x1), (2, .int x2), (3, .int x3), (4, .int x4), (5, .int x5)]) (st2 := [.int 1]) (h2 := (sh_rep m.T m.I m.J)) rfl rfl rfl ?_
          refine sh_w (i := (.goto 4)) (len := 3) (pc2 := 85) (lv2 := [(0, .ref 42), (1, .int x1), (2, .int x2), (3, .int x3), (4, .int x4), (5, .int x5)]) (st2 := [.int 1]) (h2 := (sh_rep m.T m.I m.J)) rfl rfl rfl ?_
          exact kk
        obtain ⟨_, eu, rfl⟩ := sh_up_e e
        exact sh_Lk_sub (sh_sub_c rfl (sh_sub_c rfl (sh_sub_c rfl (sh_sub_c rfl (sh_sub_c rfl (sh_sub_n)))))) (sl_194_85 eu tg)
  · refine sh_Lk_lift (T := m.T) (I := m.I) (J := m.J) (s := m.s) (pc2 := 38) (lv2 := [(0, .ref 42), (1, .int x1), (2, .int x2), (3, .int x3), (4, .int x4), (5, .int x5)]) (st2 := [.int x5, .ref 49]) (I2 := m.I) (J2 := m.J) (fun hT v kk => ?_) ?_
    · refine sh_jc (c := .lt) (off := (37)) (pc2 := 32) false rfl (sh_Bltf c) rfl ?_
      refine sh_w (i := (.aload_n 0)) (len := 1) (pc2 := 33) (lv2 := [(0, .ref 42), (1, .int x1), (2, .int x2), (3, .int x3), (4, .int x4), (5, .int x5)]) (st2 := [.ref 42]) (h2 := (sh_rep m.T m.I m.J)) rfl rfl rfl ?_
      refine sh_gR1 (len := 3) (x := .ref 49) (pc2 := 36) rfl rfl (sh_s41 hT.st) rfl rfl ?_
      refine sh_w (i := (.iload 5)) (len := 2) (pc2 := 38) (lv2 := [(0, .ref 42), (1, .int x1), (2, .int x2), (3, .int x3), (4, .int x4), (5, .int x5)]) (st2 := [.int x5, .ref 49]) (h2 := (sh_rep m.T m.I m.J)) rfl rfl rfl ?_
      exact kk
    obtain ⟨r2, e2, e⟩ := sh_bc_e e
    refine sh_Lk_cV (r := (some (.int r2))) (st2 := [.int r2]) (pc2 := 41) (k2 := 108) (a := 48) (as := [.ref 49, .int x5]) (rest := []) rfl rfl rfl (fun hT => (sh_s48 hT.st)) rfl rfl ⟨Nat.le_of_ble_eq_true rfl, Nat.le_of_ble_eq_true rfl⟩ (sl_108 e2 ⟨rfl, rfl⟩) rfl rfl (Nat.le_of_ble_eq_true rfl) (Nat.le_of_ble_eq_true rfl) ?_
    rcases sh_ite e with ⟨c, e⟩ | ⟨c, e⟩
    · refine sh_Lk_lift (T := m.T) (I := m.I) (J := m.J) (s := m.s) (pc2 := 58) (lv2 := [(0, .ref 42), (1, .int x1), (2, .int x2), (3, .int x3), (4, .int x4), (5, .int x5)]) (st2 := [.int x4]) (I2 := m.I) (J2 := m.J) (fun hT v kk => ?_) ?_
      · refine sh_j0 (c := .ne) (off := (8)) (pc2 := 44) false rfl (sh_Bnef c) rfl ?_
        refine sh_w (i := (.iload 4)) (len := 2) (pc2 := 46) (lv2 := [(0, .ref 42), (1, .int x1), (2, .int x2), (3, .int x3), (4, .int x4), (5, .int x5)]) (st2 := [.int x4]) (h2 := (sh_rep m.T m.I m.J)) rfl rfl rfl ?_
        refine sh_w (i := (.goto 12)) (len := 3) (pc2 := 58) (lv2 := [(0, .ref 42), (1, .int x1), (2, .int x2), (3, .int x3), (4, .int x4), (5, .int x5)]) (st2 := [.int x4]) (h2 := (sh_rep m.T m.I m.J)) rfl rfl rfl ?_
        exact kk
      exact sh_Lk_sub (sh_sub_c rfl (sh_sub_c rfl (sh_sub_c rfl (sh_sub_c rfl (sh_sub_c rfl (sh_sub_n)))))) (sl_194_58 e tg)
    · refine sh_Lk_lift (T := m.T) (I := m.I) (J := m.J) (s := m.s) (pc2 := 55) (lv2 := [(0, .ref 42), (1, .int x1), (2, .int x2), (3, .int x3), (4, .int x4), (5, .int x5)]) (st2 := [.int x5, .ref 49]) (I2 := m.I) (J2 := m.J) (fun hT v kk => ?_) ?_
      · refine sh_j0 (c := .ne) (off := (8)) (pc2 := 49) true rfl (sh_Bnet c) rfl ?_
        refine sh_w (i := (.aload_n 0)) (len := 1) (pc2 := 50) (lv2 := [(0, .ref 42), (1, .int x1), (2, .int x2), (3, .int x3), (4, .int x4), (5, .int x5)]) (st2 := [.ref 42]) (h2 := (sh_rep m.T m.I m.J)) rfl rfl rfl ?_
        refine sh_gR1 (len := 3) (x := .ref 49) (pc2 := 53) rfl rfl (sh_s41 hT.st) rfl rfl ?_
        refine sh_w (i := (.iload 5)) (len := 2) (pc2 := 55) (lv2 := [(0, .ref 42), (1, .int x1), (2, .int x2), (3, .int x3), (4, .int x4), (5, .int x5)]) (st2 := [.int x5, .ref 49]) (h2 := (sh_rep m.T m.I m.J)) rfl rfl rfl ?_
        exact kk
      obtain ⟨r3, e3, e⟩ := sh_bc_e e
      refine sh_Lk_cV (r := (some (.int r3))) (st2 := [.int r3]) (pc2 := 58) (k2 := 108) (a := 48) (as := [.ref 49, .int x5]) (rest := []) rfl rfl rfl (fun hT => (sh_s48 hT.st)) rfl rfl ⟨Nat.le_of_ble_eq_true rfl, Nat.le_of_ble_eq_true rfl⟩ (sl_108 e3 ⟨rfl, rfl⟩) rfl rfl (Nat.le_of_ble_eq_true rfl) (Nat.le_of_ble_eq_true rfl) ?_
      exact sh_Lk_sub (sh_sub_c rfl (sh_sub_c rfl (sh_sub_c rfl (sh_sub_c rfl (sh_sub_c rfl (sh_sub_n)))))) (sl_194_58 e tg)
theorem sl_194_26 {x1 : Int32} {x2 : Int32} {x3 : Int32} {x4 : Int32} {x5 : Int32} {m m2 : sh_X} {o : Outcome} {z : (Option Unit × sh_X)} (e : sf_194_26 x1 x2 x3 x4 x5 m = some z) (tg : (sh_tVt o m2) z) : sh_Lk 194 26 [(0, .ref 42), (1, .int x1), (2, .int x2), (3, .int x3), (4, .int x4), (5, .int x5)] [] m o m2 12 289 := by
  unfold sf_194_26 at e
  exact sh_while_lk (P := fun q => sh_Lk 194 26 [(0, .ref 42), (1, .int x1), (2, .int x2), (3, .int x3), (4, .int q.1), (5, .int q.2.1)] [] q.2.2 o m2 12 289) (Q := (sh_tVt o m2)) (fun q z e tg => sl_194_26s (x1 := x1) (x2 := x2) (x3 := x3) (x4 := q.1) (x5 := q.2.1) (m := q.2.2) e tg) (s := (x4, x5, m)) e tg
theorem sl_194 {x1 : Int32} {x2 : Int32} {m m2 : sh_X} {o : Outcome} {z : (Option Unit × sh_X)} (e : sf_194 x1 x2 m = some z) (tg : (sh_tVt o m2) z) : sh_Lk 194 0 [(0, .ref 42), (1, .int x1), (2, .int x2)] [] m o m2 12 289 := by
  unfold sf_194 at e
  refine sh_Lk_lift (T := m.T) (I := m.I) (J := m.J) (s := m.s) (pc2 := 26) (lv2 := [(5, .int ((m.I 48 4) - 1)), (4, .int 160), (3, .int ((m.I 48 4) - x2)), (0, .ref 42), (1, .int x1), (2, .int x2)]) (st2 := []) (I2 := m.I) (J2 := m.J) (fun hT v kk => ?_) ?_
  · refine sh_w (i := (.aload_n 0)) (len := 1) (pc2 := 1) (lv2 := [(0, .ref 42), (1, .int x1), (2, .int x2)]) (st2 := [.ref 42]) (h2 := (sh_rep m.T m.I m.J)) rfl rfl rfl ?_
    refine sh_gR1 (len := 3) (x := .ref 49) (pc2 := 4) rfl rfl (sh_s41 hT.st) rfl rfl ?_
    refine sh_gI1 (len := 3) (x := m.I 48 4) (pc2 := 7) rfl rfl (sh_s48 hT.st) rfl rfl rfl ?_
    refine sh_w (i := (.iload_n 2)) (len := 1) (pc2 := 8) (lv2 := [(0, .ref 42), (1, .int x1), (2, .int x2)]) (st2 := [.int x2, .int (m.I 48 4)]) (h2 := (sh_rep m.T m.I m.J)) rfl rfl rfl ?_
    refine sh_w (i := .isub) (len := 1) (pc2 := 9) (lv2 := [(0, .ref 42), (1, .int x1), (2, .int x2)]) (st2 := [.int ((m.I 48 4) - x2)]) (h2 := (sh_rep m.T m.I m.J)) rfl rfl rfl ?_
    refine sh_w (i := (.istore_n 3)) (len := 1) (pc2 := 10) (lv2 := [(3, .int ((m.I 48 4) - x2)), (0, .ref 42), (1, .int x1), (2, .int x2)]) (st2 := []) (h2 := (sh_rep m.T m.I m.J)) rfl rfl rfl ?_
    refine sh_w (i := (.sipush 160)) (len := 3) (pc2 := 13) (lv2 := [(3, .int ((m.I 48 4) - x2)), (0, .ref 42), (1, .int x1), (2, .int x2)]) (st2 := [.int 160]) (h2 := (sh_rep m.T m.I m.J)) rfl rfl rfl ?_
    refine sh_w (i := (.istore 4)) (len := 2) (pc2 := 15) (lv2 := [(4, .int 160), (3, .int ((m.I 48 4) - x2)), (0, .ref 42), (1, .int x1), (2, .int x2)]) (st2 := []) (h2 := (sh_rep m.T m.I m.J)) rfl rfl rfl ?_
    refine sh_w (i := (.aload_n 0)) (len := 1) (pc2 := 16) (lv2 := [(4, .int 160), (3, .int ((m.I 48 4) - x2)), (0, .ref 42), (1, .int x1), (2, .int x2)]) (st2 := [.ref 42]) (h2 := (sh_rep m.T m.I m.J)) rfl rfl rfl ?_
    refine sh_gR1 (len := 3) (x := .ref 49) (pc2 := 19) rfl rfl (sh_s41 hT.st) rfl rfl ?_
    refine sh_gI1 (len := 3) (x := m.I 48 4) (pc2 := 22) rfl rfl (sh_s48 hT.st) rfl rfl rfl ?_
    refine sh_w (i := (.iconst 1)) (len := 1) (pc2 := 23) (lv2 := [(4, .int 160), (3, .int ((m.I 48 4) - x2)), (0, .ref 42), (1, .int x1), (2, .int x2)]) (st2 := [.int 1, .int (m.I 48 4)]) (h2 := (sh_rep m.T m.I m.J)) rfl rfl rfl ?_
    refine sh_w (i := .isub) (len := 1) (pc2 := 24) (lv2 := [(4, .int 160), (3, .int ((m.I 48 4) - x2)), (0, .ref 42), (1, .int x1), (2, .int x2)]) (st2 := [.int ((m.I 48 4) - 1)]) (h2 := (sh_rep m.T m.I m.J)) rfl rfl rfl ?_
    refine sh_w (i := (.istore 5)) (len := 2) (pc2 := 26) (lv2 := [(5, .int ((m.I 48 4) - 1)), (4, .int 160), (3, .int ((m.I 48 4) - x2)), (0, .ref 42), (1, .int x1), (2, .int x2)]) (st2 := []) (h2 := (sh_rep m.T m.I m.J)) rfl rfl rfl ?_
    exact kk
  exact sh_Lk_sub (sh_sub_c rfl (sh_sub_c rfl (sh_sub_c rfl (sh_sub_c rfl (sh_sub_c rfl (sh_sub_c rfl (sh_sub_n))))))) (sl_194_26 e tg)
theorem sl_195 {x1 : Int32} {m m2 : sh_X} {o : Outcome} {z : (Option Unit × sh_X)} (e : sf_195 x1 m = some z) (tg : (sh_tVt o m2) z) : sh_Lk 195 0 [(0, .ref 42), (1, .int x1)] [] m o m2 10 242 := by
  unfold sf_195 at e
  refine sh_Lk_lift (T := m.T) (I := m.I) (J := m.J) (s := m.s) (pc2 := 13) (lv2 := [(0, .ref 42), (1, .int x1)]) (st2 := [.int ((m.I 48 4) - 1), .ref 49]) (I2 := m.I) (J2 := m.J) (fun hT v kk => ?_) ?_
  · refine sh_w (i := (.aload_n 0)) (len := 1) (pc2 := 1) (lv2 := [(0, .ref 42), (1, .int x1)]) (st2 := [.ref 42]) (h2 := (sh_rep m.T m.I m.J)) rfl rfl rfl ?_
    refine sh_gR1 (len := 3) (x := .ref 49) (pc2 := 4) rfl rfl (sh_s41 hT.st) rfl rfl ?_
    refine sh_w (i := (.aload_n 0)) (len := 1) (pc2 := 5) (lv2 := [(0, .ref 42), (1, .int x1)]) (st2 := [.ref 42, .ref 49]) (h2 := (sh_rep m.T m.I m.J)) rfl rfl rfl ?_
    refine sh_gR1 (len := 3) (x := .ref 49) (pc2 := 8) rfl rfl (sh_s41 hT.st) rfl rfl ?_
    refine sh_gI1 (len := 3) (x := m.I 48 4) (pc2 := 11) rfl rfl (sh_s48 hT.st) rfl rfl rfl ?_
    refine sh_w (i := (.iconst 1)) (len := 1) (pc2 := 12) (lv2 := [(0, .ref 42), (1, .int x1)]) (st2 := [.int 1, .int (m.I 48 4), .ref 49]) (h2 := (sh_rep m.T m.I m.J)) rfl rfl rfl ?_
    refine sh_w (i := .isub) (len := 1) (pc2 := 13) (lv2 := [(0, .ref 42), (1, .int x1)]) (st2 := [.int ((m.I 48 4) - 1), .ref 49]) (h2 := (sh_rep m.T m.I m.J)) rfl rfl rfl ?_
    exact kk
  obtain ⟨r1, e1, e⟩ := sh_bc_e e
  refine sh_Lk_cV (r := (some (.int r1))) (st2 := [.int r1]) (pc2 := 16) (k2 := 108) (a := 48) (as := [.ref 49, .int ((m.I 48 4) - 1)]) (rest := []) rfl rfl rfl (fun hT => (sh_s48 hT.st)) rfl rfl ⟨Nat.le_of_ble_eq_true rfl, Nat.le_of_ble_eq_true rfl⟩ (sl_108 e1 ⟨rfl, rfl⟩) rfl rfl (Nat.le_of_ble_eq_true rfl) (Nat.le_of_ble_eq_true rfl) ?_
  refine sh_Lk_cS (r := (some (.int (sh_b2 (sf_123 r1))))) (st2 := [.int (sh_b2 (sf_123 r1))]) (pc2 := 19) (k2 := 123) (as := [.int r1]) (rest := []) rfl rfl (by decide) (Nat.le_of_ble_eq_true rfl) rfl rfl ⟨Nat.le_of_ble_eq_true rfl, Nat.le_of_ble_eq_true rfl⟩ (sl_123 (m := m) rfl ⟨rfl, rfl⟩) rfl rfl (Nat.le_of_ble_eq_true rfl) (Nat.le_of_ble_eq_true rfl) ?_
  rcases sh_ite e with ⟨c, e⟩ | ⟨c, e⟩
  · refine sh_Lk_lift (T := m.T) (I := m.I) (J := m.J) (s := m.s) (pc2 := 31) (lv2 := [(0, .ref 42), (1, .int x1)]) (st2 := []) (I2 := m.I) (J2 := m.J) (fun hT v kk => ?_) ?_
    · refine sh_j0 (c := .ne) (off := (12)) (pc2 := 31) true rfl (sh_Znet c) rfl ?_
      exact kk
    obtain rfl := Option.some.inj e
    obtain ⟨rfl, rfl⟩ := tg
    exact sh_Lk_ret (i := .return_) rfl rfl rfl (Nat.le_of_ble_eq_true rfl) (Nat.le_of_ble_eq_true rfl)
  · refine sh_Lk_lift (T := m.T) (I := m.I) (J := m.J) (s := m.s) (pc2 := 28) (lv2 := [(0, .ref 42), (1, .int x1)]) (st2 := [.int x1, .int 4, .ref 3]) (I2 := m.I) (J2 := m.J) (fun hT v kk => ?_) ?_
    · refine sh_j0 (c := .ne) (off := (12)) (pc2 := 22) false rfl (sh_Znef c) rfl ?_
      refine sh_w (i := (.aload_n 0)) (len := 1) (pc2 := 23) (lv2 := [(0, .ref 42), (1, .int x1)]) (st2 := [.ref 42]) (h2 := (sh_rep m.T m.I m.J)) rfl rfl rfl ?_
      refine sh_gR1 (len := 3) (x := .ref 3) (pc2 := 26) rfl rfl (sh_s41 hT.st) rfl rfl ?_
      refine sh_w (i := (.iconst 4)) (len := 1) (pc2 := 27) (lv2 := [(0, .ref 42), (1, .int x1)]) (st2 := [.int 4, .ref 3]) (h2 := (sh_rep m.T m.I m.J)) rfl rfl rfl ?_
      refine sh_w (i := (.iload_n 1)) (len := 1) (pc2 := 28) (lv2 := [(0, .ref 42), (1, .int x1)]) (st2 := [.int x1, .int 4, .ref 3]) (h2 := (sh_rep m.T m.I m.J)) rfl rfl rfl ?_
      exact kk
    rcases sh_bt_e e with ⟨m13, e3, rfl⟩ | ⟨r3, m13, e3, e⟩
    · obtain ⟨rfl, rfl⟩ := tg
      exact sh_Lk_tV (k2 := 50) (a := 2) (as := [.ref 3, .int 4, .int x1]) (rest := []) rfl rfl rfl (fun hT => hT.t2) rfl rfl ⟨Nat.le_of_ble_eq_true rfl, Nat.le_of_ble_eq_true rfl⟩ (sl_50 e3 ⟨rfl, rfl⟩) rfl (Nat.le_of_ble_eq_true rfl) (Nat.le_of_ble_eq_true rfl) (Nat.le_of_ble_eq_true rfl) (Nat.le_of_ble_eq_true rfl) rfl
    refine sh_Lk_cV (r := none) (st2 := []) (pc2 := 31) (k2 := 50) (a := 2) (as := [.ref 3, .int 4, .int x1]) (rest := []) rfl rfl rfl (fun hT => hT.t2) rfl rfl ⟨Nat.le_of_ble_eq_true rfl, Nat.le_of_ble_eq_true rfl⟩ (sl_50 e3 ⟨rfl, rfl⟩) rfl rfl (Nat.le_of_ble_eq_true rfl) (Nat.le_of_ble_eq_true rfl) ?_
    obtain rfl := Option.some.inj e
    obtain ⟨rfl, rfl⟩ := tg
    exact sh_Lk_ret (i := .return_) rfl rfl rfl (Nat.le_of_ble_eq_true rfl) (Nat.le_of_ble_eq_true rfl)
theorem sl_196_56 {x1 : Int32} {x3 : Int32} {m m2 : sh_X} {o : Outcome} {z : (Option Unit × sh_X)} (e : sf_196_56 x1 x3 m = some z) (tg : (sh_tVt o m2) z) : sh_Lk 196 56 [(0, .ref 42), (1, .int x1), (3, .int x3)] [] m o m2 10 243 := by
  unfold sf_196_56 at e
  refine sh_Lk_lift (T := m.T) (I := m.I) (J := m.J) (s := m.s) (pc2 := 57) (lv2 := [(0, .ref 42), (1, .int x1), (3, .int x3)]) (st2 := [.int x3]) (I2 := m.I) (J2 := m.J) (fun hT v kk => ?_) ?_
  · refine sh_w (i := (.iload_n 3)) (len := 1) (pc2 := 57) (lv2 := [(0, .ref 42), (1, .int x1), (3, .int x3)]) (st2 := [.int x3]) (h2 := (sh_rep m.T m.I m.J)) rfl rfl rfl ?_
    exact kk
  rcases sh_ite e with ⟨c, e⟩ | ⟨c, e⟩
  · refine sh_Lk_lift (T := m.T) (I := m.I) (J := m.J) (s := m.s) (pc2 := 76) (lv2 := [(0, .ref 42), (1, .int x1), (3, .int x3)]) (st2 := []) (I2 := m.I) (J2 := m.J) (fun hT v kk => ?_) ?_
    · refine sh_j0 (c := .eq) (off := (19)) (pc2 := 76) true rfl (sh_Beqt c) rfl ?_
      exact kk
    obtain rfl := Option.some.inj e
    obtain ⟨rfl, rfl⟩ := tg
    exact sh_Lk_ret (i := .return_) rfl rfl rfl (Nat.le_of_ble_eq_true rfl) (Nat.le_of_ble_eq_true rfl)
  · refine sh_Lk_lift (T := m.T) (I := m.I) (J := m.J) (s := m.s) (pc2 := 61) (lv2 := [(0, .ref 42), (1, .int x1), (3, .int x3)]) (st2 := [.int x3]) (I2 := m.I) (J2 := m.J) (fun hT v kk => ?_) ?_
    · refine sh_j0 (c := .eq) (off := (19)) (pc2 := 60) false rfl (sh_Beqf c) rfl ?_
      refine sh_w (i := (.iload_n 3)) (len := 1) (pc2 := 61) (lv2 := [(0, .ref 42), (1, .int x1), (3, .int x3)]) (st2 := [.int x3]) (h2 := (sh_rep m.T m.I m.J)) rfl rfl rfl ?_
      exact kk
    refine sh_Lk_cS (r := (some (.int (sh_b2 (sf_113 x3))))) (st2 := [.int (sh_b2 (sf_113 x3))]) (pc2 := 64) (k2 := 113) (as := [.int x3]) (rest := []) rfl rfl (by decide) (Nat.le_of_ble_eq_true rfl) rfl rfl ⟨Nat.le_of_ble_eq_true rfl, Nat.le_of_ble_eq_true rfl⟩ (sl_113 (m := m) rfl ⟨rfl, rfl⟩) rfl rfl (Nat.le_of_ble_eq_true rfl) (Nat.le_of_ble_eq_true rfl) ?_
    rcases sh_ite e with ⟨c, e⟩ | ⟨c, e⟩
    · refine sh_Lk_lift (T := m.T) (I := m.I) (J := m.J) (s := m.s) (pc2 := 76) (lv2 := [(0, .ref 42), (1, .int x1), (3, .int x3)]) (st2 := []) (I2 := m.I) (J2 := m.J) (fun hT v kk => ?_) ?_
      · refine sh_j0 (c := .ne) (off := (12)) (pc2 := 76) true rfl (sh_Znet c) rfl ?_
        exact kk
      obtain rfl := Option.some.inj e
      obtain ⟨rfl, rfl⟩ := tg
      exact sh_Lk_ret (i := .return_) rfl rfl rfl (Nat.le_of_ble_eq_true rfl) (Nat.le_of_ble_eq_true rfl)
    · refine sh_Lk_lift (T := m.T) (I := m.I) (J := m.J) (s := m.s) (pc2 := 73) (lv2 := [(0, .ref 42), (1, .int x1), (3, .int x3)]) (st2 := [.int x1, .int 4, .ref 3]) (I2 := m.I) (J2 := m.J) (fun hT v kk => ?_) ?_
      · refine sh_j0 (c := .ne) (off := (12)) (pc2 := 67) false rfl (sh_Znef c) rfl ?_
        refine sh_w (i := (.aload_n 0)) (len := 1) (pc2 := 68) (lv2 := [(0, .ref 42), (1, .int x1), (3, .int x3)]) (st2 := [.ref 42]) (h2 := (sh_rep m.T m.I m.J)) rfl rfl rfl ?_
        refine sh_gR1 (len := 3) (x := .ref 3) (pc2 := 71) rfl rfl (sh_s41 hT.st) rfl rfl ?_
        refine sh_w (i := (.iconst 4)) (len := 1) (pc2 := 72) (lv2 := [(0, .ref 42), (1, .int x1), (3, .int x3)]) (st2 := [.int 4, .ref 3]) (h2 := (sh_rep m.T m.I m.J)) rfl rfl rfl ?_
        refine sh_w (i := (.iload_n 1)) (len := 1) (pc2 := 73) (lv2 := [(0, .ref 42), (1, .int x1), (3, .int x3)]) (st2 := [.int x1, .int 4, .ref 3]) (h2 := (sh_rep m.T m.I m.J)) rfl rfl rfl ?_
        exact kk
      rcases sh_bt_e e with ⟨m12, e2, rfl⟩ | ⟨r2, m12, e2, e⟩
      · obtain ⟨rfl, rfl⟩ := tg
        exact sh_Lk_tV (k2 := 50) (a := 2) (as := [.ref 3, .int 4, .int x1]) (rest := []) rfl rfl rfl (fun hT => hT.t2) rfl rfl ⟨Nat.le_of_ble_eq_true rfl, Nat.le_of_ble_eq_true rfl⟩ (sl_50 e2 ⟨rfl, rfl⟩) rfl (Nat.le_of_ble_eq_true rfl) (Nat.le_of_ble_eq_true rfl) (Nat.le_of_ble_eq_true rfl) (Nat.le_of_ble_eq_true rfl) rfl
      refine sh_Lk_cV (r := none) (st2 := []) (pc2 := 76) (k2 := 50) (a := 2) (as := [.ref 3, .int 4, .int x1]) (rest := []) rfl rfl rfl (fun hT => hT.t2) rfl rfl ⟨Nat.le_of_ble_eq_true rfl, Nat.le_of_ble_eq_true rfl⟩ (sl_50 e2 ⟨rfl, rfl⟩) rfl rfl (Nat.le_of_ble_eq_true rfl) (Nat.le_of_ble_eq_true rfl) ?_
      obtain rfl := Option.some.inj e
      obtain ⟨rfl, rfl⟩ := tg
      exact sh_Lk_ret (i := .return_) rfl rfl rfl (Nat.le_of_ble_eq_true rfl) (Nat.le_of_ble_eq_true rfl)
theorem sl_196 {x1 : Int32} {m m2 : sh_X} {o : Outcome} {z : (Option Unit × sh_X)} (e : sf_196 x1 m = some z) (tg : (sh_tVt o m2) z) : sh_Lk 196 0 [(0, .ref 42), (1, .int x1)] [] m o m2 10 243 := by
  unfold sf_196 at e
  refine sh_Lk_lift (T := m.T) (I := m.I) (J := m.J) (s := m.s) (pc2 := 15) (lv2 := [(2, .int ((m.I 48 4) - 1)), (0, .ref 42), (1, .int x1)]) (st2 := [.int ((m.I 48 4) - 1), .ref 49]) (I2 := m.I) (J2 := m.J) (fun hT v kk => ?_) ?_
  · refine sh_w (i := (.aload_n 0)) (len := 1) (pc2 := 1) (lv2 := [(0, .ref 42), (1, .int x1)]) (st2 := [.ref 42]) (h2 := (sh_rep m.T m.I m.J)) rfl rfl rfl ?_
    refine sh_gR1 (len := 3) (x := .ref 49) (pc2 := 4) rfl rfl (sh_s41 hT.st) rfl rfl ?_
    refine sh_gI1 (len := 3) (x := m.I 48 4) (pc2 := 7) rfl rfl (sh_s48 hT.st) rfl rfl rfl ?_
    refine sh_w (i := (.iconst 1)) (len := 1) (pc2 := 8) (lv2 := [(0, .ref 42), (1, .int x1)]) (st2 := [.int 1, .int (m.I 48 4)]) (h2 := (sh_rep m.T m.I m.J)) rfl rfl rfl ?_
    refine sh_w (i := .isub) (len := 1) (pc2 := 9) (lv2 := [(0, .ref 42), (1, .int x1)]) (st2 := [.int ((m.I 48 4) - 1)]) (h2 := (sh_rep m.T m.I m.J)) rfl rfl rfl ?_
    refine sh_w (i := (.istore_n 2)) (len := 1) (pc2 := 10) (lv2 := [(2, .int ((m.I 48 4) - 1)), (0, .ref 42), (1, .int x1)]) (st2 := []) (h2 := (sh_rep m.T m.I m.J)) rfl rfl rfl ?_
    refine sh_w (i := (.aload_n 0)) (len := 1) (pc2 := 11) (lv2 := [(2, .int ((m.I 48 4) - 1)), (0, .ref 42), (1, .int x1)]) (st2 := [.ref 42]) (h2 := (sh_rep m.T m.I m.J)) rfl rfl rfl ?_
    refine sh_gR1 (len := 3) (x := .ref 49) (pc2 := 14) rfl rfl (sh_s41 hT.st) rfl rfl ?_
    refine sh_w (i := (.iload_n 2)) (len := 1) (pc2 := 15) (lv2 := [(2, .int ((m.I 48 4) - 1)), (0, .ref 42), (1, .int x1)]) (st2 := [.int ((m.I 48 4) - 1), .ref 49]) (h2 := (sh_rep m.T m.I m.J)) rfl rfl rfl ?_
    exact kk
  obtain ⟨r1, e1, e⟩ := sh_bc_e e
  refine sh_Lk_cV (r := (some (.int r1))) (st2 := [.int r1]) (pc2 := 18) (k2 := 108) (a := 48) (as := [.ref 49, .int ((m.I 48 4) - 1)]) (rest := []) rfl rfl rfl (fun hT => (sh_s48 hT.st)) rfl rfl ⟨Nat.le_of_ble_eq_true rfl, Nat.le_of_ble_eq_true rfl⟩ (sl_108 e1 ⟨rfl, rfl⟩) rfl rfl (Nat.le_of_ble_eq_true rfl) (Nat.le_of_ble_eq_true rfl) ?_
  refine sh_Lk_lift (T := m.T) (I := m.I) (J := m.J) (s := m.s) (pc2 := 20) (lv2 := [(3, .int r1), (2, .int ((m.I 48 4) - 1)), (0, .ref 42), (1, .int x1)]) (st2 := [.int r1]) (I2 := m.I) (J2 := m.J) (fun hT v kk => ?_) ?_
  · refine sh_w (i := (.istore_n 3)) (len := 1) (pc2 := 19) (lv2 := [(3, .int r1), (2, .int ((m.I 48 4) - 1)), (0, .ref 42), (1, .int x1)]) (st2 := []) (h2 := (sh_rep m.T m.I m.J)) rfl rfl rfl ?_
    refine sh_w (i := (.iload_n 3)) (len := 1) (pc2 := 20) (lv2 := [(3, .int r1), (2, .int ((m.I 48 4) - 1)), (0, .ref 42), (1, .int x1)]) (st2 := [.int r1]) (h2 := (sh_rep m.T m.I m.J)) rfl rfl rfl ?_
    exact kk
  rcases sh_ite e with ⟨c, e⟩ | ⟨c, e⟩
  · refine sh_Lk_lift (T := m.T) (I := m.I) (J := m.J) (s := m.s) (pc2 := 31) (lv2 := [(3, .int r1), (2, .int ((m.I 48 4) - 1)), (0, .ref 42), (1, .int x1)]) (st2 := [.int ((m.I 48 4) - 1), .ref 49, .int 160]) (I2 := m.I) (J2 := m.J) (fun hT v kk => ?_) ?_
    · refine sh_j0 (c := .ne) (off := (36)) (pc2 := 23) false rfl (sh_Bnef c) rfl ?_
      refine sh_w (i := (.sipush 160)) (len := 3) (pc2 := 26) (lv2 := [(3, .int r1), (2, .int ((m.I 48 4) - 1)), (0, .ref 42), (1, .int x1)]) (st2 := [.int 160]) (h2 := (sh_rep m.T m.I m.J)) rfl rfl rfl ?_
      refine sh_w (i := (.aload_n 0)) (len := 1) (pc2 := 27) (lv2 := [(3, .int r1), (2, .int ((m.I 48 4) - 1)), (0, .ref 42), (1, .int x1)]) (st2 := [.ref 42, .int 160]) (h2 := (sh_rep m.T m.I m.J)) rfl rfl rfl ?_
      refine sh_gR1 (len := 3) (x := .ref 49) (pc2 := 30) rfl rfl (sh_s41 hT.st) rfl rfl ?_
      refine sh_w (i := (.iload_n 2)) (len := 1) (pc2 := 31) (lv2 := [(3, .int r1), (2, .int ((m.I 48 4) - 1)), (0, .ref 42), (1, .int x1)]) (st2 := [.int ((m.I 48 4) - 1), .ref 49, .int 160]) (h2 := (sh_rep m.T m.I m.J)) rfl rfl rfl ?_
      exact kk
    obtain ⟨r2, e2, e⟩ := sh_bc_e e
    refine sh_Lk_cV (r := (some (.long r2))) (st2 := [.long r2, .int 160]) (pc2 := 34) (k2 := 111) (a := 48) (as := [.ref 49, .int ((m.I 48 4) - 1)]) (rest := [.int 160]) rfl rfl rfl (fun hT => (sh_s48 hT.st)) rfl rfl ⟨Nat.le_of_ble_eq_true rfl, Nat.le_of_ble_eq_true rfl⟩ (sl_111 e2 ⟨rfl, rfl⟩) rfl rfl (Nat.le_of_ble_eq_true rfl) (Nat.le_of_ble_eq_true rfl) ?_
    refine sh_Lk_cS (r := (some (.int (sh_b2 (sf_112 160 r2))))) (st2 := [.int (sh_b2 (sf_112 160 r2))]) (pc2 := 37) (k2 := 112) (as := [.int 160, .long r2]) (rest := []) rfl rfl (by decide) (Nat.le_of_ble_eq_true rfl) rfl rfl ⟨Nat.le_of_ble_eq_true rfl, Nat.le_of_ble_eq_true rfl⟩ (sl_112 (m := m) rfl ⟨rfl, rfl⟩) rfl rfl (Nat.le_of_ble_eq_true rfl) (Nat.le_of_ble_eq_true rfl) ?_
    rcases sh_ite e with ⟨c, e⟩ | ⟨c, e⟩
    · refine sh_Lk_lift (T := m.T) (I := m.I) (J := m.J) (s := m.s) (pc2 := 56) (lv2 := [(3, .int r1), (2, .int ((m.I 48 4) - 1)), (0, .ref 42), (1, .int x1)]) (st2 := []) (I2 := m.I) (J2 := m.J) (fun hT v kk => ?_) ?_
      · refine sh_j0 (c := .ne) (off := (19)) (pc2 := 56) true rfl (sh_Znet c) rfl ?_
        exact kk
      exact sh_Lk_sub (sh_sub_c rfl (sh_sub_c rfl (sh_sub_c rfl (sh_sub_n)))) (sl_196_56 e tg)
    · refine sh_Lk_lift (T := m.T) (I := m.I) (J := m.J) (s := m.s) (pc2 := 50) (lv2 := [(3, .int r1), (2, .int ((m.I 48 4) - 1)), (0, .ref 42), (1, .int x1)]) (st2 := [.int ((m.I 48 4) - 1), .ref 49, .int 5, .ref 3]) (I2 := m.I) (J2 := m.J) (fun hT v kk => ?_) ?_
      · refine sh_j0 (c := .ne) (off := (19)) (pc2 := 40) false rfl (sh_Znef c) rfl ?_
        refine sh_w (i := (.aload_n 0)) (len := 1) (pc2 := 41) (lv2 := [(3, .int r1), (2, .int ((m.I 48 4) - 1)), (0, .ref 42), (1, .int x1)]) (st2 := [.ref 42]) (h2 := (sh_rep m.T m.I m.J)) rfl rfl rfl ?_
        refine sh_gR1 (len := 3) (x := .ref 3) (pc2 := 44) rfl rfl (sh_s41 hT.st) rfl rfl ?_
        refine sh_w (i := (.iconst 5)) (len := 1) (pc2 := 45) (lv2 := [(3, .int r1), (2, .int ((m.I 48 4) - 1)), (0, .ref 42), (1, .int x1)]) (st2 := [.int 5, .ref 3]) (h2 := (sh_rep m.T m.I m.J)) rfl rfl rfl ?_
        refine sh_w (i := (.aload_n 0)) (len := 1) (pc2 := 46) (lv2 := [(3, .int r1), (2, .int ((m.I 48 4) - 1)), (0, .ref 42), (1, .int x1)]) (st2 := [.ref 42, .int 5, .ref 3]) (h2 := (sh_rep m.T m.I m.J)) rfl rfl rfl ?_
        refine sh_gR1 (len := 3) (x := .ref 49) (pc2 := 49) rfl rfl (sh_s41 hT.st) rfl rfl ?_
        refine sh_w (i := (.iload_n 2)) (len := 1) (pc2 := 50) (lv2 := [(3, .int r1), (2, .int ((m.I 48 4) - 1)), (0, .ref 42), (1, .int x1)]) (st2 := [.int ((m.I 48 4) - 1), .ref 49, .int 5, .ref 3]) (h2 := (sh_rep m.T m.I m.J)) rfl rfl rfl ?_
        exact kk
      obtain ⟨r4, e4, e⟩ := sh_bc_e e
      refine sh_Lk_cV (r := (some (.int r4))) (st2 := [.int r4, .int 5, .ref 3]) (pc2 := 53) (k2 := 110) (a := 48) (as := [.ref 49, .int ((m.I 48 4) - 1)]) (rest := [.int 5, .ref 3]) rfl rfl rfl (fun hT => (sh_s48 hT.st)) rfl rfl ⟨Nat.le_of_ble_eq_true rfl, Nat.le_of_ble_eq_true rfl⟩ (sl_110 e4 ⟨rfl, rfl⟩) rfl rfl (Nat.le_of_ble_eq_true rfl) (Nat.le_of_ble_eq_true rfl) ?_
      rcases sh_bt_e e with ⟨m15, e5, rfl⟩ | ⟨r5, m15, e5, e⟩
      · obtain ⟨rfl, rfl⟩ := tg
        exact sh_Lk_tV (k2 := 50) (a := 2) (as := [.ref 3, .int 5, .int r4]) (rest := []) rfl rfl rfl (fun hT => hT.t2) rfl rfl ⟨Nat.le_of_ble_eq_true rfl, Nat.le_of_ble_eq_true rfl⟩ (sl_50 e5 ⟨rfl, rfl⟩) rfl (Nat.le_of_ble_eq_true rfl) (Nat.le_of_ble_eq_true rfl) (Nat.le_of_ble_eq_true rfl) (Nat.le_of_ble_eq_true rfl) rfl
      refine sh_Lk_cV (r := none) (st2 := []) (pc2 := 56) (k2 := 50) (a := 2) (as := [.ref 3, .int 5, .int r4]) (rest := []) rfl rfl rfl (fun hT => hT.t2) rfl rfl ⟨Nat.le_of_ble_eq_true rfl, Nat.le_of_ble_eq_true rfl⟩ (sl_50 e5 ⟨rfl, rfl⟩) rfl rfl (Nat.le_of_ble_eq_true rfl) (Nat.le_of_ble_eq_true rfl) ?_
      exact sh_Lk_sub (sh_sub_c rfl (sh_sub_c rfl (sh_sub_c rfl (sh_sub_n)))) (sl_196_56 e tg)
  · refine sh_Lk_lift (T := m.T) (I := m.I) (J := m.J) (s := m.s) (pc2 := 56) (lv2 := [(3, .int r1), (2, .int ((m.I 48 4) - 1)), (0, .ref 42), (1, .int x1)]) (st2 := []) (I2 := m.I) (J2 := m.J) (fun hT v kk => ?_) ?_
    · refine sh_j0 (c := .ne) (off := (36)) (pc2 := 56) true rfl (sh_Bnet c) rfl ?_
      exact kk
    exact sh_Lk_sub (sh_sub_c rfl (sh_sub_c rfl (sh_sub_c rfl (sh_sub_n)))) (sl_196_56 e tg)
theorem sl_198_41s {x1 : Int32} {x2 : Int32} {x3 : Int32} {x4 : Int32} {x5 : Int32} {x6 : Int32} {x7 : Int32} {x8 : Int32} {x9 : Int32} {m m2 : sh_X} {o : Outcome} {z : ((Int32 × sh_X) ⊕ ((Int32 × sh_X) ⊕ (Int32 × sh_X)))} (e : sf_198_41s x1 x2 x3 x4 x5 x6 x7 x8 x9 m = some z) (tg : (sh_el (fun q => sh_Lk 198 41 [(0, .ref 45), (1, .int x1), (2, .int x2), (3, .int x3), (4, .int x4), (5, .int x5), (6, .int x6), (7, .int x7), (8, .int x8), (9, .int q.1)] [] q.2 o m2 14 336) (sh_el (fun q => sh_Lk 198 18 [(0, .ref 45), (1, .int x1), (2, .int x2), (3, .int x3), (4, .int x4), (5, .int x5), (6, .int x6), (7, .int q.1)] [] q.2 o m2 14 336) (sh_tI o m2))) z) : sh_Lk 198 41 [(0, .ref 45), (1, .int x1), (2, .int x2), (3, .int x3), (4, .int x4), (5, .int x5), (6, .int x6), (7, .int x7), (8, .int x8), (9, .int x9)] [] m o m2 14 336 := by
  unfold sf_198_41s at e
  refine sh_Lk_lift (T := m.T) (I := m.I) (J := m.J) (s := m.s) (pc2 := 45) (lv2 := [(0, .ref 45), (1, .int x1), (2, .int x2), (3, .int x3), (4, .int x4), (5, .int x5), (6, .int x6), (7, .int x7), (8, .int x8), (9, .int x9)]) (st2 := [.int x5, .int x9]) (I2 := m.I) (J2 := m.J) (fun hT v kk => ?_) ?_
  · refine sh_w (i := (.iload 9)) (len := 2) (pc2 := 43) (lv2 := [(0, .ref 45), (1, .int x1), (2, .int x2), (3, .int x3), (4, .int x4), (5, .int x5), (6, .int x6), (7, .int x7), (8, .int x8), (9, .int x9)]) (st2 := [.int x9]) (h2 := (sh_rep m.T m.I m.J)) rfl rfl rfl ?_
    refine sh_w (i := (.iload 5)) (len := 2) (pc2 := 45) (lv2 := [(0, .ref 45), (1, .int x1), (2, .int x2), (3, .int x3), (4, .int x4), (5, .int x5), (6, .int x6), (7, .int x7), (8, .int x8), (9, .int x9)]) (st2 := [.int x5, .int x9]) (h2 := (sh_rep m.T m.I m.J)) rfl rfl rfl ?_
    exact kk
  rcases sh_ite e with ⟨c, e⟩ | ⟨c, e⟩
  · refine sh_Lk_lift (T := m.T) (I := m.I) (J := m.J) (s := m.s) (pc2 := 65) (lv2 := [(0, .ref 45), (1, .int x1), (2, .int x2), (3, .int x3), (4, .int x4), (5, .int x5), (6, .int x6), (7, .int x7), (8, .int x8), (9, .int x9)]) (st2 := [.int ((x1 + (x7 * x5)) + x9), .ref 45, .int x8, .ref 10]) (I2 := m.I) (J2 := m.J) (fun hT v kk => ?_) ?_
    · refine sh_jc (c := .ge) (off := (61)) (pc2 := 48) false rfl (sh_Bgef c) rfl ?_
      refine sh_w (i := (.aload_n 0)) (len := 1) (pc2 := 49) (lv2 := [(0, .ref 45), (1, .int x1), (2, .int x2), (3, .int x3), (4, .int x4), (5, .int x5), (6, .int x6), (7, .int x7), (8, .int x8), (9, .int x9)]) (st2 := [.ref 45]) (h2 := (sh_rep m.T m.I m.J)) rfl rfl rfl ?_
      refine sh_gR1 (len := 3) (x := .ref 10) (pc2 := 52) rfl rfl (sh_s44 hT.st) rfl rfl ?_
      refine sh_w (i := (.iload 8)) (len := 2) (pc2 := 54) (lv2 := [(0, .ref 45), (1, .int x1), (2, .int x2), (3, .int x3), (4, .int x4), (5, .int x5), (6, .int x6), (7, .int x7), (8, .int x8), (9, .int x9)]) (st2 := [.int x8, .ref 10]) (h2 := (sh_rep m.T m.I m.J)) rfl rfl rfl ?_
      refine sh_w (i := (.aload_n 0)) (len := 1) (pc2 := 55) (lv2 := [(0, .ref 45), (1, .int x1), (2, .int x2), (3, .int x3), (4, .int x4), (5, .int x5), (6, .int x6), (7, .int x7), (8, .int x8), (9, .int x9)]) (st2 := [.ref 45, .int x8, .ref 10]) (h2 := (sh_rep m.T m.I m.J)) rfl rfl rfl ?_
      refine sh_w (i := (.iload_n 1)) (len := 1) (pc2 := 56) (lv2 := [(0, .ref 45), (1, .int x1), (2, .int x2), (3, .int x3), (4, .int x4), (5, .int x5), (6, .int x6), (7, .int x7), (8, .int x8), (9, .int x9)]) (st2 := [.int x1, .ref 45, .int x8, .ref 10]) (h2 := (sh_rep m.T m.I m.J)) rfl rfl rfl ?_
      refine sh_w (i := (.iload 7)) (len := 2) (pc2 := 58) (lv2 := [(0, .ref 45), (1, .int x1), (2, .int x2), (3, .int x3), (4, .int x4), (5, .int x5), (6, .int x6), (7, .int x7), (8, .int x8), (9, .int x9)]) (st2 := [.int x7, .int x1, .ref 45, .int x8, .ref 10]) (h2 := (sh_rep m.T m.I m.J)) rfl rfl rfl ?_
      refine sh_w (i := (.iload 5)) (len := 2) (pc2 := 60) (lv2 := [(0, .ref 45), (1, .int x1), (2, .int x2), (3, .int x3), (4, .int x4), (5, .int x5), (6, .int x6), (7, .int x7), (8, .int x8), (9, .int x9)]) (st2 := [.int x5, .int x7, .int x1, .ref 45, .int x8, .ref 10]) (h2 := (sh_rep m.T m.I m.J)) rfl rfl rfl ?_
      refine sh_w (i := .imul) (len := 1) (pc2 := 61) (lv2 := [(0, .ref 45), (1, .int x1), (2, .int x2), (3, .int x3), (4, .int x4), (5, .int x5), (6, .int x6), (7, .int x7), (8, .int x8), (9, .int x9)]) (st2 := [.int (x7 * x5), .int x1, .ref 45, .int x8, .ref 10]) (h2 := (sh_rep m.T m.I m.J)) rfl rfl rfl ?_
      refine sh_w (i := .iadd) (len := 1) (pc2 := 62) (lv2 := [(0, .ref 45), (1, .int x1), (2, .int x2), (3, .int x3), (4, .int x4), (5, .int x5), (6, .int x6), (7, .int x7), (8, .int x8), (9, .int x9)]) (st2 := [.int (x1 + (x7 * x5)), .ref 45, .int x8, .ref 10]) (h2 := (sh_rep m.T m.I m.J)) rfl rfl rfl ?_
      refine sh_w (i := (.iload 9)) (len := 2) (pc2 := 64) (lv2 := [(0, .ref 45), (1, .int x1), (2, .int x2), (3, .int x3), (4, .int x4), (5, .int x5), (6, .int x6), (7, .int x7), (8, .int x8), (9, .int x9)]) (st2 := [.int x9, .int (x1 + (x7 * x5)), .ref 45, .int x8, .ref 10]) (h2 := (sh_rep m.T m.I m.J)) rfl rfl rfl ?_
      refine sh_w (i := .iadd) (len := 1) (pc2 := 65) (lv2 := [(0, .ref 45), (1, .int x1), (2, .int x2), (3, .int x3), (4, .int x4), (5, .int x5), (6, .int x6), (7, .int x7), (8, .int x8), (9, .int x9)]) (st2 := [.int ((x1 + (x7 * x5)) + x9), .ref 45, .int x8, .ref 10]) (h2 := (sh_rep m.T m.I m.J)) rfl rfl rfl ?_
      exact kk
    obtain ⟨r1, e1, e⟩ := sh_bc_e e
    refine sh_Lk_cV (r := (some (.int r1))) (st2 := [.int r1, .int x8, .ref 10]) (pc2 := 68) (k2 := 103) (a := 44) (as := [.ref 45, .int ((x1 + (x7 * x5)) + x9)]) (rest := [.int x8, .ref 10]) rfl rfl rfl (fun hT => (sh_s44 hT.st)) rfl rfl ⟨Nat.le_of_ble_eq_true rfl, Nat.le_of_ble_eq_true rfl⟩ (sl_103 e1 ⟨rfl, rfl⟩) rfl rfl (Nat.le_of_ble_eq_true rfl) (Nat.le_of_ble_eq_true rfl) ?_
    obtain ⟨r2, m12, e2, e⟩ := sh_bn_e e
    refine sh_Lk_cV (r := (some (.int r2))) (st2 := [.int r2]) (pc2 := 71) (k2 := 132) (a := 9) (as := [.ref 10, .int x8, .int r1]) (rest := []) rfl rfl rfl (fun hT => hT.t9) rfl rfl ⟨Nat.le_of_ble_eq_true rfl, Nat.le_of_ble_eq_true rfl⟩ (sl_132 e2 ⟨rfl, rfl⟩) rfl rfl (Nat.le_of_ble_eq_true rfl) (Nat.le_of_ble_eq_true rfl) ?_
    refine sh_Lk_lift (T := m12.T) (I := m12.I) (J := m12.J) (s := m12.s) (pc2 := 89) (lv2 := [(10, .int r2), (0, .ref 45), (1, .int x1), (2, .int x2), (3, .int x3), (4, .int x4), (5, .int x5), (6, .int x6), (7, .int x7), (8, .int x8), (9, .int x9)]) (st2 := [.int (x6 + x9), .ref 45, .ref 10, .int (x6 + x9), .ref 45]) (I2 := m12.I) (J2 := m12.J) (fun hT v kk => ?_) ?_
    · refine sh_w (i := (.istore 10)) (len := 2) (pc2 := 73) (lv2 := [(10, .int r2), (0, .ref 45), (1, .int x1), (2, .int x2), (3, .int x3), (4, .int x4), (5, .int x5), (6, .int x6), (7, .int x7), (8, .int x8), (9, .int x9)]) (st2 := []) (h2 := (sh_rep m12.T m12.I m12.J)) rfl rfl rfl ?_
      refine sh_w (i := (.aload_n 0)) (len := 1) (pc2 := 74) (lv2 := [(10, .int r2), (0, .ref 45), (1, .int x1), (2, .int x2), (3, .int x3), (4, .int x4), (5, .int x5), (6, .int x6), (7, .int x7), (8, .int x8), (9, .int x9)]) (st2 := [.ref 45]) (h2 := (sh_rep m12.T m12.I m12.J)) rfl rfl rfl ?_
      refine sh_w (i := (.iload 6)) (len := 2) (pc2 := 76) (lv2 := [(10, .int r2), (0, .ref 45), (1, .int x1), (2, .int x2), (3, .int x3), (4, .int x4), (5, .int x5), (6, .int x6), (7, .int x7), (8, .int x8), (9, .int x9)]) (st2 := [.int x6, .ref 45]) (h2 := (sh_rep m12.T m12.I m12.J)) rfl rfl rfl ?_
      refine sh_w (i := (.iload 9)) (len := 2) (pc2 := 78) (lv2 := [(10, .int r2), (0, .ref 45), (1, .int x1), (2, .int x2), (3, .int x3), (4, .int x4), (5, .int x5), (6, .int x6), (7, .int x7), (8, .int x8), (9, .int x9)]) (st2 := [.int x9, .int x6, .ref 45]) (h2 := (sh_rep m12.T m12.I m12.J)) rfl rfl rfl ?_
      refine sh_w (i := .iadd) (len := 1) (pc2 := 79) (lv2 := [(10, .int r2), (0, .ref 45), (1, .int x1), (2, .int x2), (3, .int x3), (4, .int x4), (5, .int x5), (6, .int x6), (7, .int x7), (8, .int x8), (9, .int x9)]) (st2 := [.int (x6 + x9), .ref 45]) (h2 := (sh_rep m12.T m12.I m12.J)) rfl rfl rfl ?_
      refine sh_w (i := (.aload_n 0)) (len := 1) (pc2 := 80) (lv2 := [(10, .int r2), (0, .ref 45), (1, .int x1), (2, .int x2), (3, .int x3), (4, .int x4), (5, .int x5), (6, .int x6), (7, .int x7), (8, .int x8), (9, .int x9)]) (st2 := [.ref 45, .int (x6 + x9), .ref 45]) (h2 := (sh_rep m12.T m12.I m12.J)) rfl rfl rfl ?_
      refine sh_gR1 (len := 3) (x := .ref 10) (pc2 := 83) rfl rfl (sh_s44 hT.st) rfl rfl ?_
      refine sh_w (i := (.aload_n 0)) (len := 1) (pc2 := 84) (lv2 := [(10, .int r2), (0, .ref 45), (1, .int x1), (2, .int x2), (3, .int x3), (4, .int x4), (5, .int x5), (6, .int x6), (7, .int x7), (8, .int x8), (9, .int x9)]) (st2 := [.ref 45, .ref 10, .int (x6 + x9), .ref 45]) (h2 := (sh_rep m12.T m12.I m12.J)) rfl rfl rfl ?_
      refine sh_w (i := (.iload 6)) (len := 2) (pc2 := 86) (lv2 := [(10, .int r2), (0, .ref 45), (1, .int x1), (2, .int x2), (3, .int x3), (4, .int x4), (5, .int x5), (6, .int x6), (7, .int x7), (8, .int x8), (9, .int x9)]) (st2 := [.int x6, .ref 45, .ref 10, .int (x6 + x9), .ref 45]) (h2 := (sh_rep m12.T m12.I m12.J)) rfl rfl rfl ?_
      refine sh_w (i := (.iload 9)) (len := 2) (pc2 := 88) (lv2 := [(10, .int r2), (0, .ref 45), (1, .int x1), (2, .int x2), (3, .int x3), (4, .int x4), (5, .int x5), (6, .int x6), (7, .int x7), (8, .int x8), (9, .int x9)]) (st2 := [.int x9, .int x6, .ref 45, .ref 10, .int (x6 + x9), .ref 45]) (h2 := (sh_rep m12.T m12.I m12.J)) rfl rfl rfl ?_
      refine sh_w (i := .iadd) (len := 1) (pc2 := 89) (lv2 := [(10, .int r2), (0, .ref 45), (1, .int x1), (2, .int x2), (3, .int x3), (4, .int x4), (5, .int x5), (6, .int x6), (7, .int x7), (8, .int x8), (9, .int x9)]) (st2 := [.int (x6 + x9), .ref 45, .ref 10, .int (x6 + x9), .ref 45]) (h2 := (sh_rep m12.T m12.I m12.J)) rfl rfl rfl ?_
      exact kk
    obtain ⟨r3, e3, e⟩ := sh_bc_e e
    refine sh_Lk_cV (r := (some (.int r3))) (st2 := [.int r3, .ref 10, .int (x6 + x9), .ref 45]) (pc2 := 92) (k2 := 103) (a := 44) (as := [.ref 45, .int (x6 + x9)]) (rest := [.ref 10, .int (x6 + x9), .ref 45]) rfl rfl rfl (fun hT => (sh_s44 hT.st)) rfl rfl ⟨Nat.le_of_ble_eq_true rfl, Nat.le_of_ble_eq_true rfl⟩ (sl_103 e3 ⟨rfl, rfl⟩) rfl rfl (Nat.le_of_ble_eq_true rfl) (Nat.le_of_ble_eq_true rfl) ?_
    refine sh_Lk_lift (T := m12.T) (I := m12.I) (J := m12.J) (s := m12.s) (pc2 := 94) (lv2 := [(10, .int r2), (0, .ref 45), (1, .int x1), (2, .int x2), (3, .int x3), (4, .int x4), (5, .int x5), (6, .int x6), (7, .int x7), (8, .int x8), (9, .int x9)]) (st2 := [.int r2, .int r3, .ref 10, .int (x6 + x9), .ref 45]) (I2 := m12.I) (J2 := m12.J) (fun hT v kk => ?_) ?_
    · refine sh_w (i := (.iload 10)) (len := 2) (pc2 := 94) (lv2 := [(10, .int r2), (0, .ref 45), (1, .int x1), (2, .int x2), (3, .int x3), (4, .int x4), (5, .int x5), (6, .int x6), (7, .int x7), (8, .int x8), (9, .int x9)]) (st2 := [.int r2, .int r3, .ref 10, .int (x6 + x9), .ref 45]) (h2 := (sh_rep m12.T m12.I m12.J)) rfl rfl rfl ?_
      exact kk
    obtain ⟨r4, m14, e4, e⟩ := sh_bn_e e
    refine sh_Lk_cV (r := (some (.int r4))) (st2 := [.int r4, .int (x6 + x9), .ref 45]) (pc2 := 97) (k2 := 130) (a := 9) (as := [.ref 10, .int r3, .int r2]) (rest := [.int (x6 + x9), .ref 45]) rfl rfl rfl (fun hT => hT.t9) rfl rfl ⟨Nat.le_of_ble_eq_true rfl, Nat.le_of_ble_eq_true rfl⟩ (sl_130 e4 ⟨rfl, rfl⟩) rfl rfl (Nat.le_of_ble_eq_true rfl) (Nat.le_of_ble_eq_true rfl) ?_
    obtain ⟨r5, m15, e5, e⟩ := sh_bn_e e
    refine sh_Lk_cV (r := none) (st2 := []) (pc2 := 100) (k2 := 100) (a := 44) (as := [.ref 45, .int (x6 + x9), .int r4]) (rest := []) rfl rfl rfl (fun hT => (sh_s44 hT.st)) rfl rfl ⟨Nat.le_of_ble_eq_true rfl, Nat.le_of_ble_eq_true rfl⟩ (sl_100 e5 ⟨rfl, rfl⟩) rfl rfl (Nat.le_of_ble_eq_true rfl) (Nat.le_of_ble_eq_true rfl) ?_
    refine sh_Lk_lift (T := m15.T) (I := m15.I) (J := m15.J) (s := m15.s) (pc2 := 41) (lv2 := [(9, .int (x9 + 1)), (10, .int r2), (0, .ref 45), (1, .int x1), (2, .int x2), (3, .int x3), (4, .int x4), (5, .int x5), (6, .int x6), (7, .int x7), (8, .int x8)]) (st2 := []) (I2 := m15.I) (J2 := m15.J) (fun hT v kk => ?_) ?_
    · refine sh_w (i := (.iinc 9 1)) (len := 3) (pc2 := 103) (lv2 := [(9, .int (x9 + 1)), (10, .int r2), (0, .ref 45), (1, .int x1), (2, .int x2), (3, .int x3), (4, .int x4), (5, .int x5), (6, .int x6), (7, .int x7), (8, .int x8)]) (st2 := []) (h2 := (sh_rep m15.T m15.I m15.J)) rfl rfl rfl ?_
      refine sh_w (i := (.goto (-62))) (len := 3) (pc2 := 41) (lv2 := [(9, .int (x9 + 1)), (10, .int r2), (0, .ref 45), (1, .int x1), (2, .int x2), (3, .int x3), (4, .int x4), (5, .int x5), (6, .int x6), (7, .int x7), (8, .int x8)]) (st2 := []) (h2 := (sh_rep m15.T m15.I m15.J)) rfl rfl rfl ?_
      exact kk
    obtain rfl := Option.some.inj e
    exact sh_Lk_sub (sh_sub_c rfl (sh_sub_c rfl (sh_sub_c rfl (sh_sub_c rfl (sh_sub_c rfl (sh_sub_c rfl (sh_sub_c rfl (sh_sub_c rfl (sh_sub_c rfl (sh_sub_c rfl (sh_sub_n))))))))))) tg
  · refine sh_Lk_lift (T := m.T) (I := m.I) (J := m.J) (s := m.s) (pc2 := 18) (lv2 := [(7, .int (x7 + 1)), (0, .ref 45), (1, .int x1), (2, .int x2), (3, .int x3), (4, .int x4), (5, .int x5), (6, .int x6), (8, .int x8), (9, .int x9)]) (st2 := []) (I2 := m.I) (J2 := m.J) (fun hT v kk => ?_) ?_
    · refine sh_jc (c := .ge) (off := (61)) (pc2 := 106) true rfl (sh_Bget c) rfl ?_
      refine sh_w (i := (.iinc 7 1)) (len := 3) (pc2 := 109) (lv2 := [(7, .int (x7 + 1)), (0, .ref 45), (1, .int x1), (2, .int x2), (3, .int x3), (4, .int x4), (5, .int x5), (6, .int x6), (8, .int x8), (9, .int x9)]) (st2 := []) (h2 := (sh_rep m.T m.I m.J)) rfl rfl rfl ?_
      refine sh_w (i := (.goto (-91))) (len := 3) (pc2 := 18) (lv2 := [(7, .int (x7 + 1)), (0, .ref 45), (1, .int x1), (2, .int x2), (3, .int x3), (4, .int x4), (5, .int x5), (6, .int x6), (8, .int x8), (9, .int x9)]) (st2 := []) (h2 := (sh_rep m.T m.I m.J)) rfl rfl rfl ?_
      exact kk
    obtain rfl := Option.some.inj e
    exact sh_Lk_sub (sh_sub_c rfl (sh_sub_c rfl (sh_sub_c rfl (sh_sub_c rfl (sh_sub_c rfl (sh_sub_c rfl (sh_sub_c rfl (sh_sub_c rfl (sh_sub_n))))))))) tg
theorem sl_198_41 {x1 : Int32} {x2 : Int32} {x3 : Int32} {x4 : Int32} {x5 : Int32} {x6 : Int32} {x7 : Int32} {x8 : Int32} {x9 : Int32} {m m2 : sh_X} {o : Outcome} {z : ((Int32 × sh_X) ⊕ (Int32 × sh_X))} (e : sf_198_41 x1 x2 x3 x4 x5 x6 x7 x8 x9 m = some z) (tg : (sh_el (fun q => sh_Lk 198 18 [(0, .ref 45), (1, .int x1), (2, .int x2), (3, .int x3), (4, .int x4), (5, .int x5), (6, .int x6), (7, .int q.1)] [] q.2 o m2 14 336) (sh_tI o m2)) z) : sh_Lk 198 41 [(0, .ref 45), (1, .int x1), (2, .int x2), (3, .int x3), (4, .int x4), (5, .int x5), (6, .int x6), (7, .int x7), (8, .int x8), (9, .int x9)] [] m o m2 14 336 := by
  unfold sf_198_41 at e
  exact sh_while_lk (P := fun q => sh_Lk 198 41 [(0, .ref 45), (1, .int x1), (2, .int x2), (3, .int x3), (4, .int x4), (5, .int x5), (6, .int x6), (7, .int x7), (8, .int x8), (9, .int q.1)] [] q.2 o m2 14 336) (Q := (sh_el (fun q => sh_Lk 198 18 [(0, .ref 45), (1, .int x1), (2, .int x2), (3, .int x3), (4, .int x4), (5, .int x5), (6, .int x6), (7, .int q.1)] [] q.2 o m2 14 336) (sh_tI o m2))) (fun q z e tg => sl_198_41s (x1 := x1) (x2 := x2) (x3 := x3) (x4 := x4) (x5 := x5) (x6 := x6) (x7 := x7) (x8 := x8) (x9 := q.1) (m := q.2) e tg) (s := (x9, m)) e tg
theorem sl_198_18s {x1 : Int32} {x2 : Int32} {x3 : Int32} {x4 : Int32} {x5 : Int32} {x6 : Int32} {x7 : Int32} {m m2 : sh_X} {o : Outcome} {z : ((Int32 × sh_X) ⊕ (Int32 × sh_X))} (e : sf_198_18s x1 x2 x3 x4 x5 x6 x7 m = some z) (tg : (sh_el (fun q => sh_Lk 198 18 [(0, .ref 45), (1, .int x1), (2, .int x2), (3, .int x3), (4, .int x4), (5, .int x5), (6, .int x6), (7, .int q.1)] [] q.2 o m2 14 336) (sh_tI o m2)) z) : sh_Lk 198 18 [(0, .ref 45), (1, .int x1), (2, .int x2), (3, .int x3), (4, .int x4), (5, .int x5), (6, .int x6), (7, .int x7)] [] m o m2 14 336 := by
  unfold sf_198_18s at e
  refine sh_Lk_lift (T := m.T) (I := m.I) (J := m.J) (s := m.s) (pc2 := 21) (lv2 := [(0, .ref 45), (1, .int x1), (2, .int x2), (3, .int x3), (4, .int x4), (5, .int x5), (6, .int x6), (7, .int x7)]) (st2 := [.int x2, .int x7]) (I2 := m.I) (J2 := m.J) (fun hT v kk => ?_) ?_
  · refine sh_w (i := (.iload 7)) (len := 2) (pc2 := 20) (lv2 := [(0, .ref 45), (1, .int x1), (2, .int x2), (3, .int x3), (4, .int x4), (5, .int x5), (6, .int x6), (7, .int x7)]) (st2 := [.int x7]) (h2 := (sh_rep m.T m.I m.J)) rfl rfl rfl ?_
    refine sh_w (i := (.iload_n 2)) (len := 1) (pc2 := 21) (lv2 := [(0, .ref 45), (1, .int x1), (2, .int x2), (3, .int x3), (4, .int x4), (5, .int x5), (6, .int x6), (7, .int x7)]) (st2 := [.int x2, .int x7]) (h2 := (sh_rep m.T m.I m.J)) rfl rfl rfl ?_
    exact kk
  refine sh_Lk_cS (r := (some (.int (sf_93 x2)))) (st2 := [.int (sf_93 x2), .int x7]) (pc2 := 24) (k2 := 93) (as := [.int x2]) (rest := [.int x7]) rfl rfl (by decide) (Nat.le_of_ble_eq_true rfl) rfl rfl ⟨Nat.le_of_ble_eq_true rfl, Nat.le_of_ble_eq_true rfl⟩ (sl_93 (m := m) rfl ⟨rfl, rfl⟩) rfl rfl (Nat.le_of_ble_eq_true rfl) (Nat.le_of_ble_eq_true rfl) ?_
  rcases sh_ite e with ⟨c, e⟩ | ⟨c, e⟩
  · refine sh_Lk_lift (T := m.T) (I := m.I) (J := m.J) (s := m.s) (pc2 := 33) (lv2 := [(0, .ref 45), (1, .int x1), (2, .int x2), (3, .int x3), (4, .int x4), (5, .int x5), (6, .int x6), (7, .int x7)]) (st2 := [.int x7, .int x4, .int x3, .ref 45]) (I2 := m.I) (J2 := m.J) (fun hT v kk => ?_) ?_
    · refine sh_jc (c := .ge) (off := (88)) (pc2 := 27) false rfl (sh_Bgef c) rfl ?_
      refine sh_w (i := (.aload_n 0)) (len := 1) (pc2 := 28) (lv2 := [(0, .ref 45), (1, .int x1), (2, .int x2), (3, .int x3), (4, .int x4), (5, .int x5), (6, .int x6), (7, .int x7)]) (st2 := [.ref 45]) (h2 := (sh_rep m.T m.I m.J)) rfl rfl rfl ?_
      refine sh_w (i := (.iload_n 3)) (len := 1) (pc2 := 29) (lv2 := [(0, .ref 45), (1, .int x1), (2, .int x2), (3, .int x3), (4, .int x4), (5, .int x5), (6, .int x6), (7, .int x7)]) (st2 := [.int x3, .ref 45]) (h2 := (sh_rep m.T m.I m.J)) rfl rfl rfl ?_
      refine sh_w (i := (.iload 4)) (len := 2) (pc2 := 31) (lv2 := [(0, .ref 45), (1, .int x1), (2, .int x2), (3, .int x3), (4, .int x4), (5, .int x5), (6, .int x6), (7, .int x7)]) (st2 := [.int x4, .int x3, .ref 45]) (h2 := (sh_rep m.T m.I m.J)) rfl rfl rfl ?_
      refine sh_w (i := (.iload 7)) (len := 2) (pc2 := 33) (lv2 := [(0, .ref 45), (1, .int x1), (2, .int x2), (3, .int x3), (4, .int x4), (5, .int x5), (6, .int x6), (7, .int x7)]) (st2 := [.int x7, .int x4, .int x3, .ref 45]) (h2 := (sh_rep m.T m.I m.J)) rfl rfl rfl ?_
      exact kk
    obtain ⟨r2, m12, e2, e⟩ := sh_bn_e e
    refine sh_Lk_cV (r := (some (.int r2))) (st2 := [.int r2]) (pc2 := 36) (k2 := 140) (a := 44) (as := [.ref 45, .int x3, .int x4, .int x7]) (rest := []) rfl rfl rfl (fun hT => (sh_s44 hT.st)) rfl rfl ⟨Nat.le_of_ble_eq_true rfl, Nat.le_of_ble_eq_true rfl⟩ (sl_140 e2 ⟨rfl, rfl⟩) rfl rfl (Nat.le_of_ble_eq_true rfl) (Nat.le_of_ble_eq_true rfl) ?_
    refine sh_Lk_lift (T := m12.T) (I := m12.I) (J := m12.J) (s := m12.s) (pc2 := 41) (lv2 := [(9, .int 0), (8, .int r2), (0, .ref 45), (1, .int x1), (2, .int x2), (3, .int x3), (4, .int x4), (5, .int x5), (6, .int x6), (7, .int x7)]) (st2 := []) (I2 := m12.I) (J2 := m12.J) (fun hT v kk => ?_) ?_
    · refine sh_w (i := (.istore 8)) (len := 2) (pc2 := 38) (lv2 := [(8, .int r2), (0, .ref 45), (1, .int x1), (2, .int x2), (3, .int x3), (4, .int x4), (5, .int x5), (6, .int x6), (7, .int x7)]) (st2 := []) (h2 := (sh_rep m12.T m12.I m12.J)) rfl rfl rfl ?_
      refine sh_w (i := (.iconst 0)) (len := 1) (pc2 := 39) (lv2 := [(8, .int r2), (0, .ref 45), (1, .int x1), (2, .int x2), (3, .int x3), (4, .int x4), (5, .int x5), (6, .int x6), (7, .int x7)]) (st2 := [.int 0]) (h2 := (sh_rep m12.T m12.I m12.J)) rfl rfl rfl ?_
      refine sh_w (i := (.istore 9)) (len := 2) (pc2 := 41) (lv2 := [(9, .int 0), (8, .int r2), (0, .ref 45), (1, .int x1), (2, .int x2), (3, .int x3), (4, .int x4), (5, .int x5), (6, .int x6), (7, .int x7)]) (st2 := []) (h2 := (sh_rep m12.T m12.I m12.J)) rfl rfl rfl ?_
      exact kk
    exact sh_Lk_sub (sh_sub_c rfl (sh_sub_c rfl (sh_sub_c rfl (sh_sub_c rfl (sh_sub_c rfl (sh_sub_c rfl (sh_sub_c rfl (sh_sub_c rfl (sh_sub_c rfl (sh_sub_c rfl (sh_sub_n))))))))))) (sl_198_41 e tg)
  · refine sh_Lk_lift (T := m.T) (I := m.I) (J := m.J) (s := m.s) (pc2 := 114) (lv2 := [(0, .ref 45), (1, .int x1), (2, .int x2), (3, .int x3), (4, .int x4), (5, .int x5), (6, .int x6), (7, .int x7)]) (st2 := [.int x6]) (I2 := m.I) (J2 := m.J) (fun hT v kk => ?_) ?_
    · refine sh_jc (c := .ge) (off := (88)) (pc2 := 112) true rfl (sh_Bget c) rfl ?_
      refine sh_w (i := (.iload 6)) (len := 2) (pc2 := 114) (lv2 := [(0, .ref 45), (1, .int x1), (2, .int x2), (3, .int x3), (4, .int x4), (5, .int x5), (6, .int x6), (7, .int x7)]) (st2 := [.int x6]) (h2 := (sh_rep m.T m.I m.J)) rfl rfl rfl ?_
      exact kk
    obtain rfl := Option.some.inj e
    obtain ⟨rfl, rfl⟩ := tg
    exact sh_Lk_ret (i := .ireturn) rfl rfl rfl (Nat.le_of_ble_eq_true rfl) (Nat.le_of_ble_eq_true rfl)
theorem sl_198_18 {x1 : Int32} {x2 : Int32} {x3 : Int32} {x4 : Int32} {x5 : Int32} {x6 : Int32} {x7 : Int32} {m m2 : sh_X} {o : Outcome} {z : (Int32 × sh_X)} (e : sf_198_18 x1 x2 x3 x4 x5 x6 x7 m = some z) (tg : (sh_tI o m2) z) : sh_Lk 198 18 [(0, .ref 45), (1, .int x1), (2, .int x2), (3, .int x3), (4, .int x4), (5, .int x5), (6, .int x6), (7, .int x7)] [] m o m2 14 336 := by
  unfold sf_198_18 at e
  exact sh_while_lk (P := fun q => sh_Lk 198 18 [(0, .ref 45), (1, .int x1), (2, .int x2), (3, .int x3), (4, .int x4), (5, .int x5), (6, .int x6), (7, .int q.1)] [] q.2 o m2 14 336) (Q := (sh_tI o m2)) (fun q z e tg => sl_198_18s (x1 := x1) (x2 := x2) (x3 := x3) (x4 := x4) (x5 := x5) (x6 := x6) (x7 := q.1) (m := q.2) e tg) (s := (x7, m)) e tg
theorem sl_198 {x1 : Int32} {x2 : Int32} {x3 : Int32} {x4 : Int32} {m m2 : sh_X} {o : Outcome} {z : (Int32 × sh_X)} (e : sf_198 x1 x2 x3 x4 m = some z) (tg : (sh_tI o m2) z) : sh_Lk 198 0 [(0, .ref 45), (1, .int x1), (2, .int x2), (3, .int x3), (4, .int x4)] [] m o m2 14 336 := by
  unfold sf_198 at e
  refine sh_Lk_lift (T := m.T) (I := m.I) (J := m.J) (s := m.s) (pc2 := 1) (lv2 := [(0, .ref 45), (1, .int x1), (2, .int x2), (3, .int x3), (4, .int x4)]) (st2 := [.int x2]) (I2 := m.I) (J2 := m.J) (fun hT v kk => ?_) ?_
  · refine sh_w (i := (.iload_n 2)) (len := 1) (pc2 := 1) (lv2 := [(0, .ref 45), (1, .int x1), (2, .int x2), (3, .int x3), (4, .int x4)]) (st2 := [.int x2]) (h2 := (sh_rep m.T m.I m.J)) rfl rfl rfl ?_
    exact kk
  refine sh_Lk_cS (r := (some (.int (sf_94 x2)))) (st2 := [.int (sf_94 x2)]) (pc2 := 4) (k2 := 94) (as := [.int x2]) (rest := []) rfl rfl (by decide) (Nat.le_of_ble_eq_true rfl) rfl rfl ⟨Nat.le_of_ble_eq_true rfl, Nat.le_of_ble_eq_true rfl⟩ (sl_94 (m := m) rfl ⟨rfl, rfl⟩) rfl rfl (Nat.le_of_ble_eq_true rfl) (Nat.le_of_ble_eq_true rfl) ?_
  refine sh_Lk_lift (T := m.T) (I := m.I) (J := m.J) (s := m.s) (pc2 := 10) (lv2 := [(5, .int (sf_94 x2)), (0, .ref 45), (1, .int x1), (2, .int x2), (3, .int x3), (4, .int x4)]) (st2 := [.int (sf_94 x2), .long 0, .ref 45]) (I2 := m.I) (J2 := m.J) (fun hT v kk => ?_) ?_
  · refine sh_w (i := (.istore 5)) (len := 2) (pc2 := 6) (lv2 := [(5, .int (sf_94 x2)), (0, .ref 45), (1, .int x1), (2, .int x2), (3, .int x3), (4, .int x4)]) (st2 := []) (h2 := (sh_rep m.T m.I m.J)) rfl rfl rfl ?_
    refine sh_w (i := (.aload_n 0)) (len := 1) (pc2 := 7) (lv2 := [(5, .int (sf_94 x2)), (0, .ref 45), (1, .int x1), (2, .int x2), (3, .int x3), (4, .int x4)]) (st2 := [.ref 45]) (h2 := (sh_rep m.T m.I m.J)) rfl rfl rfl ?_
    refine sh_w (i := (.lconst 0)) (len := 1) (pc2 := 8) (lv2 := [(5, .int (sf_94 x2)), (0, .ref 45), (1, .int x1), (2, .int x2), (3, .int x3), (4, .int x4)]) (st2 := [.long 0, .ref 45]) (h2 := (sh_rep m.T m.I m.J)) rfl rfl rfl ?_
    refine sh_w (i := (.iload 5)) (len := 2) (pc2 := 10) (lv2 := [(5, .int (sf_94 x2)), (0, .ref 45), (1, .int x1), (2, .int x2), (3, .int x3), (4, .int x4)]) (st2 := [.int (sf_94 x2), .long 0, .ref 45]) (h2 := (sh_rep m.T m.I m.J)) rfl rfl rfl ?_
    exact kk
  obtain ⟨r2, m12, e2, e⟩ := sh_bn_e e
  refine sh_Lk_cV (r := (some (.int r2))) (st2 := [.int r2]) (pc2 := 13) (k2 := 115) (a := 44) (as := [.ref 45, .long 0, .int (sf_94 x2)]) (rest := []) rfl rfl rfl (fun hT => (sh_s44 hT.st)) rfl rfl ⟨Nat.le_of_ble_eq_true rfl, Nat.le_of_ble_eq_true rfl⟩ (sl_115 e2 ⟨rfl, rfl⟩) rfl rfl (Nat.le_of_ble_eq_true rfl) (Nat.le_of_ble_eq_true rfl) ?_
  refine sh_Lk_lift (T := m12.T) (I := m12.I) (J := m12.J) (s := m12.s) (pc2 := 18) (lv2 := [(7, .int 0), (6, .int r2), (5, .int (sf_94 x2)), (0, .ref 45), (1, .int x1), (2, .int x2), (3, .int x3), (4, .int x4)]) (st2 := []) (I2 := m12.I) (J2 := m12.J) (fun hT v kk => ?_) ?_
  · refine sh_w (i := (.istore 6)) (len := 2) (pc2 := 15) (lv2 := [(6, .int r2), (5, .int (sf_94 x2)), (0, .ref 45), (1, .int x1), (2, .int x2), (3, .int x3), (4, .int x4)]) (st2 := []) (h2 := (sh_rep m12.T m12.I m12.J)) rfl rfl rfl ?_
    refine sh_w (i := (.iconst 0)) (len := 1) (pc2 := 16) (lv2 := [(6, .int r2), (5, .int (sf_94 x2)), (0, .ref 45), (1, .int x1), (2, .int x2), (3, .int x3), (4, .int x4)]) (st2 := [.int 0]) (h2 := (sh_rep m12.T m12.I m12.J)) rfl rfl rfl ?_
    refine sh_w (i := (.istore 7)) (len := 2) (pc2 := 18) (lv2 := [(7, .int 0), (6, .int r2), (5, .int (sf_94 x2)), (0, .ref 45), (1, .int x1), (2, .int x2), (3, .int x3), (4, .int x4)]) (st2 := []) (h2 := (sh_rep m12.T m12.I m12.J)) rfl rfl rfl ?_
    exact kk
  exact sh_Lk_sub (sh_sub_c rfl (sh_sub_c rfl (sh_sub_c rfl (sh_sub_c rfl (sh_sub_c rfl (sh_sub_c rfl (sh_sub_c rfl (sh_sub_c rfl (sh_sub_n))))))))) (sl_198_18 e tg)
theorem sl_197_171 {x4 : Int32} {x6 : Int32} {m m2 : sh_X} {o : Outcome} {z : (Option Unit × sh_X)} (e : sf_197_171 x4 x6 m = some z) (tg : (sh_tVt o m2) z) : sh_Lk 197 171 [(0, .ref 42), (4, .int x4), (6, .int x6)] [] m o m2 15 366 := by
  unfold sf_197_171 at e
  refine sh_Lk_lift (T := m.T) (I := m.I) (J := m.J) (s := m.s) (pc2 := 175) (lv2 := [(0, .ref 42), (4, .int x4), (6, .int x6)]) (st2 := [.int x4, .int 2, .ref 42]) (I2 := m.I) (J2 := m.J) (fun hT v kk => ?_) ?_
  · refine sh_w (i := (.aload_n 0)) (len := 1) (pc2 := 172) (lv2 := [(0, .ref 42), (4, .int x4), (6, .int x6)]) (st2 := [.ref 42]) (h2 := (sh_rep m.T m.I m.J)) rfl rfl rfl ?_
    refine sh_w (i := (.iconst 2)) (len := 1) (pc2 := 173) (lv2 := [(0, .ref 42), (4, .int x4), (6, .int x6)]) (st2 := [.int 2, .ref 42]) (h2 := (sh_rep m.T m.I m.J)) rfl rfl rfl ?_
    refine sh_w (i := (.iload 4)) (len := 2) (pc2 := 175) (lv2 := [(0, .ref 42), (4, .int x4), (6, .int x6)]) (st2 := [.int x4, .int 2, .ref 42]) (h2 := (sh_rep m.T m.I m.J)) rfl rfl rfl ?_
    exact kk
  refine sh_Lk_cS (r := (some (.int (sf_135 x4)))) (st2 := [.int (sf_135 x4), .int 2, .ref 42]) (pc2 := 178) (k2 := 135) (as := [.int x4]) (rest := [.int 2, .ref 42]) rfl rfl (by decide) (Nat.le_of_ble_eq_true rfl) rfl rfl ⟨Nat.le_of_ble_eq_true rfl, Nat.le_of_ble_eq_true rfl⟩ (sl_135 (m := m) rfl ⟨rfl, rfl⟩) rfl rfl (Nat.le_of_ble_eq_true rfl) (Nat.le_of_ble_eq_true rfl) ?_
  refine sh_Lk_lift (T := m.T) (I := m.I) (J := m.J) (s := m.s) (pc2 := 180) (lv2 := [(0, .ref 42), (4, .int x4), (6, .int x6)]) (st2 := [.int x6, .int (sf_135 x4), .int 2, .ref 42]) (I2 := m.I) (J2 := m.J) (fun hT v kk => ?_) ?_
  · refine sh_w (i := (.iload 6)) (len := 2) (pc2 := 180) (lv2 := [(0, .ref 42), (4, .int x4), (6, .int x6)]) (st2 := [.int x6, .int (sf_135 x4), .int 2, .ref 42]) (h2 := (sh_rep m.T m.I m.J)) rfl rfl rfl ?_
    exact kk
  obtain ⟨r2, m12, e2, e⟩ := sh_bn_e e
  refine sh_Lk_cV (r := none) (st2 := []) (pc2 := 183) (k2 := 167) (a := 41) (as := [.ref 42, .int 2, .int (sf_135 x4), .int x6]) (rest := []) rfl rfl rfl (fun hT => (sh_s41 hT.st)) rfl rfl ⟨Nat.le_of_ble_eq_true rfl, Nat.le_of_ble_eq_true rfl⟩ (sl_167 e2 ⟨rfl, rfl⟩) rfl rfl (Nat.le_of_ble_eq_true rfl) (Nat.le_of_ble_eq_true rfl) ?_
  obtain rfl := Option.some.inj e
  obtain ⟨rfl, rfl⟩ := tg
  exact sh_Lk_ret (i := .return_) rfl rfl rfl (Nat.le_of_ble_eq_true rfl) (Nat.le_of_ble_eq_true rfl)
theorem sl_197_120 {x4 : Int32} {y0 : Int32} {m m2 : sh_X} {o : Outcome} {z : (Option Unit × sh_X)} (e : sf_197_120 x4 y0 m = some z) (tg : (sh_tVt o m2) z) : sh_Lk 197 120 [(0, .ref 42), (4, .int x4)] [.int y0] m o m2 15 366 := by
  unfold sf_197_120 at e
  refine sh_Lk_lift (T := m.T) (I := m.I) (J := m.J) (s := m.s) (pc2 := 171) (lv2 := [(6, .int y0), (0, .ref 42), (4, .int x4)]) (st2 := []) (I2 := m.I) (J2 := m.J) (fun hT v kk => ?_) ?_
  · refine sh_w (i := (.istore 6)) (len := 2) (pc2 := 122) (lv2 := [(6, .int y0), (0, .ref 42), (4, .int x4)]) (st2 := []) (h2 := (sh_rep m.T m.I m.J)) rfl rfl rfl ?_
    refine sh_w (i := (.goto 49)) (len := 3) (pc2 := 171) (lv2 := [(6, .int y0), (0, .ref 42), (4, .int x4)]) (st2 := []) (h2 := (sh_rep m.T m.I m.J)) rfl rfl rfl ?_
    exact kk
  exact sh_Lk_sub (sh_sub_c rfl (sh_sub_c rfl (sh_sub_c rfl (sh_sub_n)))) (sl_197_171 e tg)
theorem sl_197_92 {x3 : Int32} {x4 : Int32} {x5 : Int32} {x7 : Int64} {y0 : Bool} {m m2 : sh_X} {o : Outcome} {z : (Option Unit × sh_X)} (e : sf_197_92 x3 x4 x5 x7 y0 m = some z) (tg : (sh_tVt o m2) z) : sh_Lk 197 92 [(0, .ref 42), (3, .int x3), (4, .int x4), (5, .int x5), (7, .long x7)] [.int (sh_b2 y0)] m o m2 15 366 := by
  unfold sf_197_92 at e
  refine sh_Lk_lift (T := m.T) (I := m.I) (J := m.J) (s := m.s) (pc2 := 96) (lv2 := [(9, .int (sh_b2 y0)), (0, .ref 42), (3, .int x3), (4, .int x4), (5, .int x5), (7, .long x7)]) (st2 := [.int (sh_b2 y0)]) (I2 := m.I) (J2 := m.J) (fun hT v kk => ?_) ?_
  · refine sh_w (i := (.istore 9)) (len := 2) (pc2 := 94) (lv2 := [(9, .int (sh_b2 y0)), (0, .ref 42), (3, .int x3), (4, .int x4), (5, .int x5), (7, .long x7)]) (st2 := []) (h2 := (sh_rep m.T m.I m.J)) rfl rfl rfl ?_
    refine sh_w (i := (.iload 9)) (len := 2) (pc2 := 96) (lv2 := [(9, .int (sh_b2 y0)), (0, .ref 42), (3, .int x3), (4, .int x4), (5, .int x5), (7, .long x7)]) (st2 := [.int (sh_b2 y0)]) (h2 := (sh_rep m.T m.I m.J)) rfl rfl rfl ?_
    exact kk
  rcases sh_ite e with ⟨c, e⟩ | ⟨c, e⟩
  · refine sh_Lk_lift (T := m.T) (I := m.I) (J := m.J) (s := m.s) (pc2 := 120) (lv2 := [(9, .int (sh_b2 y0)), (0, .ref 42), (3, .int x3), (4, .int x4), (5, .int x5), (7, .long x7)]) (st2 := [.int (x3 + ((Int64.toInt32 x7) * x5))]) (I2 := m.I) (J2 := m.J) (fun hT v kk => ?_) ?_
    · refine sh_j0 (c := .eq) (off := (14)) (pc2 := 99) false rfl (sh_Zeqf c) rfl ?_
      refine sh_w (i := (.iload_n 3)) (len := 1) (pc2 := 100) (lv2 := [(9, .int (sh_b2 y0)), (0, .ref 42), (3, .int x3), (4, .int x4), (5, .int x5), (7, .long x7)]) (st2 := [.int x3]) (h2 := (sh_rep m.T m.I m.J)) rfl rfl rfl ?_
      refine sh_w (i := (.lload 7)) (len := 2) (pc2 := 102) (lv2 := [(9, .int (sh_b2 y0)), (0, .ref 42), (3, .int x3), (4, .int x4), (5, .int x5), (7, .long x7)]) (st2 := [.long x7, .int x3]) (h2 := (sh_rep m.T m.I m.J)) rfl rfl rfl ?_
      refine sh_w (i := .l2i) (len := 1) (pc2 := 103) (lv2 := [(9, .int (sh_b2 y0)), (0, .ref 42), (3, .int x3), (4, .int x4), (5, .int x5), (7, .long x7)]) (st2 := [.int (Int64.toInt32 x7), .int x3]) (h2 := (sh_rep m.T m.I m.J)) rfl rfl rfl ?_
      refine sh_w (i := (.iload 5)) (len := 2) (pc2 := 105) (lv2 := [(9, .int (sh_b2 y0)), (0, .ref 42), (3, .int x3), (4, .int x4), (5, .int x5), (7, .long x7)]) (st2 := [.int x5, .int (Int64.toInt32 x7), .int x3]) (h2 := (sh_rep m.T m.I m.J)) rfl rfl rfl ?_
      refine sh_w (i := .imul) (len := 1) (pc2 := 106) (lv2 := [(9, .int (sh_b2 y0)), (0, .ref 42), (3, .int x3), (4, .int x4), (5, .int x5), (7, .long x7)]) (st2 := [.int ((Int64.toInt32 x7) * x5), .int x3]) (h2 := (sh_rep m.T m.I m.J)) rfl rfl rfl ?_
      refine sh_w (i := .iadd) (len := 1) (pc2 := 107) (lv2 := [(9, .int (sh_b2 y0)), (0, .ref 42), (3, .int x3), (4, .int x4), (5, .int x5), (7, .long x7)]) (st2 := [.int (x3 + ((Int64.toInt32 x7) * x5))]) (h2 := (sh_rep m.T m.I m.J)) rfl rfl rfl ?_
      refine sh_w (i := (.goto 13)) (len := 3) (pc2 := 120) (lv2 := [(9, .int (sh_b2 y0)), (0, .ref 42), (3, .int x3), (4, .int x4), (5, .int x5), (7, .long x7)]) (st2 := [.int (x3 + ((Int64.toInt32 x7) * x5))]) (h2 := (sh_rep m.T m.I m.J)) rfl rfl rfl ?_
      exact kk
    exact sh_Lk_sub (sh_sub_c rfl (sh_sub_c rfl (sh_sub_n))) (sl_197_120 e tg)
  · refine sh_Lk_lift (T := m.T) (I := m.I) (J := m.J) (s := m.s) (pc2 := 117) (lv2 := [(9, .int (sh_b2 y0)), (0, .ref 42), (3, .int x3), (4, .int x4), (5, .int x5), (7, .long x7)]) (st2 := [.int x5, .long 0, .ref 45]) (I2 := m.I) (J2 := m.J) (fun hT v kk => ?_) ?_
    · refine sh_j0 (c := .eq) (off := (14)) (pc2 := 110) true rfl (sh_Zeqt c) rfl ?_
      refine sh_w (i := (.aload_n 0)) (len := 1) (pc2 := 111) (lv2 := [(9, .int (sh_b2 y0)), (0, .ref 42), (3, .int x3), (4, .int x4), (5, .int x5), (7, .long x7)]) (st2 := [.ref 42]) (h2 := (sh_rep m.T m.I m.J)) rfl rfl rfl ?_
      refine sh_gR1 (len := 3) (x := .ref 45) (pc2 := 114) rfl rfl (sh_s41 hT.st) rfl rfl ?_
      refine sh_w (i := (.lconst 0)) (len := 1) (pc2 := 115) (lv2 := [(9, .int (sh_b2 y0)), (0, .ref 42), (3, .int x3), (4, .int x4), (5, .int x5), (7, .long x7)]) (st2 := [.long 0, .ref 45]) (h2 := (sh_rep m.T m.I m.J)) rfl rfl rfl ?_
      refine sh_w (i := (.iload 5)) (len := 2) (pc2 := 117) (lv2 := [(9, .int (sh_b2 y0)), (0, .ref 42), (3, .int x3), (4, .int x4), (5, .int x5), (7, .long x7)]) (st2 := [.int x5, .long 0, .ref 45]) (h2 := (sh_rep m.T m.I m.J)) rfl rfl rfl ?_
      exact kk
    obtain ⟨r1, m11, e1, e⟩ := sh_bn_e e
    refine sh_Lk_cV (r := (some (.int r1))) (st2 := [.int r1]) (pc2 := 120) (k2 := 115) (a := 44) (as := [.ref 45, .long 0, .int x5]) (rest := []) rfl rfl rfl (fun hT => (sh_s44 hT.st)) rfl rfl ⟨Nat.le_of_ble_eq_true rfl, Nat.le_of_ble_eq_true rfl⟩ (sl_115 e1 ⟨rfl, rfl⟩) rfl rfl (Nat.le_of_ble_eq_true rfl) (Nat.le_of_ble_eq_true rfl) ?_
    exact sh_Lk_sub (sh_sub_c rfl (sh_sub_c rfl (sh_sub_n))) (sl_197_120 e tg)
theorem sl_197_91 {x3 : Int32} {x4 : Int32} {x5 : Int32} {x7 : Int64} {m m2 : sh_X} {o : Outcome} {z : (Option Unit × sh_X)} (e : sf_197_91 x3 x4 x5 x7 m = some z) (tg : (sh_tVt o m2) z) : sh_Lk 197 91 [(0, .ref 42), (3, .int x3), (4, .int x4), (5, .int x5), (7, .long x7)] [] m o m2 15 366 := by
  unfold sf_197_91 at e
  refine sh_Lk_lift (T := m.T) (I := m.I) (J := m.J) (s := m.s) (pc2 := 92) (lv2 := [(0, .ref 42), (3, .int x3), (4, .int x4), (5, .int x5), (7, .long x7)]) (st2 := [.int 0]) (I2 := m.I) (J2 := m.J) (fun hT v kk => ?_) ?_
  · refine sh_w (i := (.iconst 0)) (len := 1) (pc2 := 92) (lv2 := [(0, .ref 42), (3, .int x3), (4, .int x4), (5, .int x5), (7, .long x7)]) (st2 := [.int 0]) (h2 := (sh_rep m.T m.I m.J)) rfl rfl rfl ?_
    exact kk
  exact sh_Lk_sub (sh_sub_c rfl (sh_sub_c rfl (sh_sub_c rfl (sh_sub_c rfl (sh_sub_c rfl (sh_sub_n)))))) (sl_197_92 e tg)
theorem sl_197 {x1 : Int32} {m m2 : sh_X} {o : Outcome} {z : (Option Unit × sh_X)} (e : sf_197 x1 m = some z) (tg : (sh_tVt o m2) z) : sh_Lk 197 0 [(0, .ref 42), (1, .int x1)] [] m o m2 15 366 := by
  unfold sf_197 at e
  refine sh_Lk_lift (T := m.T) (I := m.I) (J := m.J) (s := m.s) (pc2 := 17) (lv2 := [(2, .int ((m.I 48 4) - 1)), (0, .ref 42), (1, .int x1)]) (st2 := [.int (((m.I 48 4) - 1) - 1), .ref 49]) (I2 := m.I) (J2 := m.J) (fun hT v kk => ?_) ?_
  · refine sh_w (i := (.aload_n 0)) (len := 1) (pc2 := 1) (lv2 := [(0, .ref 42), (1, .int x1)]) (st2 := [.ref 42]) (h2 := (sh_rep m.T m.I m.J)) rfl rfl rfl ?_
    refine sh_gR1 (len := 3) (x := .ref 49) (pc2 := 4) rfl rfl (sh_s41 hT.st) rfl rfl ?_
    refine sh_gI1 (len := 3) (x := m.I 48 4) (pc2 := 7) rfl rfl (sh_s48 hT.st) rfl rfl rfl ?_
    refine sh_w (i := (.iconst 1)) (len := 1) (pc2 := 8) (lv2 := [(0, .ref 42), (1, .int x1)]) (st2 := [.int 1, .int (m.I 48 4)]) (h2 := (sh_rep m.T m.I m.J)) rfl rfl rfl ?_
    refine sh_w (i := .isub) (len := 1) (pc2 := 9) (lv2 := [(0, .ref 42), (1, .int x1)]) (st2 := [.int ((m.I 48 4) - 1)]) (h2 := (sh_rep m.T m.I m.J)) rfl rfl rfl ?_
    refine sh_w (i := (.istore_n 2)) (len := 1) (pc2 := 10) (lv2 := [(2, .int ((m.I 48 4) - 1)), (0, .ref 42), (1, .int x1)]) (st2 := []) (h2 := (sh_rep m.T m.I m.J)) rfl rfl rfl ?_
    refine sh_w (i := (.aload_n 0)) (len := 1) (pc2 := 11) (lv2 := [(2, .int ((m.I 48 4) - 1)), (0, .ref 42), (1, .int x1)]) (st2 := [.ref 42]) (h2 := (sh_rep m.T m.I m.J)) rfl rfl rfl ?_
    refine sh_gR1 (len := 3) (x := .ref 49) (pc2 := 14) rfl rfl (sh_s41 hT.st) rfl rfl ?_
    refine sh_w (i := (.iload_n 2)) (len := 1) (pc2 := 15) (lv2 := [(2, .int ((m.I 48 4) - 1)), (0, .ref 42), (1, .int x1)]) (st2 := [.int ((m.I 48 4) - 1), .ref 49]) (h2 := (sh_rep m.T m.I m.J)) rfl rfl rfl ?_
    refine sh_w (i := (.iconst 1)) (len := 1) (pc2 := 16) (lv2 := [(2, .int ((m.I 48 4) - 1)), (0, .ref 42), (1, .int x1)]) (st2 := [.int 1, .int ((m.I 48 4) - 1), .ref 49]) (h2 := (sh_rep m.T m.I m.J)) rfl rfl rfl ?_
    refine sh_w (i := .isub) (len := 1) (pc2 := 17) (lv2 := [(2, .int ((m.I 48 4) - 1)), (0, .ref 42), (1, .int x1)]) (st2 := [.int (((m.I 48 4) - 1) - 1), .ref 49]) (h2 := (sh_rep m.T m.I m.J)) rfl rfl rfl ?_
    exact kk
  obtain ⟨r1, e1, e⟩ := sh_bc_e e
  refine sh_Lk_cV (r := (some (.int r1))) (st2 := [.int r1]) (pc2 := 20) (k2 := 117) (a := 48) (as := [.ref 49, .int (((m.I 48 4) - 1) - 1)]) (rest := []) rfl rfl rfl (fun hT => (sh_s48 hT.st)) rfl rfl ⟨Nat.le_of_ble_eq_true rfl, Nat.le_of_ble_eq_true rfl⟩ (sl_117 e1 ⟨rfl, rfl⟩) rfl rfl (Nat.le_of_ble_eq_true rfl) (Nat.le_of_ble_eq_true rfl) ?_
  refine sh_Lk_lift (T := m.T) (I := m.I) (J := m.J) (s := m.s) (pc2 := 28) (lv2 := [(3, .int r1), (2, .int ((m.I 48 4) - 1)), (0, .ref 42), (1, .int x1)]) (st2 := [.int (((m.I 48 4) - 1) - 1), .ref 49]) (I2 := m.I) (J2 := m.J) (fun hT v kk => ?_) ?_
  · refine sh_w (i := (.istore_n 3)) (len := 1) (pc2 := 21) (lv2 := [(3, .int r1), (2, .int ((m.I 48 4) - 1)), (0, .ref 42), (1, .int x1)]) (st2 := []) (h2 := (sh_rep m.T m.I m.J)) rfl rfl rfl ?_
    refine sh_w (i := (.aload_n 0)) (len := 1) (pc2 := 22) (lv2 := [(3, .int r1), (2, .int ((m.I 48 4) - 1)), (0, .ref 42), (1, .int x1)]) (st2 := [.ref 42]) (h2 := (sh_rep m.T m.I m.J)) rfl rfl rfl ?_
    refine sh_gR1 (len := 3) (x := .ref 49) (pc2 := 25) rfl rfl (sh_s41 hT.st) rfl rfl ?_
    refine sh_w (i := (.iload_n 2)) (len := 1) (pc2 := 26) (lv2 := [(3, .int r1), (2, .int ((m.I 48 4) - 1)), (0, .ref 42), (1, .int x1)]) (st2 := [.int ((m.I 48 4) - 1), .ref 49]) (h2 := (sh_rep m.T m.I m.J)) rfl rfl rfl ?_
    refine sh_w (i := (.iconst 1)) (len := 1) (pc2 := 27) (lv2 := [(3, .int r1), (2, .int ((m.I 48 4) - 1)), (0, .ref 42), (1, .int x1)]) (st2 := [.int 1, .int ((m.I 48 4) - 1), .ref 49]) (h2 := (sh_rep m.T m.I m.J)) rfl rfl rfl ?_
    refine sh_w (i := .isub) (len := 1) (pc2 := 28) (lv2 := [(3, .int r1), (2, .int ((m.I 48 4) - 1)), (0, .ref 42), (1, .int x1)]) (st2 := [.int (((m.I 48 4) - 1) - 1), .ref 49]) (h2 := (sh_rep m.T m.I m.J)) rfl rfl rfl ?_
    exact kk
  obtain ⟨r2, e2, e⟩ := sh_bc_e e
  refine sh_Lk_cV (r := (some (.int r2))) (st2 := [.int r2]) (pc2 := 31) (k2 := 108) (a := 48) (as := [.ref 49, .int (((m.I 48 4) - 1) - 1)]) (rest := []) rfl rfl rfl (fun hT => (sh_s48 hT.st)) rfl rfl ⟨Nat.le_of_ble_eq_true rfl, Nat.le_of_ble_eq_true rfl⟩ (sl_108 e2 ⟨rfl, rfl⟩) rfl rfl (Nat.le_of_ble_eq_true rfl) (Nat.le_of_ble_eq_true rfl) ?_
  refine sh_Lk_lift (T := m.T) (I := m.I) (J := m.J) (s := m.s) (pc2 := 35) (lv2 := [(4, .int r2), (3, .int r1), (2, .int ((m.I 48 4) - 1)), (0, .ref 42), (1, .int x1)]) (st2 := [.int r2]) (I2 := m.I) (J2 := m.J) (fun hT v kk => ?_) ?_
  · refine sh_w (i := (.istore 4)) (len := 2) (pc2 := 33) (lv2 := [(4, .int r2), (3, .int r1), (2, .int ((m.I 48 4) - 1)), (0, .ref 42), (1, .int x1)]) (st2 := []) (h2 := (sh_rep m.T m.I m.J)) rfl rfl rfl ?_
    refine sh_w (i := (.iload 4)) (len := 2) (pc2 := 35) (lv2 := [(4, .int r2), (3, .int r1), (2, .int ((m.I 48 4) - 1)), (0, .ref 42), (1, .int x1)]) (st2 := [.int r2]) (h2 := (sh_rep m.T m.I m.J)) rfl rfl rfl ?_
    exact kk
  refine sh_Lk_cS (r := (some (.int (sf_94 r2)))) (st2 := [.int (sf_94 r2)]) (pc2 := 38) (k2 := 94) (as := [.int r2]) (rest := []) rfl rfl (by decide) (Nat.le_of_ble_eq_true rfl) rfl rfl ⟨Nat.le_of_ble_eq_true rfl, Nat.le_of_ble_eq_true rfl⟩ (sl_94 (m := m) rfl ⟨rfl, rfl⟩) rfl rfl (Nat.le_of_ble_eq_true rfl) (Nat.le_of_ble_eq_true rfl) ?_
  refine sh_Lk_lift (T := m.T) (I := m.I) (J := m.J) (s := m.s) (pc2 := 45) (lv2 := [(5, .int (sf_94 r2)), (4, .int r2), (3, .int r1), (2, .int ((m.I 48 4) - 1)), (0, .ref 42), (1, .int x1)]) (st2 := [.int ((m.I 48 4) - 1), .ref 49]) (I2 := m.I) (J2 := m.J) (fun hT v kk => ?_) ?_
  · refine sh_w (i := (.istore 5)) (len := 2) (pc2 := 40) (lv2 := [(5, .int (sf_94 r2)), (4, .int r2), (3, .int r1), (2, .int ((m.I 48 4) - 1)), (0, .ref 42), (1, .int x1)]) (st2 := []) (h2 := (sh_rep m.T m.I m.J)) rfl rfl rfl ?_
    refine sh_w (i := (.aload_n 0)) (len := 1) (pc2 := 41) (lv2 := [(5, .int (sf_94 r2)), (4, .int r2), (3, .int r1), (2, .int ((m.I 48 4) - 1)), (0, .ref 42), (1, .int x1)]) (st2 := [.ref 42]) (h2 := (sh_rep m.T m.I m.J)) rfl rfl rfl ?_
    refine sh_gR1 (len := 3) (x := .ref 49) (pc2 := 44) rfl rfl (sh_s41 hT.st) rfl rfl ?_
    refine sh_w (i := (.iload_n 2)) (len := 1) (pc2 := 45) (lv2 := [(5, .int (sf_94 r2)), (4, .int r2), (3, .int r1), (2, .int ((m.I 48 4) - 1)), (0, .ref 42), (1, .int x1)]) (st2 := [.int ((m.I 48 4) - 1), .ref 49]) (h2 := (sh_rep m.T m.I m.J)) rfl rfl rfl ?_
    exact kk
  obtain ⟨r4, e4, e⟩ := sh_bc_e e
  refine sh_Lk_cV (r := (some (.int r4))) (st2 := [.int r4]) (pc2 := 48) (k2 := 108) (a := 48) (as := [.ref 49, .int ((m.I 48 4) - 1)]) (rest := []) rfl rfl rfl (fun hT => (sh_s48 hT.st)) rfl rfl ⟨Nat.le_of_ble_eq_true rfl, Nat.le_of_ble_eq_true rfl⟩ (sl_108 e4 ⟨rfl, rfl⟩) rfl rfl (Nat.le_of_ble_eq_true rfl) (Nat.le_of_ble_eq_true rfl) ?_
  rcases sh_ite e with ⟨c, e⟩ | ⟨c, e⟩
  · refine sh_Lk_lift (T := m.T) (I := m.I) (J := m.J) (s := m.s) (pc2 := 56) (lv2 := [(5, .int (sf_94 r2)), (4, .int r2), (3, .int r1), (2, .int ((m.I 48 4) - 1)), (0, .ref 42), (1, .int x1)]) (st2 := [.int ((m.I 48 4) - 1), .ref 49]) (I2 := m.I) (J2 := m.J) (fun hT v kk => ?_) ?_
    · refine sh_j0 (c := .ne) (off := (77)) (pc2 := 51) false rfl (sh_Bnef c) rfl ?_
      refine sh_w (i := (.aload_n 0)) (len := 1) (pc2 := 52) (lv2 := [(5, .int (sf_94 r2)), (4, .int r2), (3, .int r1), (2, .int ((m.I 48 4) - 1)), (0, .ref 42), (1, .int x1)]) (st2 := [.ref 42]) (h2 := (sh_rep m.T m.I m.J)) rfl rfl rfl ?_
      refine sh_gR1 (len := 3) (x := .ref 49) (pc2 := 55) rfl rfl (sh_s41 hT.st) rfl rfl ?_
      refine sh_w (i := (.iload_n 2)) (len := 1) (pc2 := 56) (lv2 := [(5, .int (sf_94 r2)), (4, .int r2), (3, .int r1), (2, .int ((m.I 48 4) - 1)), (0, .ref 42), (1, .int x1)]) (st2 := [.int ((m.I 48 4) - 1), .ref 49]) (h2 := (sh_rep m.T m.I m.J)) rfl rfl rfl ?_
      exact kk
    obtain ⟨r5, e5, e⟩ := sh_bc_e e
    refine sh_Lk_cV (r := (some (.long r5))) (st2 := [.long r5]) (pc2 := 59) (k2 := 111) (a := 48) (as := [.ref 49, .int ((m.I 48 4) - 1)]) (rest := []) rfl rfl rfl (fun hT => (sh_s48 hT.st)) rfl rfl ⟨Nat.le_of_ble_eq_true rfl, Nat.le_of_ble_eq_true rfl⟩ (sl_111 e5 ⟨rfl, rfl⟩) rfl rfl (Nat.le_of_ble_eq_true rfl) (Nat.le_of_ble_eq_true rfl) ?_
    refine sh_Lk_lift (T := m.T) (I := m.I) (J := m.J) (s := m.s) (pc2 := 65) (lv2 := [(7, .long r5), (5, .int (sf_94 r2)), (4, .int r2), (3, .int r1), (2, .int ((m.I 48 4) - 1)), (0, .ref 42), (1, .int x1)]) (st2 := [.int x1, .int (sf_94 r2), .ref 42]) (I2 := m.I) (J2 := m.J) (fun hT v kk => ?_) ?_
    · refine sh_w (i := (.lstore 7)) (len := 2) (pc2 := 61) (lv2 := [(7, .long r5), (5, .int (sf_94 r2)), (4, .int r2), (3, .int r1), (2, .int ((m.I 48 4) - 1)), (0, .ref 42), (1, .int x1)]) (st2 := []) (h2 := (sh_rep m.T m.I m.J)) rfl rfl rfl ?_
      refine sh_w (i := (.aload_n 0)) (len := 1) (pc2 := 62) (lv2 := [(7, .long r5), (5, .int (sf_94 r2)), (4, .int r2), (3, .int r1), (2, .int ((m.I 48 4) - 1)), (0, .ref 42), (1, .int x1)]) (st2 := [.ref 42]) (h2 := (sh_rep m.T m.I m.J)) rfl rfl rfl ?_
      refine sh_w (i := (.iload 5)) (len := 2) (pc2 := 64) (lv2 := [(7, .long r5), (5, .int (sf_94 r2)), (4, .int r2), (3, .int r1), (2, .int ((m.I 48 4) - 1)), (0, .ref 42), (1, .int x1)]) (st2 := [.int (sf_94 r2), .ref 42]) (h2 := (sh_rep m.T m.I m.J)) rfl rfl rfl ?_
      refine sh_w (i := (.iload_n 1)) (len := 1) (pc2 := 65) (lv2 := [(7, .long r5), (5, .int (sf_94 r2)), (4, .int r2), (3, .int r1), (2, .int ((m.I 48 4) - 1)), (0, .ref 42), (1, .int x1)]) (st2 := [.int x1, .int (sf_94 r2), .ref 42]) (h2 := (sh_rep m.T m.I m.J)) rfl rfl rfl ?_
      exact kk
    rcases sh_bt_e e with ⟨m16, e6, rfl⟩ | ⟨r6, m16, e6, e⟩
    · obtain ⟨rfl, rfl⟩ := tg
      exact sh_Lk_tV (k2 := 90) (a := 41) (as := [.ref 42, .int (sf_94 r2), .int x1]) (rest := []) rfl rfl rfl (fun hT => (sh_s41 hT.st)) rfl rfl ⟨Nat.le_of_ble_eq_true rfl, Nat.le_of_ble_eq_true rfl⟩ (sl_90 e6 ⟨rfl, rfl⟩) rfl (Nat.le_of_ble_eq_true rfl) (Nat.le_of_ble_eq_true rfl) (Nat.le_of_ble_eq_true rfl) (Nat.le_of_ble_eq_true rfl) rfl
    refine sh_Lk_cV (r := none) (st2 := []) (pc2 := 68) (k2 := 90) (a := 41) (as := [.ref 42, .int (sf_94 r2), .int x1]) (rest := []) rfl rfl rfl (fun hT => (sh_s41 hT.st)) rfl rfl ⟨Nat.le_of_ble_eq_true rfl, Nat.le_of_ble_eq_true rfl⟩ (sl_90 e6 ⟨rfl, rfl⟩) rfl rfl (Nat.le_of_ble_eq_true rfl) (Nat.le_of_ble_eq_true rfl) ?_
    refine sh_Lk_lift (T := m16.T) (I := m16.I) (J := m16.J) (s := m16.s) (pc2 := 72) (lv2 := [(7, .long r5), (5, .int (sf_94 r2)), (4, .int r2), (3, .int r1), (2, .int ((m.I 48 4) - 1)), (0, .ref 42), (1, .int x1)]) (st2 := [.int (lg_cmp r5 0)]) (I2 := m16.I) (J2 := m16.J) (fun hT v kk => ?_) ?_
    · refine sh_w (i := (.lload 7)) (len := 2) (pc2 := 70) (lv2 := [(7, .long r5), (5, .int (sf_94 r2)), (4, .int r2), (3, .int r1), (2, .int ((m.I 48 4) - 1)), (0, .ref 42), (1, .int x1)]) (st2 := [.long r5]) (h2 := (sh_rep m16.T m16.I m16.J)) rfl rfl rfl ?_
      refine sh_w (i := (.lconst 0)) (len := 1) (pc2 := 71) (lv2 := [(7, .long r5), (5, .int (sf_94 r2)), (4, .int r2), (3, .int r1), (2, .int ((m.I 48 4) - 1)), (0, .ref 42), (1, .int x1)]) (st2 := [.long 0, .long r5]) (h2 := (sh_rep m16.T m16.I m16.J)) rfl rfl rfl ?_
      refine sh_w (i := .lcmp) (len := 1) (pc2 := 72) (lv2 := [(7, .long r5), (5, .int (sf_94 r2)), (4, .int r2), (3, .int r1), (2, .int ((m.I 48 4) - 1)), (0, .ref 42), (1, .int x1)]) (st2 := [.int (lg_cmp r5 0)]) (h2 := (sh_rep m16.T m16.I m16.J)) rfl rfl rfl ?_
      exact kk
    rcases sh_ite e with ⟨c, e⟩ | ⟨c, e⟩
    · refine sh_Lk_lift (T := m16.T) (I := m16.I) (J := m16.J) (s := m16.s) (pc2 := 91) (lv2 := [(7, .long r5), (5, .int (sf_94 r2)), (4, .int r2), (3, .int r1), (2, .int ((m.I 48 4) - 1)), (0, .ref 42), (1, .int x1)]) (st2 := []) (I2 := m16.I) (J2 := m16.J) (fun hT v kk => ?_) ?_
      · refine sh_j0 (c := .lt) (off := (19)) (pc2 := 91) true rfl (sh_Cltt c) rfl ?_
        exact kk
      exact sh_Lk_sub (sh_sub_c rfl (sh_sub_c rfl (sh_sub_c rfl (sh_sub_c rfl (sh_sub_c rfl (sh_sub_n)))))) (sl_197_91 e tg)
    · refine sh_Lk_lift (T := m16.T) (I := m16.I) (J := m16.J) (s := m16.s) (pc2 := 79) (lv2 := [(7, .long r5), (5, .int (sf_94 r2)), (4, .int r2), (3, .int r1), (2, .int ((m.I 48 4) - 1)), (0, .ref 42), (1, .int x1)]) (st2 := [.int r2, .long r5]) (I2 := m16.I) (J2 := m16.J) (fun hT v kk => ?_) ?_
      · refine sh_j0 (c := .lt) (off := (19)) (pc2 := 75) false rfl (sh_Cltf c) rfl ?_
        refine sh_w (i := (.lload 7)) (len := 2) (pc2 := 77) (lv2 := [(7, .long r5), (5, .int (sf_94 r2)), (4, .int r2), (3, .int r1), (2, .int ((m.I 48 4) - 1)), (0, .ref 42), (1, .int x1)]) (st2 := [.long r5]) (h2 := (sh_rep m16.T m16.I m16.J)) rfl rfl rfl ?_
        refine sh_w (i := (.iload 4)) (len := 2) (pc2 := 79) (lv2 := [(7, .long r5), (5, .int (sf_94 r2)), (4, .int r2), (3, .int r1), (2, .int ((m.I 48 4) - 1)), (0, .ref 42), (1, .int x1)]) (st2 := [.int r2, .long r5]) (h2 := (sh_rep m16.T m16.I m16.J)) rfl rfl rfl ?_
        exact kk
      refine sh_Lk_cS (r := (some (.int (sf_93 r2)))) (st2 := [.int (sf_93 r2), .long r5]) (pc2 := 82) (k2 := 93) (as := [.int r2]) (rest := [.long r5]) rfl rfl (by decide) (Nat.le_of_ble_eq_true rfl) rfl rfl ⟨Nat.le_of_ble_eq_true rfl, Nat.le_of_ble_eq_true rfl⟩ (sl_93 (m := m16) rfl ⟨rfl, rfl⟩) rfl rfl (Nat.le_of_ble_eq_true rfl) (Nat.le_of_ble_eq_true rfl) ?_
      refine sh_Lk_lift (T := m16.T) (I := m16.I) (J := m16.J) (s := m16.s) (pc2 := 84) (lv2 := [(7, .long r5), (5, .int (sf_94 r2)), (4, .int r2), (3, .int r1), (2, .int ((m.I 48 4) - 1)), (0, .ref 42), (1, .int x1)]) (st2 := [.int (lg_cmp r5 (Int32.toInt64 (sf_93 r2)))]) (I2 := m16.I) (J2 := m16.J) (fun hT v kk => ?_) ?_
      · refine sh_w (i := .i2l) (len := 1) (pc2 := 83) (lv2 := [(7, .long r5), (5, .int (sf_94 r2)), (4, .int r2), (3, .int r1), (2, .int ((m.I 48 4) - 1)), (0, .ref 42), (1, .int x1)]) (st2 := [.long (Int32.toInt64 (sf_93 r2)), .long r5]) (h2 := (sh_rep m16.T m16.I m16.J)) rfl rfl rfl ?_
        refine sh_w (i := .lcmp) (len := 1) (pc2 := 84) (lv2 := [(7, .long r5), (5, .int (sf_94 r2)), (4, .int r2), (3, .int r1), (2, .int ((m.I 48 4) - 1)), (0, .ref 42), (1, .int x1)]) (st2 := [.int (lg_cmp r5 (Int32.toInt64 (sf_93 r2)))]) (h2 := (sh_rep m16.T m16.I m16.J)) rfl rfl rfl ?_
        exact kk
      rcases sh_ite e with ⟨c, e⟩ | ⟨c, e⟩
      · refine sh_Lk_lift (T := m16.T) (I := m16.I) (J := m16.J) (s := m16.s) (pc2 := 92) (lv2 := [(7, .long r5), (5, .int (sf_94 r2)), (4, .int r2), (3, .int r1), (2, .int ((m.I 48 4) - 1)), (0, .ref 42), (1, .int x1)]) (st2 := [.int 1]) (I2 := m16.I) (J2 := m16.J) (fun hT v kk => ?_) ?_
        · refine sh_j0 (c := .ge) (off := (7)) (pc2 := 87) false rfl (sh_Cgef c) rfl ?_
          refine sh_w (i := (.iconst 1)) (len := 1) (pc2 := 88) (lv2 := [(7, .long r5), (5, .int (sf_94 r2)), (4, .int r2), (3, .int r1), (2, .int ((m.I 48 4) - 1)), (0, .ref 42), (1, .int x1)]) (st2 := [.int 1]) (h2 := (sh_rep m16.T m16.I m16.J)) rfl rfl rfl ?_
          refine sh_w (i := (.goto 4)) (len := 3) (pc2 := 92) (lv2 := [(7, .long r5), (5, .int (sf_94 r2)), (4, .int r2), (3, .int r1), (2, .int ((m.I 48 4) - 1)), (0, .ref 42), (1, .int x1)]) (st2 := [.int 1]) (h2 := (sh_rep m16.T m16.I m16.J)) rfl rfl rfl ?_
          exact kk
        exact sh_Lk_sub (sh_sub_c rfl (sh_sub_c rfl (sh_sub_c rfl (sh_sub_c rfl (sh_sub_c rfl (sh_sub_n)))))) (sl_197_92 e tg)
      · refine sh_Lk_lift (T := m16.T) (I := m16.I) (J := m16.J) (s := m16.s) (pc2 := 91) (lv2 := [(7, .long r5), (5, .int (sf_94 r2)), (4, .int r2), (3, .int r1), (2, .int ((m.I 48 4) - 1)), (0, .ref 42), (1, .int x1)]) (st2 := []) (I2 := m16.I) (J2 := m16.J) (fun hT v kk => ?_) ?_
        · refine sh_j0 (c := .ge) (off := (7)) (pc2 := 91) true rfl (sh_Cget c) rfl ?_
          exact kk
        exact sh_Lk_sub (sh_sub_c rfl (sh_sub_c rfl (sh_sub_c rfl (sh_sub_c rfl (sh_sub_c rfl (sh_sub_n)))))) (sl_197_91 e tg)
  · refine sh_Lk_lift (T := m.T) (I := m.I) (J := m.J) (s := m.s) (pc2 := 133) (lv2 := [(5, .int (sf_94 r2)), (4, .int r2), (3, .int r1), (2, .int ((m.I 48 4) - 1)), (0, .ref 42), (1, .int x1)]) (st2 := [.int ((m.I 48 4) - 1), .ref 49, .int r2, .ref 42]) (I2 := m.I) (J2 := m.J) (fun hT v kk => ?_) ?_
    · refine sh_j0 (c := .ne) (off := (77)) (pc2 := 125) true rfl (sh_Bnet c) rfl ?_
      refine sh_w (i := (.aload_n 0)) (len := 1) (pc2 := 126) (lv2 := [(5, .int (sf_94 r2)), (4, .int r2), (3, .int r1), (2, .int ((m.I 48 4) - 1)), (0, .ref 42), (1, .int x1)]) (st2 := [.ref 42]) (h2 := (sh_rep m.T m.I m.J)) rfl rfl rfl ?_
      refine sh_w (i := (.iload 4)) (len := 2) (pc2 := 128) (lv2 := [(5, .int (sf_94 r2)), (4, .int r2), (3, .int r1), (2, .int ((m.I 48 4) - 1)), (0, .ref 42), (1, .int x1)]) (st2 := [.int r2, .ref 42]) (h2 := (sh_rep m.T m.I m.J)) rfl rfl rfl ?_
      refine sh_w (i := (.aload_n 0)) (len := 1) (pc2 := 129) (lv2 := [(5, .int (sf_94 r2)), (4, .int r2), (3, .int r1), (2, .int ((m.I 48 4) - 1)), (0, .ref 42), (1, .int x1)]) (st2 := [.ref 42, .int r2, .ref 42]) (h2 := (sh_rep m.T m.I m.J)) rfl rfl rfl ?_
      refine sh_gR1 (len := 3) (x := .ref 49) (pc2 := 132) rfl rfl (sh_s41 hT.st) rfl rfl ?_
      refine sh_w (i := (.iload_n 2)) (len := 1) (pc2 := 133) (lv2 := [(5, .int (sf_94 r2)), (4, .int r2), (3, .int r1), (2, .int ((m.I 48 4) - 1)), (0, .ref 42), (1, .int x1)]) (st2 := [.int ((m.I 48 4) - 1), .ref 49, .int r2, .ref 42]) (h2 := (sh_rep m.T m.I m.J)) rfl rfl rfl ?_
      exact kk
    obtain ⟨r8, e8, e⟩ := sh_bc_e e
    refine sh_Lk_cV (r := (some (.int r8))) (st2 := [.int r8, .int r2, .ref 42]) (pc2 := 136) (k2 := 108) (a := 48) (as := [.ref 49, .int ((m.I 48 4) - 1)]) (rest := [.int r2, .ref 42]) rfl rfl rfl (fun hT => (sh_s48 hT.st)) rfl rfl ⟨Nat.le_of_ble_eq_true rfl, Nat.le_of_ble_eq_true rfl⟩ (sl_108 e8 ⟨rfl, rfl⟩) rfl rfl (Nat.le_of_ble_eq_true rfl) (Nat.le_of_ble_eq_true rfl) ?_
    refine sh_Lk_cS (r := (some (.int (sf_138 r2 r8)))) (st2 := [.int (sf_138 r2 r8), .ref 42]) (pc2 := 139) (k2 := 138) (as := [.int r2, .int r8]) (rest := [.ref 42]) rfl rfl (by decide) (Nat.le_of_ble_eq_true rfl) rfl rfl ⟨Nat.le_of_ble_eq_true rfl, Nat.le_of_ble_eq_true rfl⟩ (sl_138 (m := m) rfl ⟨rfl, rfl⟩) rfl rfl (Nat.le_of_ble_eq_true rfl) (Nat.le_of_ble_eq_true rfl) ?_
    refine sh_Lk_lift (T := m.T) (I := m.I) (J := m.J) (s := m.s) (pc2 := 140) (lv2 := [(5, .int (sf_94 r2)), (4, .int r2), (3, .int r1), (2, .int ((m.I 48 4) - 1)), (0, .ref 42), (1, .int x1)]) (st2 := [.int x1, .int (sf_138 r2 r8), .ref 42]) (I2 := m.I) (J2 := m.J) (fun hT v kk => ?_) ?_
    · refine sh_w (i := (.iload_n 1)) (len := 1) (pc2 := 140) (lv2 := [(5, .int (sf_94 r2)), (4, .int r2), (3, .int r1), (2, .int ((m.I 48 4) - 1)), (0, .ref 42), (1, .int x1)]) (st2 := [.int x1, .int (sf_138 r2 r8), .ref 42]) (h2 := (sh_rep m.T m.I m.J)) rfl rfl rfl ?_
      exact kk
    rcases sh_bt_e e with ⟨m20, e10, rfl⟩ | ⟨r10, m20, e10, e⟩
    · obtain ⟨rfl, rfl⟩ := tg
      exact sh_Lk_tV (k2 := 90) (a := 41) (as := [.ref 42, .int (sf_138 r2 r8), .int x1]) (rest := []) rfl rfl rfl (fun hT => (sh_s41 hT.st)) rfl rfl ⟨Nat.le_of_ble_eq_true rfl, Nat.le_of_ble_eq_true rfl⟩ (sl_90 e10 ⟨rfl, rfl⟩) rfl (Nat.le_of_ble_eq_true rfl) (Nat.le_of_ble_eq_true rfl) (Nat.le_of_ble_eq_true rfl) (Nat.le_of_ble_eq_true rfl) rfl
    refine sh_Lk_cV (r := none) (st2 := []) (pc2 := 143) (k2 := 90) (a := 41) (as := [.ref 42, .int (sf_138 r2 r8), .int x1]) (rest := []) rfl rfl rfl (fun hT => (sh_s41 hT.st)) rfl rfl ⟨Nat.le_of_ble_eq_true rfl, Nat.le_of_ble_eq_true rfl⟩ (sl_90 e10 ⟨rfl, rfl⟩) rfl rfl (Nat.le_of_ble_eq_true rfl) (Nat.le_of_ble_eq_true rfl) ?_
    refine sh_Lk_lift (T := m20.T) (I := m20.I) (J := m20.J) (s := m20.s) (pc2 := 155) (lv2 := [(5, .int (sf_94 r2)), (4, .int r2), (3, .int r1), (2, .int ((m.I 48 4) - 1)), (0, .ref 42), (1, .int x1)]) (st2 := [.int ((m.I 48 4) - 1), .ref 49, .int r2, .int r1, .ref 45]) (I2 := m20.I) (J2 := m20.J) (fun hT v kk => ?_) ?_
    · refine sh_w (i := (.aload_n 0)) (len := 1) (pc2 := 144) (lv2 := [(5, .int (sf_94 r2)), (4, .int r2), (3, .int r1), (2, .int ((m.I 48 4) - 1)), (0, .ref 42), (1, .int x1)]) (st2 := [.ref 42]) (h2 := (sh_rep m20.T m20.I m20.J)) rfl rfl rfl ?_
      refine sh_gR1 (len := 3) (x := .ref 45) (pc2 := 147) rfl rfl (sh_s41 hT.st) rfl rfl ?_
      refine sh_w (i := (.iload_n 3)) (len := 1) (pc2 := 148) (lv2 := [(5, .int (sf_94 r2)), (4, .int r2), (3, .int r1), (2, .int ((m.I 48 4) - 1)), (0, .ref 42), (1, .int x1)]) (st2 := [.int r1, .ref 45]) (h2 := (sh_rep m20.T m20.I m20.J)) rfl rfl rfl ?_
      refine sh_w (i := (.iload 4)) (len := 2) (pc2 := 150) (lv2 := [(5, .int (sf_94 r2)), (4, .int r2), (3, .int r1), (2, .int ((m.I 48 4) - 1)), (0, .ref 42), (1, .int x1)]) (st2 := [.int r2, .int r1, .ref 45]) (h2 := (sh_rep m20.T m20.I m20.J)) rfl rfl rfl ?_
      refine sh_w (i := (.aload_n 0)) (len := 1) (pc2 := 151) (lv2 := [(5, .int (sf_94 r2)), (4, .int r2), (3, .int r1), (2, .int ((m.I 48 4) - 1)), (0, .ref 42), (1, .int x1)]) (st2 := [.ref 42, .int r2, .int r1, .ref 45]) (h2 := (sh_rep m20.T m20.I m20.J)) rfl rfl rfl ?_
      refine sh_gR1 (len := 3) (x := .ref 49) (pc2 := 154) rfl rfl (sh_s41 hT.st) rfl rfl ?_
      refine sh_w (i := (.iload_n 2)) (len := 1) (pc2 := 155) (lv2 := [(5, .int (sf_94 r2)), (4, .int r2), (3, .int r1), (2, .int ((m.I 48 4) - 1)), (0, .ref 42), (1, .int x1)]) (st2 := [.int ((m.I 48 4) - 1), .ref 49, .int r2, .int r1, .ref 45]) (h2 := (sh_rep m20.T m20.I m20.J)) rfl rfl rfl ?_
      exact kk
    obtain ⟨r11, e11, e⟩ := sh_bc_e e
    refine sh_Lk_cV (r := (some (.int r11))) (st2 := [.int r11, .int r2, .int r1, .ref 45]) (pc2 := 158) (k2 := 117) (a := 48) (as := [.ref 49, .int ((m.I 48 4) - 1)]) (rest := [.int r2, .int r1, .ref 45]) rfl rfl rfl (fun hT => (sh_s48 hT.st)) rfl rfl ⟨Nat.le_of_ble_eq_true rfl, Nat.le_of_ble_eq_true rfl⟩ (sl_117 e11 ⟨rfl, rfl⟩) rfl rfl (Nat.le_of_ble_eq_true rfl) (Nat.le_of_ble_eq_true rfl) ?_
    refine sh_Lk_lift (T := m20.T) (I := m20.I) (J := m20.J) (s := m20.s) (pc2 := 163) (lv2 := [(5, .int (sf_94 r2)), (4, .int r2), (3, .int r1), (2, .int ((m.I 48 4) - 1)), (0, .ref 42), (1, .int x1)]) (st2 := [.int ((m.I 48 4) - 1), .ref 49, .int r11, .int r2, .int r1, .ref 45]) (I2 := m20.I) (J2 := m20.J) (fun hT v kk => ?_) ?_
    · refine sh_w (i := (.aload_n 0)) (len := 1) (pc2 := 159) (lv2 := [(5, .int (sf_94 r2)), (4, .int r2), (3, .int r1), (2, .int ((m.I 48 4) - 1)), (0, .ref 42), (1, .int x1)]) (st2 := [.ref 42, .int r11, .int r2, .int r1, .ref 45]) (h2 := (sh_rep m20.T m20.I m20.J)) rfl rfl rfl ?_
      refine sh_gR1 (len := 3) (x := .ref 49) (pc2 := 162) rfl rfl (sh_s41 hT.st) rfl rfl ?_
      refine sh_w (i := (.iload_n 2)) (len := 1) (pc2 := 163) (lv2 := [(5, .int (sf_94 r2)), (4, .int r2), (3, .int r1), (2, .int ((m.I 48 4) - 1)), (0, .ref 42), (1, .int x1)]) (st2 := [.int ((m.I 48 4) - 1), .ref 49, .int r11, .int r2, .int r1, .ref 45]) (h2 := (sh_rep m20.T m20.I m20.J)) rfl rfl rfl ?_
      exact kk
    obtain ⟨r12, e12, e⟩ := sh_bc_e e
    refine sh_Lk_cV (r := (some (.int r12))) (st2 := [.int r12, .int r11, .int r2, .int r1, .ref 45]) (pc2 := 166) (k2 := 108) (a := 48) (as := [.ref 49, .int ((m.I 48 4) - 1)]) (rest := [.int r11, .int r2, .int r1, .ref 45]) rfl rfl rfl (fun hT => (sh_s48 hT.st)) rfl rfl ⟨Nat.le_of_ble_eq_true rfl, Nat.le_of_ble_eq_true rfl⟩ (sl_108 e12 ⟨rfl, rfl⟩) rfl rfl (Nat.le_of_ble_eq_true rfl) (Nat.le_of_ble_eq_true rfl) ?_
    obtain ⟨r13, m23, e13, e⟩ := sh_bn_e e
    refine sh_Lk_cV (r := (some (.int r13))) (st2 := [.int r13]) (pc2 := 169) (k2 := 198) (a := 44) (as := [.ref 45, .int r1, .int r2, .int r11, .int r12]) (rest := []) rfl rfl rfl (fun hT => (sh_s44 hT.st)) rfl rfl ⟨Nat.le_of_ble_eq_true rfl, Nat.le_of_ble_eq_true rfl⟩ (sl_198 e13 ⟨rfl, rfl⟩) rfl rfl (Nat.le_of_ble_eq_true rfl) (Nat.le_of_ble_eq_true rfl) ?_
    refine sh_Lk_lift (T := m23.T) (I := m23.I) (J := m23.J) (s := m23.s) (pc2 := 171) (lv2 := [(6, .int r13), (5, .int (sf_94 r2)), (4, .int r2), (3, .int r1), (2, .int ((m.I 48 4) - 1)), (0, .ref 42), (1, .int x1)]) (st2 := []) (I2 := m23.I) (J2 := m23.J) (fun hT v kk => ?_) ?_
    · refine sh_w (i := (.istore 6)) (len := 2) (pc2 := 171) (lv2 := [(6, .int r13), (5, .int (sf_94 r2)), (4, .int r2), (3, .int r1), (2, .int ((m.I 48 4) - 1)), (0, .ref 42), (1, .int x1)]) (st2 := []) (h2 := (sh_rep m23.T m23.I m23.J)) rfl rfl rfl ?_
      exact kk
    exact sh_Lk_sub (sh_sub_c rfl (sh_sub_c rfl (sh_sub_c rfl (sh_sub_n)))) (sl_197_171 e tg)
theorem sl_78_490 {x1 : Int32} {m m2 : sh_X} {o : Outcome} {z : ((Int32 × sh_X) ⊕ (Option Unit × sh_X))} (e : sf_78_490 x1 m = some z) (tg : (sh_el (fun q => sh_Lk 78 10 [(0, .ref 42), (1, .int q.1)] [] q.2 o m2 16 439) (sh_tVt o m2)) z) : sh_Lk 78 490 [(0, .ref 42), (1, .int x1)] [] m o m2 16 439 := by
  unfold sf_78_490 at e
  refine sh_Lk_lift (T := m.T) (I := m.I) (J := m.J) (s := m.s) (pc2 := 10) (lv2 := [(1, .int (x1 + 1)), (0, .ref 42)]) (st2 := []) (I2 := m.I) (J2 := m.J) (fun hT v kk => ?_) ?_
  · refine sh_w (i := (.iinc 1 1)) (len := 3) (pc2 := 493) (lv2 := [(1, .int (x1 + 1)), (0, .ref 42)]) (st2 := []) (h2 := (sh_rep m.T m.I m.J)) rfl rfl rfl ?_
    refine sh_w (i := (.goto (-483))) (len := 3) (pc2 := 10) (lv2 := [(1, .int (x1 + 1)), (0, .ref 42)]) (st2 := []) (h2 := (sh_rep m.T m.I m.J)) rfl rfl rfl ?_
    exact kk
  obtain rfl := Option.some.inj e
  exact sh_Lk_sub (sh_sub_c rfl (sh_sub_c rfl (sh_sub_n))) tg
theorem sl_78_10s {x1 : Int32} {m m2 : sh_X} {o : Outcome} {z : ((Int32 × sh_X) ⊕ (Option Unit × sh_X))} (e : sf_78_10s x1 m = some z) (tg : (sh_el (fun q => sh_Lk 78 10 [(0, .ref 42), (1, .int q.1)] [] q.2 o m2 16 439) (sh_tVt o m2)) z) : sh_Lk 78 10 [(0, .ref 42), (1, .int x1)] [] m o m2 16 439 := by
  unfold sf_78_10s at e
  refine sh_Lk_lift (T := m.T) (I := m.I) (J := m.J) (s := m.s) (pc2 := 13) (lv2 := [(0, .ref 42), (1, .int x1)]) (st2 := [.int 1000000, .int x1]) (I2 := m.I) (J2 := m.J) (fun hT v kk => ?_) ?_
  · refine sh_w (i := (.iload_n 1)) (len := 1) (pc2 := 11) (lv2 := [(0, .ref 42), (1, .int x1)]) (st2 := [.int x1]) (h2 := (sh_rep m.T m.I m.J)) rfl rfl rfl ?_
    refine sh_w (i := (.ldc 69)) (len := 2) (pc2 := 13) (lv2 := [(0, .ref 42), (1, .int x1)]) (st2 := [.int 1000000, .int x1]) (h2 := (sh_rep m.T m.I m.J)) rfl rfl rfl ?_
    exact kk
  rcases sh_ite e with ⟨c, e⟩ | ⟨c, e⟩
  · refine sh_Lk_lift (T := m.T) (I := m.I) (J := m.J) (s := m.s) (pc2 := 24) (lv2 := [(0, .ref 42), (1, .int x1)]) (st2 := [.int (m.I 41 13), .ref 29]) (I2 := m.I) (J2 := m.J) (fun hT v kk => ?_) ?_
    · refine sh_jc (c := .ge) (off := (483)) (pc2 := 16) false rfl (sh_Bgef c) rfl ?_
      refine sh_w (i := (.aload_n 0)) (len := 1) (pc2 := 17) (lv2 := [(0, .ref 42), (1, .int x1)]) (st2 := [.ref 42]) (h2 := (sh_rep m.T m.I m.J)) rfl rfl rfl ?_
      refine sh_gR1 (len := 3) (x := .ref 29) (pc2 := 20) rfl rfl (sh_s41 hT.st) rfl rfl ?_
      refine sh_w (i := (.aload_n 0)) (len := 1) (pc2 := 21) (lv2 := [(0, .ref 42), (1, .int x1)]) (st2 := [.ref 42, .ref 29]) (h2 := (sh_rep m.T m.I m.J)) rfl rfl rfl ?_
      refine sh_gI1 (len := 3) (x := m.I 41 13) (pc2 := 24) rfl rfl (sh_s41 hT.st) rfl rfl rfl ?_
      exact kk
    obtain ⟨r1, e1, e⟩ := sh_bc_e e
    refine sh_Lk_cV (r := (some (.int (sh_b2 r1)))) (st2 := [.int (sh_b2 r1)]) (pc2 := 27) (k2 := 64) (a := 28) (as := [.ref 29, .int (m.I 41 13)]) (rest := []) rfl rfl rfl (fun hT => (sh_s28 hT.st)) rfl rfl ⟨Nat.le_of_ble_eq_true rfl, Nat.le_of_ble_eq_true rfl⟩ (sl_64 e1 ⟨rfl, rfl⟩) rfl rfl (Nat.le_of_ble_eq_true rfl) (Nat.le_of_ble_eq_true rfl) ?_
    rcases sh_ite e with ⟨c, e⟩ | ⟨c, e⟩
    · refine sh_Lk_lift (T := m.T) (I := m.I) (J := m.J) (s := m.s) (pc2 := 38) (lv2 := [(0, .ref 42), (1, .int x1)]) (st2 := [.int (m.I 41 13), .ref 29]) (I2 := m.I) (J2 := m.J) (fun hT v kk => ?_) ?_
      · refine sh_j0 (c := .eq) (off := (469)) (pc2 := 30) false rfl (sh_Zeqf c) rfl ?_
        refine sh_w (i := (.aload_n 0)) (len := 1) (pc2 := 31) (lv2 := [(0, .ref 42), (1, .int x1)]) (st2 := [.ref 42]) (h2 := (sh_rep m.T m.I m.J)) rfl rfl rfl ?_
        refine sh_gR1 (len := 3) (x := .ref 29) (pc2 := 34) rfl rfl (sh_s41 hT.st) rfl rfl ?_
        refine sh_w (i := (.aload_n 0)) (len := 1) (pc2 := 35) (lv2 := [(0, .ref 42), (1, .int x1)]) (st2 := [.ref 42, .ref 29]) (h2 := (sh_rep m.T m.I m.J)) rfl rfl rfl ?_
        refine sh_gI1 (len := 3) (x := m.I 41 13) (pc2 := 38) rfl rfl (sh_s41 hT.st) rfl rfl rfl ?_
        exact kk
      obtain ⟨r2, e2, e⟩ := sh_bc_e e
      refine sh_Lk_cV (r := (some (.int r2))) (st2 := [.int r2]) (pc2 := 41) (k2 := 87) (a := 28) (as := [.ref 29, .int (m.I 41 13)]) (rest := []) rfl rfl rfl (fun hT => (sh_s28 hT.st)) rfl rfl ⟨Nat.le_of_ble_eq_true rfl, Nat.le_of_ble_eq_true rfl⟩ (sl_87 e2 ⟨rfl, rfl⟩) rfl rfl (Nat.le_of_ble_eq_true rfl) (Nat.le_of_ble_eq_true rfl) ?_
      refine sh_Lk_lift (T := m.T) (I := m.I) (J := m.J) (s := m.s) (pc2 := 50) (lv2 := [(2, .int r2), (0, .ref 42), (1, .int x1)]) (st2 := [.int (m.I 41 13), .ref 29]) (I2 := m.I) (J2 := m.J) (fun hT v kk => ?_) ?_
      · refine sh_w (i := (.istore_n 2)) (len := 1) (pc2 := 42) (lv2 := [(2, .int r2), (0, .ref 42), (1, .int x1)]) (st2 := []) (h2 := (sh_rep m.T m.I m.J)) rfl rfl rfl ?_
        refine sh_w (i := (.aload_n 0)) (len := 1) (pc2 := 43) (lv2 := [(2, .int r2), (0, .ref 42), (1, .int x1)]) (st2 := [.ref 42]) (h2 := (sh_rep m.T m.I m.J)) rfl rfl rfl ?_
        refine sh_gR1 (len := 3) (x := .ref 29) (pc2 := 46) rfl rfl (sh_s41 hT.st) rfl rfl ?_
        refine sh_w (i := (.aload_n 0)) (len := 1) (pc2 := 47) (lv2 := [(2, .int r2), (0, .ref 42), (1, .int x1)]) (st2 := [.ref 42, .ref 29]) (h2 := (sh_rep m.T m.I m.J)) rfl rfl rfl ?_
        refine sh_gI1 (len := 3) (x := m.I 41 13) (pc2 := 50) rfl rfl (sh_s41 hT.st) rfl rfl rfl ?_
        exact kk
      obtain ⟨r3, e3, e⟩ := sh_bc_e e
      refine sh_Lk_cV (r := (some (.int r3))) (st2 := [.int r3]) (pc2 := 53) (k2 := 88) (a := 28) (as := [.ref 29, .int (m.I 41 13)]) (rest := []) rfl rfl rfl (fun hT => (sh_s28 hT.st)) rfl rfl ⟨Nat.le_of_ble_eq_true rfl, Nat.le_of_ble_eq_true rfl⟩ (sl_88 e3 ⟨rfl, rfl⟩) rfl rfl (Nat.le_of_ble_eq_true rfl) (Nat.le_of_ble_eq_true rfl) ?_
      refine sh_Lk_lift (T := m.T) (I := m.I) (J := m.J) (s := m.s) (pc2 := 74) (lv2 := [(3, .int r3), (2, .int r2), (0, .ref 42), (1, .int x1)]) (st2 := [.int (((m.I 41 13) + 1) - 1), .ref 29]) (I2 := sh_u2 m.I 41 13 ((m.I 41 13) + 1)) (J2 := m.J) (fun hT v kk => ?_) ?_
      · refine sh_w (i := (.istore_n 3)) (len := 1) (pc2 := 54) (lv2 := [(3, .int r3), (2, .int r2), (0, .ref 42), (1, .int x1)]) (st2 := []) (h2 := (sh_rep m.T m.I m.J)) rfl rfl rfl ?_
        refine sh_w (i := (.aload_n 0)) (len := 1) (pc2 := 55) (lv2 := [(3, .int r3), (2, .int r2), (0, .ref 42), (1, .int x1)]) (st2 := [.ref 42]) (h2 := (sh_rep m.T m.I m.J)) rfl rfl rfl ?_
        refine sh_w (i := .dup) (len := 1) (pc2 := 56) (lv2 := [(3, .int r3), (2, .int r2), (0, .ref 42), (1, .int x1)]) (st2 := [.ref 42, .ref 42]) (h2 := (sh_rep m.T m.I m.J)) rfl rfl rfl ?_
        refine sh_gI1 (len := 3) (x := m.I 41 13) (pc2 := 59) rfl rfl (sh_s41 hT.st) rfl rfl rfl ?_
        refine sh_w (i := (.iconst 1)) (len := 1) (pc2 := 60) (lv2 := [(3, .int r3), (2, .int r2), (0, .ref 42), (1, .int x1)]) (st2 := [.int 1, .int (m.I 41 13), .ref 42]) (h2 := (sh_rep m.T m.I m.J)) rfl rfl rfl ?_
        refine sh_w (i := .iadd) (len := 1) (pc2 := 61) (lv2 := [(3, .int r3), (2, .int r2), (0, .ref 42), (1, .int x1)]) (st2 := [.int ((m.I 41 13) + 1), .ref 42]) (h2 := (sh_rep m.T m.I m.J)) rfl rfl rfl ?_
        refine sh_pI1 (x := (m.I 41 13) + 1) (pc2 := 64) rfl rfl (sh_s41 hT.st) rfl rfl rfl rfl ?_
        refine sh_w (i := (.aload_n 0)) (len := 1) (pc2 := 65) (lv2 := [(3, .int r3), (2, .int r2), (0, .ref 42), (1, .int x1)]) (st2 := [.ref 42]) (h2 := (sh_rep m.T (sh_u2 m.I 41 13 ((m.I 41 13) + 1)) m.J)) rfl rfl rfl ?_
        refine sh_gR1 (len := 3) (x := .ref 29) (pc2 := 68) rfl rfl (sh_s41 hT.st) rfl rfl ?_
        refine sh_w (i := (.aload_n 0)) (len := 1) (pc2 := 69) (lv2 := [(3, .int r3), (2, .int r2), (0, .ref 42), (1, .int x1)]) (st2 := [.ref 42, .ref 29]) (h2 := (sh_rep m.T (sh_u2 m.I 41 13 ((m.I 41 13) + 1)) m.J)) rfl rfl rfl ?_
        refine sh_gI1 (len := 3) (x := (m.I 41 13) + 1) (pc2 := 72) rfl rfl (sh_s41 hT.st) rfl rfl rfl ?_
        refine sh_w (i := (.iconst 1)) (len := 1) (pc2 := 73) (lv2 := [(3, .int r3), (2, .int r2), (0, .ref 42), (1, .int x1)]) (st2 := [.int 1, .int ((m.I 41 13) + 1), .ref 29]) (h2 := (sh_rep m.T (sh_u2 m.I 41 13 ((m.I 41 13) + 1)) m.J)) rfl rfl rfl ?_
        refine sh_w (i := .isub) (len := 1) (pc2 := 74) (lv2 := [(3, .int r3), (2, .int r2), (0, .ref 42), (1, .int x1)]) (st2 := [.int (((m.I 41 13) + 1) - 1), .ref 29]) (h2 := (sh_rep m.T (sh_u2 m.I 41 13 ((m.I 41 13) + 1)) m.J)) rfl rfl rfl ?_
        exact kk
      obtain ⟨r4, e4, e⟩ := sh_bc_e e
      refine sh_Lk_cV (r := (some (.int r4))) (st2 := [.int r4]) (pc2 := 77) (k2 := 89) (a := 28) (as := [.ref 29, .int (((m.I 41 13) + 1) - 1)]) (rest := []) rfl rfl rfl (fun hT => (sh_s28 hT.st)) rfl rfl ⟨Nat.le_of_ble_eq_true rfl, Nat.le_of_ble_eq_true rfl⟩ (sl_89 e4 ⟨rfl, rfl⟩) rfl rfl (Nat.le_of_ble_eq_true rfl) (Nat.le_of_ble_eq_true rfl) ?_
      rcases sh_ite e with ⟨c, e⟩ | ⟨c0, e⟩
      · refine sh_Lk_lift (T := m.T) (I := sh_u2 m.I 41 13 ((m.I 41 13) + 1)) (J := m.J) (s := m.s) (pc2 := 219) (lv2 := [(3, .int r3), (2, .int r2), (0, .ref 42), (1, .int x1)]) (st2 := [.int r2, .int 1, .ref 42]) (I2 := sh_u2 m.I 41 13 ((m.I 41 13) + 1)) (J2 := m.J) (fun hT v kk => ?_) ?_
        · refine sh_w (i := (.tableswitch 413 0 30 #[139, 148, 156, 164, 172, 181, 190, 199, 207, 214, 221, 230, 239, 247, 255, 264, 273, 282, 290, 298, 317, 331, 339, 347, 355, 363, 371, 380, 389, 397, 405])) (len := 139) (pc2 := 216) (lv2 := [(3, .int r3), (2, .int r2), (0, .ref 42), (1, .int x1)]) (st2 := []) (h2 := (sh_rep m.T (sh_u2 m.I 41 13 ((m.I 41 13) + 1)) m.J)) rfl rfl (sh_sw c rfl) ?_
          refine sh_w (i := (.aload_n 0)) (len := 1) (pc2 := 217) (lv2 := [(3, .int r3), (2, .int r2), (0, .ref 42), (1, .int x1)]) (st2 := [.ref 42]) (h2 := (sh_rep m.T (sh_u2 m.I 41 13 ((m.I 41 13) + 1)) m.J)) rfl rfl rfl ?_
          refine sh_w (i := (.iconst 1)) (len := 1) (pc2 := 218) (lv2 := [(3, .int r3), (2, .int r2), (0, .ref 42), (1, .int x1)]) (st2 := [.int 1, .ref 42]) (h2 := (sh_rep m.T (sh_u2 m.I 41 13 ((m.I 41 13) + 1)) m.J)) rfl rfl rfl ?_
          refine sh_w (i := (.iload_n 2)) (len := 1) (pc2 := 219) (lv2 := [(3, .int r3), (2, .int r2), (0, .ref 42), (1, .int x1)]) (st2 := [.int r2, .int 1, .ref 42]) (h2 := (sh_rep m.T (sh_u2 m.I 41 13 ((m.I 41 13) + 1)) m.J)) rfl rfl rfl ?_
          exact kk
        rcases sh_bt_e e with ⟨m15, e5, rfl⟩ | ⟨r5, m15, e5, e⟩
        · obtain ⟨rfl, rfl⟩ := tg
          exact sh_Lk_tV (k2 := 90) (a := 41) (as := [.ref 42, .int 1, .int r2]) (rest := []) rfl rfl rfl (fun hT => (sh_s41 hT.st)) rfl rfl ⟨Nat.le_of_ble_eq_true rfl, Nat.le_of_ble_eq_true rfl⟩ (sl_90 e5 ⟨rfl, rfl⟩) rfl (Nat.le_of_ble_eq_true rfl) (Nat.le_of_ble_eq_true rfl) (Nat.le_of_ble_eq_true rfl) (Nat.le_of_ble_eq_true rfl) rfl
        refine sh_Lk_cV (r := none) (st2 := []) (pc2 := 222) (k2 := 90) (a := 41) (as := [.ref 42, .int 1, .int r2]) (rest := []) rfl rfl rfl (fun hT => (sh_s41 hT.st)) rfl rfl ⟨Nat.le_of_ble_eq_true rfl, Nat.le_of_ble_eq_true rfl⟩ (sl_90 e5 ⟨rfl, rfl⟩) rfl rfl (Nat.le_of_ble_eq_true rfl) (Nat.le_of_ble_eq_true rfl) ?_
        refine sh_Lk_lift (T := m15.T) (I := m15.I) (J := m15.J) (s := m15.s) (pc2 := 490) (lv2 := [(3, .int r3), (2, .int r2), (0, .ref 42), (1, .int x1)]) (st2 := []) (I2 := m15.I) (J2 := m15.J) (fun hT v kk => ?_) ?_
        · refine sh_w (i := (.goto 268)) (len := 3) (pc2 := 490) (lv2 := [(3, .int r3), (2, .int r2), (0, .ref 42), (1, .int x1)]) (st2 := []) (h2 := (sh_rep m15.T m15.I m15.J)) rfl rfl rfl ?_
          exact kk
        exact sh_Lk_sub (sh_sub_c rfl (sh_sub_c rfl (sh_sub_n))) (sl_78_490 e tg)
      rcases sh_ite e with ⟨c, e⟩ | ⟨c1, e⟩
      · refine sh_Lk_lift (T := m.T) (I := sh_u2 m.I 41 13 ((m.I 41 13) + 1)) (J := m.J) (s := m.s) (pc2 := 227) (lv2 := [(3, .int r3), (2, .int r2), (0, .ref 42), (1, .int x1)]) (st2 := [.int r2, .ref 42]) (I2 := sh_u2 m.I 41 13 ((m.I 41 13) + 1)) (J2 := m.J) (fun hT v kk => ?_) ?_
        · refine sh_w (i := (.tableswitch 413 0 30 #[139, 148, 156, 164, 172, 181, 190, 199, 207, 214, 221, 230, 239, 247, 255, 264, 273, 282, 290, 298, 317, 331, 339, 347, 355, 363, 371, 380, 389, 397, 405])) (len := 139) (pc2 := 225) (lv2 := [(3, .int r3), (2, .int r2), (0, .ref 42), (1, .int x1)]) (st2 := []) (h2 := (sh_rep m.T (sh_u2 m.I 41 13 ((m.I 41 13) + 1)) m.J)) rfl rfl (sh_sw c rfl) ?_
          refine sh_w (i := (.aload_n 0)) (len := 1) (pc2 := 226) (lv2 := [(3, .int r3), (2, .int r2), (0, .ref 42), (1, .int x1)]) (st2 := [.ref 42]) (h2 := (sh_rep m.T (sh_u2 m.I 41 13 ((m.I 41 13) + 1)) m.J)) rfl rfl rfl ?_
          refine sh_w (i := (.iload_n 2)) (len := 1) (pc2 := 227) (lv2 := [(3, .int r3), (2, .int r2), (0, .ref 42), (1, .int x1)]) (st2 := [.int r2, .ref 42]) (h2 := (sh_rep m.T (sh_u2 m.I 41 13 ((m.I 41 13) + 1)) m.J)) rfl rfl rfl ?_
          exact kk
        rcases sh_bt_e e with ⟨m16, e6, rfl⟩ | ⟨r6, m16, e6, e⟩
        · obtain ⟨rfl, rfl⟩ := tg
          exact sh_Lk_tV (k2 := 91) (a := 41) (as := [.ref 42, .int r2]) (rest := []) rfl rfl rfl (fun hT => (sh_s41 hT.st)) rfl rfl ⟨Nat.le_of_ble_eq_true rfl, Nat.le_of_ble_eq_true rfl⟩ (sl_91 e6 ⟨rfl, rfl⟩) rfl (Nat.le_of_ble_eq_true rfl) (Nat.le_of_ble_eq_true rfl) (Nat.le_of_ble_eq_true rfl) (Nat.le_of_ble_eq_true rfl) rfl
        refine sh_Lk_cV (r := none) (st2 := []) (pc2 := 230) (k2 := 91) (a := 41) (as := [.ref 42, .int r2]) (rest := []) rfl rfl rfl (fun hT => (sh_s41 hT.st)) rfl rfl ⟨Nat.le_of_ble_eq_true rfl, Nat.le_of_ble_eq_true rfl⟩ (sl_91 e6 ⟨rfl, rfl⟩) rfl rfl (Nat.le_of_ble_eq_true rfl) (Nat.le_of_ble_eq_true rfl) ?_
        refine sh_Lk_lift (T := m16.T) (I := m16.I) (J := m16.J) (s := m16.s) (pc2 := 490) (lv2 := [(3, .int r3), (2, .int r2), (0, .ref 42), (1, .int x1)]) (st2 := []) (I2 := m16.I) (J2 := m16.J) (fun hT v kk => ?_) ?_
        · refine sh_w (i := (.goto 260)) (len := 3) (pc2 := 490) (lv2 := [(3, .int r3), (2, .int r2), (0, .ref 42), (1, .int x1)]) (st2 := []) (h2 := (sh_rep m16.T m16.I m16.J)) rfl rfl rfl ?_
          exact kk
        exact sh_Lk_sub (sh_sub_c rfl (sh_sub_c rfl (sh_sub_n))) (sl_78_490 e tg)
      rcases sh_ite e with ⟨c, e⟩ | ⟨c2, e⟩
      · refine sh_Lk_lift (T := m.T) (I := sh_u2 m.I 41 13 ((m.I 41 13) + 1)) (J := m.J) (s := m.s) (pc2 := 235) (lv2 := [(3, .int r3), (2, .int r2), (0, .ref 42), (1, .int x1)]) (st2 := [.int r2, .ref 42]) (I2 := sh_u2 m.I 41 13 ((m.I 41 13) + 1)) (J2 := m.J) (fun hT v kk => ?_) ?_
        · refine sh_w (i := (.tableswitch 413 0 30 #[139, 148, 156, 164, 172, 181, 190, 199, 207, 214, 221, 230, 239, 247, 255, 264, 273, 282, 290, 298, 317, 331, 339, 347, 355, 363, 371, 380, 389, 397, 405])) (len := 139) (pc2 := 233) (lv2 := [(3, .int r3), (2, .int r2), (0, .ref 42), (1, .int x1)]) (st2 := []) (h2 := (sh_rep m.T (sh_u2 m.I 41 13 ((m.I 41 13) + 1)) m.J)) rfl rfl (sh_sw c rfl) ?_
          refine sh_w (i := (.aload_n 0)) (len := 1) (pc2 := 234) (lv2 := [(3, .int r3), (2, .int r2), (0, .ref 42), (1, .int x1)]) (st2 := [.ref 42]) (h2 := (sh_rep m.T (sh_u2 m.I 41 13 ((m.I 41 13) + 1)) m.J)) rfl rfl rfl ?_
          refine sh_w (i := (.iload_n 2)) (len := 1) (pc2 := 235) (lv2 := [(3, .int r3), (2, .int r2), (0, .ref 42), (1, .int x1)]) (st2 := [.int r2, .ref 42]) (h2 := (sh_rep m.T (sh_u2 m.I 41 13 ((m.I 41 13) + 1)) m.J)) rfl rfl rfl ?_
          exact kk
        rcases sh_bt_e e with ⟨m17, e7, rfl⟩ | ⟨r7, m17, e7, e⟩
        · obtain ⟨rfl, rfl⟩ := tg
          exact sh_Lk_tV (k2 := 106) (a := 41) (as := [.ref 42, .int r2]) (rest := []) rfl rfl rfl (fun hT => (sh_s41 hT.st)) rfl rfl ⟨Nat.le_of_ble_eq_true rfl, Nat.le_of_ble_eq_true rfl⟩ (sl_106 e7 ⟨rfl, rfl⟩) rfl (Nat.le_of_ble_eq_true rfl) (Nat.le_of_ble_eq_true rfl) (Nat.le_of_ble_eq_true rfl) (Nat.le_of_ble_eq_true rfl) rfl
        refine sh_Lk_cV (r := none) (st2 := []) (pc2 := 238) (k2 := 106) (a := 41) (as := [.ref 42, .int r2]) (rest := []) rfl rfl rfl (fun hT => (sh_s41 hT.st)) rfl rfl ⟨Nat.le_of_ble_eq_true rfl, Nat.le_of_ble_eq_true rfl⟩ (sl_106 e7 ⟨rfl, rfl⟩) rfl rfl (Nat.le_of_ble_eq_true rfl) (Nat.le_of_ble_eq_true rfl) ?_
        refine sh_Lk_lift (T := m17.T) (I := m17.I) (J := m17.J) (s := m17.s) (pc2 := 490) (lv2 := [(3, .int r3), (2, .int r2), (0, .ref 42), (1, .int x1)]) (st2 := []) (I2 := m17.I) (J2 := m17.J) (fun hT v kk => ?_) ?_
        · refine sh_w (i := (.goto 252)) (len := 3) (pc2 := 490) (lv2 := [(3, .int r3), (2, .int r2), (0, .ref 42), (1, .int x1)]) (st2 := []) (h2 := (sh_rep m17.T m17.I m17.J)) rfl rfl rfl ?_
          exact kk
        exact sh_Lk_sub (sh_sub_c rfl (sh_sub_c rfl (sh_sub_n))) (sl_78_490 e tg)
      rcases sh_ite e with ⟨c, e⟩ | ⟨c3, e⟩
      · refine sh_Lk_lift (T := m.T) (I := sh_u2 m.I 41 13 ((m.I 41 13) + 1)) (J := m.J) (s := m.s) (pc2 := 243) (lv2 := [(3, .int r3), (2, .int r2), (0, .ref 42), (1, .int x1)]) (st2 := [.int r2, .ref 42]) (I2 := sh_u2 m.I 41 13 ((m.I 41 13) + 1)) (J2 := m.J) (fun hT v kk => ?_) ?_
        · refine sh_w (i := (.tableswitch 413 0 30 #[139, 148, 156, 164, 172, 181, 190, 199, 207, 214, 221, 230, 239, 247, 255, 264, 273, 282, 290, 298, 317, 331, 339, 347, 355, 363, 371, 380, 389, 397, 405])) (len := 139) (pc2 := 241) (lv2 := [(3, .int r3), (2, .int r2), (0, .ref 42), (1, .int x1)]) (st2 := []) (h2 := (sh_rep m.T (sh_u2 m.I 41 13 ((m.I 41 13) + 1)) m.J)) rfl rfl (sh_sw c rfl) ?_
          refine sh_w (i := (.aload_n 0)) (len := 1) (pc2 := 242) (lv2 := [(3, .int r3), (2, .int r2), (0, .ref 42), (1, .int x1)]) (st2 := [.ref 42]) (h2 := (sh_rep m.T (sh_u2 m.I 41 13 ((m.I 41 13) + 1)) m.J)) rfl rfl rfl ?_
          refine sh_w (i := (.iload_n 2)) (len := 1) (pc2 := 243) (lv2 := [(3, .int r3), (2, .int r2), (0, .ref 42), (1, .int x1)]) (st2 := [.int r2, .ref 42]) (h2 := (sh_rep m.T (sh_u2 m.I 41 13 ((m.I 41 13) + 1)) m.J)) rfl rfl rfl ?_
          exact kk
        rcases sh_bt_e e with ⟨m18, e8, rfl⟩ | ⟨r8, m18, e8, e⟩
        · obtain ⟨rfl, rfl⟩ := tg
          exact sh_Lk_tV (k2 := 119) (a := 41) (as := [.ref 42, .int r2]) (rest := []) rfl rfl rfl (fun hT => (sh_s41 hT.st)) rfl rfl ⟨Nat.le_of_ble_eq_true rfl, Nat.le_of_ble_eq_true rfl⟩ (sl_119 e8 ⟨rfl, rfl⟩) rfl (Nat.le_of_ble_eq_true rfl) (Nat.le_of_ble_eq_true rfl) (Nat.le_of_ble_eq_true rfl) (Nat.le_of_ble_eq_true rfl) rfl
        refine sh_Lk_cV (r := none) (st2 := []) (pc2 := 246) (k2 := 119) (a := 41) (as := [.ref 42, .int r2]) (rest := []) rfl rfl rfl (fun hT => (sh_s41 hT.st)) rfl rfl ⟨Nat.le_of_ble_eq_true rfl, Nat.le_of_ble_eq_true rfl⟩ (sl_119 e8 ⟨rfl, rfl⟩) rfl rfl (Nat.le_of_ble_eq_true rfl) (Nat.le_of_ble_eq_true rfl) ?_
        refine sh_Lk_lift (T := m18.T) (I := m18.I) (J := m18.J) (s := m18.s) (pc2 := 490) (lv2 := [(3, .int r3), (2, .int r2), (0, .ref 42), (1, .int x1)]) (st2 := []) (I2 := m18.I) (J2 := m18.J) (fun hT v kk => ?_) ?_
        · refine sh_w (i := (.goto 244)) (len := 3) (pc2 := 490) (lv2 := [(3, .int r3), (2, .int r2), (0, .ref 42), (1, .int x1)]) (st2 := []) (h2 := (sh_rep m18.T m18.I m18.J)) rfl rfl rfl ?_
          exact kk
        exact sh_Lk_sub (sh_sub_c rfl (sh_sub_c rfl (sh_sub_n))) (sl_78_490 e tg)
      rcases sh_ite e with ⟨c, e⟩ | ⟨c4, e⟩
      · refine sh_Lk_lift (T := m.T) (I := sh_u2 m.I 41 13 ((m.I 41 13) + 1)) (J := m.J) (s := m.s) (pc2 := 252) (lv2 := [(3, .int r3), (2, .int r2), (0, .ref 42), (1, .int x1)]) (st2 := [.int r3, .int r2, .ref 42]) (I2 := sh_u2 m.I 41 13 ((m.I 41 13) + 1)) (J2 := m.J) (fun hT v kk => ?_) ?_
        · refine sh_w (i := (.tableswitch 413 0 30 #[139, 148, 156, 164, 172, 181, 190, 199, 207, 214, 221, 230, 239, 247, 255, 264, 273, 282, 290, 298, 317, 331, 339, 347, 355, 363, 371, 380, 389, 397, 405])) (len := 139) (pc2 := 249) (lv2 := [(3, .int r3), (2, .int r2), (0, .ref 42), (1, .int x1)]) (st2 := []) (h2 := (sh_rep m.T (sh_u2 m.I 41 13 ((m.I 41 13) + 1)) m.J)) rfl rfl (sh_sw c rfl) ?_
          refine sh_w (i := (.aload_n 0)) (len := 1) (pc2 := 250) (lv2 := [(3, .int r3), (2, .int r2), (0, .ref 42), (1, .int x1)]) (st2 := [.ref 42]) (h2 := (sh_rep m.T (sh_u2 m.I 41 13 ((m.I 41 13) + 1)) m.J)) rfl rfl rfl ?_
          refine sh_w (i := (.iload_n 2)) (len := 1) (pc2 := 251) (lv2 := [(3, .int r3), (2, .int r2), (0, .ref 42), (1, .int x1)]) (st2 := [.int r2, .ref 42]) (h2 := (sh_rep m.T (sh_u2 m.I 41 13 ((m.I 41 13) + 1)) m.J)) rfl rfl rfl ?_
          refine sh_w (i := (.iload_n 3)) (len := 1) (pc2 := 252) (lv2 := [(3, .int r3), (2, .int r2), (0, .ref 42), (1, .int x1)]) (st2 := [.int r3, .int r2, .ref 42]) (h2 := (sh_rep m.T (sh_u2 m.I 41 13 ((m.I 41 13) + 1)) m.J)) rfl rfl rfl ?_
          exact kk
        rcases sh_bt_e e with ⟨m19, e9, rfl⟩ | ⟨r9, m19, e9, e⟩
        · obtain ⟨rfl, rfl⟩ := tg
          exact sh_Lk_tV (k2 := 122) (a := 41) (as := [.ref 42, .int r2, .int r3]) (rest := []) rfl rfl rfl (fun hT => (sh_s41 hT.st)) rfl rfl ⟨Nat.le_of_ble_eq_true rfl, Nat.le_of_ble_eq_true rfl⟩ (sl_122 e9 ⟨rfl, rfl⟩) rfl (Nat.le_of_ble_eq_true rfl) (Nat.le_of_ble_eq_true rfl) (Nat.le_of_ble_eq_true rfl) (Nat.le_of_ble_eq_true rfl) rfl
        refine sh_Lk_cV (r := none) (st2 := []) (pc2 := 255) (k2 := 122) (a := 41) (as := [.ref 42, .int r2, .int r3]) (rest := []) rfl rfl rfl (fun hT => (sh_s41 hT.st)) rfl rfl ⟨Nat.le_of_ble_eq_true rfl, Nat.le_of_ble_eq_true rfl⟩ (sl_122 e9 ⟨rfl, rfl⟩) rfl rfl (Nat.le_of_ble_eq_true rfl) (Nat.le_of_ble_eq_true rfl) ?_
        refine sh_Lk_lift (T := m19.T) (I := m19.I) (J := m19.J) (s := m19.s) (pc2 := 490) (lv2 := [(3, .int r3), (2, .int r2), (0, .ref 42), (1, .int x1)]) (st2 := []) (I2 := m19.I) (J2 := m19.J) (fun hT v kk => ?_) ?_
        · refine sh_w (i := (.goto 235)) (len := 3) (pc2 := 490) (lv2 := [(3, .int r3), (2, .int r2), (0, .ref 42), (1, .int x1)]) (st2 := []) (h2 := (sh_rep m19.T m19.I m19.J)) rfl rfl rfl ?_
          exact kk
        exact sh_Lk_sub (sh_sub_c rfl (sh_sub_c rfl (sh_sub_n))) (sl_78_490 e tg)
      rcases sh_ite e with ⟨c, e⟩ | ⟨c5, e⟩
      · refine sh_Lk_lift (T := m.T) (I := sh_u2 m.I 41 13 ((m.I 41 13) + 1)) (J := m.J) (s := m.s) (pc2 := 261) (lv2 := [(3, .int r3), (2, .int r2), (0, .ref 42), (1, .int x1)]) (st2 := [.int r3, .int r2, .ref 42]) (I2 := sh_u2 m.I 41 13 ((m.I 41 13) + 1)) (J2 := m.J) (fun hT v kk => ?_) ?_
        · refine sh_w (i := (.tableswitch 413 0 30 #[139, 148, 156, 164, 172, 181, 190, 199, 207, 214, 221, 230, 239, 247, 255, 264, 273, 282, 290, 298, 317, 331, 339, 347, 355, 363, 371, 380, 389, 397, 405])) (len := 139) (pc2 := 258) (lv2 := [(3, .int r3), (2, .int r2), (0, .ref 42), (1, .int x1)]) (st2 := []) (h2 := (sh_rep m.T (sh_u2 m.I 41 13 ((m.I 41 13) + 1)) m.J)) rfl rfl (sh_sw c rfl) ?_
          refine sh_w (i := (.aload_n 0)) (len := 1) (pc2 := 259) (lv2 := [(3, .int r3), (2, .int r2), (0, .ref 42), (1, .int x1)]) (st2 := [.ref 42]) (h2 := (sh_rep m.T (sh_u2 m.I 41 13 ((m.I 41 13) + 1)) m.J)) rfl rfl rfl ?_
          refine sh_w (i := (.iload_n 2)) (len := 1) (pc2 := 260) (lv2 := [(3, .int r3), (2, .int r2), (0, .ref 42), (1, .int x1)]) (st2 := [.int r2, .ref 42]) (h2 := (sh_rep m.T (sh_u2 m.I 41 13 ((m.I 41 13) + 1)) m.J)) rfl rfl rfl ?_
          refine sh_w (i := (.iload_n 3)) (len := 1) (pc2 := 261) (lv2 := [(3, .int r3), (2, .int r2), (0, .ref 42), (1, .int x1)]) (st2 := [.int r3, .int r2, .ref 42]) (h2 := (sh_rep m.T (sh_u2 m.I 41 13 ((m.I 41 13) + 1)) m.J)) rfl rfl rfl ?_
          exact kk
        rcases sh_bt_e e with ⟨m20, e10, rfl⟩ | ⟨r10, m20, e10, e⟩
        · obtain ⟨rfl, rfl⟩ := tg
          exact sh_Lk_tV (k2 := 124) (a := 41) (as := [.ref 42, .int r2, .int r3]) (rest := []) rfl rfl rfl (fun hT => (sh_s41 hT.st)) rfl rfl ⟨Nat.le_of_ble_eq_true rfl, Nat.le_of_ble_eq_true rfl⟩ (sl_124 e10 ⟨rfl, rfl⟩) rfl (Nat.le_of_ble_eq_true rfl) (Nat.le_of_ble_eq_true rfl) (Nat.le_of_ble_eq_true rfl) (Nat.le_of_ble_eq_true rfl) rfl
        refine sh_Lk_cV (r := none) (st2 := []) (pc2 := 264) (k2 := 124) (a := 41) (as := [.ref 42, .int r2, .int r3]) (rest := []) rfl rfl rfl (fun hT => (sh_s41 hT.st)) rfl rfl ⟨Nat.le_of_ble_eq_true rfl, Nat.le_of_ble_eq_true rfl⟩ (sl_124 e10 ⟨rfl, rfl⟩) rfl rfl (Nat.le_of_ble_eq_true rfl) (Nat.le_of_ble_eq_true rfl) ?_
        refine sh_Lk_lift (T := m20.T) (I := m20.I) (J := m20.J) (s := m20.s) (pc2 := 490) (lv2 := [(3, .int r3), (2, .int r2), (0, .ref 42), (1, .int x1)]) (st2 := []) (I2 := m20.I) (J2 := m20.J) (fun hT v kk => ?_) ?_
        · refine sh_w (i := (.goto 226)) (len := 3) (pc2 := 490) (lv2 := [(3, .int r3), (2, .int r2), (0, .ref 42), (1, .int x1)]) (st2 := []) (h2 := (sh_rep m20.T m20.I m20.J)) rfl rfl rfl ?_
          exact kk
        exact sh_Lk_sub (sh_sub_c rfl (sh_sub_c rfl (sh_sub_n))) (sl_78_490 e tg)
      rcases sh_ite e with ⟨c, e⟩ | ⟨c6, e⟩
      · refine sh_Lk_lift (T := m.T) (I := sh_u2 m.I 41 13 ((m.I 41 13) + 1)) (J := m.J) (s := m.s) (pc2 := 270) (lv2 := [(3, .int r3), (2, .int r2), (0, .ref 42), (1, .int x1)]) (st2 := [.int r3, .int r2, .ref 42]) (I2 := sh_u2 m.I 41 13 ((m.I 41 13) + 1)) (J2 := m.J) (fun hT v kk => ?_) ?_
        · refine sh_w (i := (.tableswitch 413 0 30 #[139, 148, 156, 164, 172, 181, 190, 199, 207, 214, 221, 230, 239, 247, 255, 264, 273, 282, 290, 298, 317, 331, 339, 347, 355, 363, 371, 380, 389, 397, 405])) (len := 139) (pc2 := 267) (lv2 := [(3, .int r3), (2, .int r2), (0, .ref 42), (1, .int x1)]) (st2 := []) (h2 := (sh_rep m.T (sh_u2 m.I 41 13 ((m.I 41 13) + 1)) m.J)) rfl rfl (sh_sw c rfl) ?_
          refine sh_w (i := (.aload_n 0)) (len := 1) (pc2 := 268) (lv2 := [(3, .int r3), (2, .int r2), (0, .ref 42), (1, .int x1)]) (st2 := [.ref 42]) (h2 := (sh_rep m.T (sh_u2 m.I 41 13 ((m.I 41 13) + 1)) m.J)) rfl rfl rfl ?_
          refine sh_w (i := (.iload_n 2)) (len := 1) (pc2 := 269) (lv2 := [(3, .int r3), (2, .int r2), (0, .ref 42), (1, .int x1)]) (st2 := [.int r2, .ref 42]) (h2 := (sh_rep m.T (sh_u2 m.I 41 13 ((m.I 41 13) + 1)) m.J)) rfl rfl rfl ?_
          refine sh_w (i := (.iload_n 3)) (len := 1) (pc2 := 270) (lv2 := [(3, .int r3), (2, .int r2), (0, .ref 42), (1, .int x1)]) (st2 := [.int r3, .int r2, .ref 42]) (h2 := (sh_rep m.T (sh_u2 m.I 41 13 ((m.I 41 13) + 1)) m.J)) rfl rfl rfl ?_
          exact kk
        rcases sh_bt_e e with ⟨m21, e11, rfl⟩ | ⟨r11, m21, e11, e⟩
        · obtain ⟨rfl, rfl⟩ := tg
          exact sh_Lk_tV (k2 := 134) (a := 41) (as := [.ref 42, .int r2, .int r3]) (rest := []) rfl rfl rfl (fun hT => (sh_s41 hT.st)) rfl rfl ⟨Nat.le_of_ble_eq_true rfl, Nat.le_of_ble_eq_true rfl⟩ (sl_134 e11 ⟨rfl, rfl⟩) rfl (Nat.le_of_ble_eq_true rfl) (Nat.le_of_ble_eq_true rfl) (Nat.le_of_ble_eq_true rfl) (Nat.le_of_ble_eq_true rfl) rfl
        refine sh_Lk_cV (r := none) (st2 := []) (pc2 := 273) (k2 := 134) (a := 41) (as := [.ref 42, .int r2, .int r3]) (rest := []) rfl rfl rfl (fun hT => (sh_s41 hT.st)) rfl rfl ⟨Nat.le_of_ble_eq_true rfl, Nat.le_of_ble_eq_true rfl⟩ (sl_134 e11 ⟨rfl, rfl⟩) rfl rfl (Nat.le_of_ble_eq_true rfl) (Nat.le_of_ble_eq_true rfl) ?_
        refine sh_Lk_lift (T := m21.T) (I := m21.I) (J := m21.J) (s := m21.s) (pc2 := 490) (lv2 := [(3, .int r3), (2, .int r2), (0, .ref 42), (1, .int x1)]) (st2 := []) (I2 := m21.I) (J2 := m21.J) (fun hT v kk => ?_) ?_
        · refine sh_w (i := (.goto 217)) (len := 3) (pc2 := 490) (lv2 := [(3, .int r3), (2, .int r2), (0, .ref 42), (1, .int x1)]) (st2 := []) (h2 := (sh_rep m21.T m21.I m21.J)) rfl rfl rfl ?_
          exact kk
        exact sh_Lk_sub (sh_sub_c rfl (sh_sub_c rfl (sh_sub_n))) (sl_78_490 e tg)
      rcases sh_ite e with ⟨c, e⟩ | ⟨c7, e⟩
      · refine sh_Lk_lift (T := m.T) (I := sh_u2 m.I 41 13 ((m.I 41 13) + 1)) (J := m.J) (s := m.s) (pc2 := 278) (lv2 := [(3, .int r3), (2, .int r2), (0, .ref 42), (1, .int x1)]) (st2 := [.int r2, .ref 42]) (I2 := sh_u2 m.I 41 13 ((m.I 41 13) + 1)) (J2 := m.J) (fun hT v kk => ?_) ?_
        · refine sh_w (i := (.tableswitch 413 0 30 #[139, 148, 156, 164, 172, 181, 190, 199, 207, 214, 221, 230, 239, 247, 255, 264, 273, 282, 290, 298, 317, 331, 339, 347, 355, 363, 371, 380, 389, 397, 405])) (len := 139) (pc2 := 276) (lv2 := [(3, .int r3), (2, .int r2), (0, .ref 42), (1, .int x1)]) (st2 := []) (h2 := (sh_rep m.T (sh_u2 m.I 41 13 ((m.I 41 13) + 1)) m.J)) rfl rfl (sh_sw c rfl) ?_
          refine sh_w (i := (.aload_n 0)) (len := 1) (pc2 := 277) (lv2 := [(3, .int r3), (2, .int r2), (0, .ref 42), (1, .int x1)]) (st2 := [.ref 42]) (h2 := (sh_rep m.T (sh_u2 m.I 41 13 ((m.I 41 13) + 1)) m.J)) rfl rfl rfl ?_
          refine sh_w (i := (.iload_n 2)) (len := 1) (pc2 := 278) (lv2 := [(3, .int r3), (2, .int r2), (0, .ref 42), (1, .int x1)]) (st2 := [.int r2, .ref 42]) (h2 := (sh_rep m.T (sh_u2 m.I 41 13 ((m.I 41 13) + 1)) m.J)) rfl rfl rfl ?_
          exact kk
        rcases sh_bt_e e with ⟨m22, e12, rfl⟩ | ⟨r12, m22, e12, e⟩
        · obtain ⟨rfl, rfl⟩ := tg
          exact sh_Lk_tV (k2 := 142) (a := 41) (as := [.ref 42, .int r2]) (rest := []) rfl rfl rfl (fun hT => (sh_s41 hT.st)) rfl rfl ⟨Nat.le_of_ble_eq_true rfl, Nat.le_of_ble_eq_true rfl⟩ (sl_142 e12 ⟨rfl, rfl⟩) rfl (Nat.le_of_ble_eq_true rfl) (Nat.le_of_ble_eq_true rfl) (Nat.le_of_ble_eq_true rfl) (Nat.le_of_ble_eq_true rfl) rfl
        refine sh_Lk_cV (r := none) (st2 := []) (pc2 := 281) (k2 := 142) (a := 41) (as := [.ref 42, .int r2]) (rest := []) rfl rfl rfl (fun hT => (sh_s41 hT.st)) rfl rfl ⟨Nat.le_of_ble_eq_true rfl, Nat.le_of_ble_eq_true rfl⟩ (sl_142 e12 ⟨rfl, rfl⟩) rfl rfl (Nat.le_of_ble_eq_true rfl) (Nat.le_of_ble_eq_true rfl) ?_
        refine sh_Lk_lift (T := m22.T) (I := m22.I) (J := m22.J) (s := m22.s) (pc2 := 490) (lv2 := [(3, .int r3), (2, .int r2), (0, .ref 42), (1, .int x1)]) (st2 := []) (I2 := m22.I) (J2 := m22.J) (fun hT v kk => ?_) ?_
        · refine sh_w (i := (.goto 209)) (len := 3) (pc2 := 490) (lv2 := [(3, .int r3), (2, .int r2), (0, .ref 42), (1, .int x1)]) (st2 := []) (h2 := (sh_rep m22.T m22.I m22.J)) rfl rfl rfl ?_
          exact kk
        exact sh_Lk_sub (sh_sub_c rfl (sh_sub_c rfl (sh_sub_n))) (sl_78_490 e tg)
      rcases sh_ite e with ⟨c, e⟩ | ⟨c8, e⟩
      · refine sh_Lk_lift (T := m.T) (I := sh_u2 m.I 41 13 ((m.I 41 13) + 1)) (J := m.J) (s := m.s) (pc2 := 285) (lv2 := [(3, .int r3), (2, .int r2), (0, .ref 42), (1, .int x1)]) (st2 := [.ref 42]) (I2 := sh_u2 m.I 41 13 ((m.I 41 13) + 1)) (J2 := m.J) (fun hT v kk => ?_) ?_
        · refine sh_w (i := (.tableswitch 413 0 30 #[139, 148, 156, 164, 172, 181, 190, 199, 207, 214, 221, 230, 239, 247, 255, 264, 273, 282, 290, 298, 317, 331, 339, 347, 355, 363, 371, 380, 389, 397, 405])) (len := 139) (pc2 := 284) (lv2 := [(3, .int r3), (2, .int r2), (0, .ref 42), (1, .int x1)]) (st2 := []) (h2 := (sh_rep m.T (sh_u2 m.I 41 13 ((m.I 41 13) + 1)) m.J)) rfl rfl (sh_sw c rfl) ?_
          refine sh_w (i := (.aload_n 0)) (len := 1) (pc2 := 285) (lv2 := [(3, .int r3), (2, .int r2), (0, .ref 42), (1, .int x1)]) (st2 := [.ref 42]) (h2 := (sh_rep m.T (sh_u2 m.I 41 13 ((m.I 41 13) + 1)) m.J)) rfl rfl rfl ?_
          exact kk
        obtain ⟨r13, m23, e13, e⟩ := sh_bn_e e
        refine sh_Lk_cV (r := none) (st2 := []) (pc2 := 288) (k2 := 144) (a := 41) (as := [.ref 42]) (rest := []) rfl rfl rfl (fun hT => (sh_s41 hT.st)) rfl rfl ⟨Nat.le_of_ble_eq_true rfl, Nat.le_of_ble_eq_true rfl⟩ (sl_144 e13 ⟨rfl, rfl⟩) rfl rfl (Nat.le_of_ble_eq_true rfl) (Nat.le_of_ble_eq_true rfl) ?_
        refine sh_Lk_lift (T := m23.T) (I := m23.I) (J := m23.J) (s := m23.s) (pc2 := 490) (lv2 := [(3, .int r3), (2, .int r2), (0, .ref 42), (1, .int x1)]) (st2 := []) (I2 := m23.I) (J2 := m23.J) (fun hT v kk => ?_) ?_
        · refine sh_w (i := (.goto 202)) (len := 3) (pc2 := 490) (lv2 := [(3, .int r3), (2, .int r2), (0, .ref 42), (1, .int x1)]) (st2 := []) (h2 := (sh_rep m23.T m23.I m23.J)) rfl rfl rfl ?_
          exact kk
        exact sh_Lk_sub (sh_sub_c rfl (sh_sub_c rfl (sh_sub_n))) (sl_78_490 e tg)
      rcases sh_ite e with ⟨c, e⟩ | ⟨c9, e⟩
      · refine sh_Lk_lift (T := m.T) (I := sh_u2 m.I 41 13 ((m.I 41 13) + 1)) (J := m.J) (s := m.s) (pc2 := 292) (lv2 := [(3, .int r3), (2, .int r2), (0, .ref 42), (1, .int x1)]) (st2 := [.ref 42]) (I2 := sh_u2 m.I 41 13 ((m.I 41 13) + 1)) (J2 := m.J) (fun hT v kk => ?_) ?_
        · refine sh_w (i := (.tableswitch 413 0 30 #[139, 148, 156, 164, 172, 181, 190, 199, 207, 214, 221, 230, 239, 247, 255, 264, 273, 282, 290, 298, 317, 331, 339, 347, 355, 363, 371, 380, 389, 397, 405])) (len := 139) (pc2 := 291) (lv2 := [(3, .int r3), (2, .int r2), (0, .ref 42), (1, .int x1)]) (st2 := []) (h2 := (sh_rep m.T (sh_u2 m.I 41 13 ((m.I 41 13) + 1)) m.J)) rfl rfl (sh_sw c rfl) ?_
          refine sh_w (i := (.aload_n 0)) (len := 1) (pc2 := 292) (lv2 := [(3, .int r3), (2, .int r2), (0, .ref 42), (1, .int x1)]) (st2 := [.ref 42]) (h2 := (sh_rep m.T (sh_u2 m.I 41 13 ((m.I 41 13) + 1)) m.J)) rfl rfl rfl ?_
          exact kk
        obtain ⟨r14, m24, e14, e⟩ := sh_bn_e e
        refine sh_Lk_cV (r := none) (st2 := []) (pc2 := 295) (k2 := 147) (a := 41) (as := [.ref 42]) (rest := []) rfl rfl rfl (fun hT => (sh_s41 hT.st)) rfl rfl ⟨Nat.le_of_ble_eq_true rfl, Nat.le_of_ble_eq_true rfl⟩ (sl_147 e14 ⟨rfl, rfl⟩) rfl rfl (Nat.le_of_ble_eq_true rfl) (Nat.le_of_ble_eq_true rfl) ?_
        refine sh_Lk_lift (T := m24.T) (I := m24.I) (J := m24.J) (s := m24.s) (pc2 := 490) (lv2 := [(3, .int r3), (2, .int r2), (0, .ref 42), (1, .int x1)]) (st2 := []) (I2 := m24.I) (J2 := m24.J) (fun hT v kk => ?_) ?_
        · refine sh_w (i := (.goto 195)) (len := 3) (pc2 := 490) (lv2 := [(3, .int r3), (2, .int r2), (0, .ref 42), (1, .int x1)]) (st2 := []) (h2 := (sh_rep m24.T m24.I m24.J)) rfl rfl rfl ?_
          exact kk
        exact sh_Lk_sub (sh_sub_c rfl (sh_sub_c rfl (sh_sub_n))) (sl_78_490 e tg)
      rcases sh_ite e with ⟨c, e⟩ | ⟨c10, e⟩
      · refine sh_Lk_lift (T := m.T) (I := sh_u2 m.I 41 13 ((m.I 41 13) + 1)) (J := m.J) (s := m.s) (pc2 := 301) (lv2 := [(3, .int r3), (2, .int r2), (0, .ref 42), (1, .int x1)]) (st2 := [.int r3, .int r2, .ref 42]) (I2 := sh_u2 m.I 41 13 ((m.I 41 13) + 1)) (J2 := m.J) (fun hT v kk => ?_) ?_
        · refine sh_w (i := (.tableswitch 413 0 30 #[139, 148, 156, 164, 172, 181, 190, 199, 207, 214, 221, 230, 239, 247, 255, 264, 273, 282, 290, 298, 317, 331, 339, 347, 355, 363, 371, 380, 389, 397, 405])) (len := 139) (pc2 := 298) (lv2 := [(3, .int r3), (2, .int r2), (0, .ref 42), (1, .int x1)]) (st2 := []) (h2 := (sh_rep m.T (sh_u2 m.I 41 13 ((m.I 41 13) + 1)) m.J)) rfl rfl (sh_sw c rfl) ?_
          refine sh_w (i := (.aload_n 0)) (len := 1) (pc2 := 299) (lv2 := [(3, .int r3), (2, .int r2), (0, .ref 42), (1, .int x1)]) (st2 := [.ref 42]) (h2 := (sh_rep m.T (sh_u2 m.I 41 13 ((m.I 41 13) + 1)) m.J)) rfl rfl rfl ?_
          refine sh_w (i := (.iload_n 2)) (len := 1) (pc2 := 300) (lv2 := [(3, .int r3), (2, .int r2), (0, .ref 42), (1, .int x1)]) (st2 := [.int r2, .ref 42]) (h2 := (sh_rep m.T (sh_u2 m.I 41 13 ((m.I 41 13) + 1)) m.J)) rfl rfl rfl ?_
          refine sh_w (i := (.iload_n 3)) (len := 1) (pc2 := 301) (lv2 := [(3, .int r3), (2, .int r2), (0, .ref 42), (1, .int x1)]) (st2 := [.int r3, .int r2, .ref 42]) (h2 := (sh_rep m.T (sh_u2 m.I 41 13 ((m.I 41 13) + 1)) m.J)) rfl rfl rfl ?_
          exact kk
        rcases sh_bt_e e with ⟨m25, e15, rfl⟩ | ⟨r15, m25, e15, e⟩
        · obtain ⟨rfl, rfl⟩ := tg
          exact sh_Lk_tV (k2 := 149) (a := 41) (as := [.ref 42, .int r2, .int r3]) (rest := []) rfl rfl rfl (fun hT => (sh_s41 hT.st)) rfl rfl ⟨Nat.le_of_ble_eq_true rfl, Nat.le_of_ble_eq_true rfl⟩ (sl_149 e15 ⟨rfl, rfl⟩) rfl (Nat.le_of_ble_eq_true rfl) (Nat.le_of_ble_eq_true rfl) (Nat.le_of_ble_eq_true rfl) (Nat.le_of_ble_eq_true rfl) rfl
        refine sh_Lk_cV (r := none) (st2 := []) (pc2 := 304) (k2 := 149) (a := 41) (as := [.ref 42, .int r2, .int r3]) (rest := []) rfl rfl rfl (fun hT => (sh_s41 hT.st)) rfl rfl ⟨Nat.le_of_ble_eq_true rfl, Nat.le_of_ble_eq_true rfl⟩ (sl_149 e15 ⟨rfl, rfl⟩) rfl rfl (Nat.le_of_ble_eq_true rfl) (Nat.le_of_ble_eq_true rfl) ?_
        refine sh_Lk_lift (T := m25.T) (I := m25.I) (J := m25.J) (s := m25.s) (pc2 := 490) (lv2 := [(3, .int r3), (2, .int r2), (0, .ref 42), (1, .int x1)]) (st2 := []) (I2 := m25.I) (J2 := m25.J) (fun hT v kk => ?_) ?_
        · refine sh_w (i := (.goto 186)) (len := 3) (pc2 := 490) (lv2 := [(3, .int r3), (2, .int r2), (0, .ref 42), (1, .int x1)]) (st2 := []) (h2 := (sh_rep m25.T m25.I m25.J)) rfl rfl rfl ?_
          exact kk
        exact sh_Lk_sub (sh_sub_c rfl (sh_sub_c rfl (sh_sub_n))) (sl_78_490 e tg)
      rcases sh_ite e with ⟨c, e⟩ | ⟨c11, e⟩
      · refine sh_Lk_lift (T := m.T) (I := sh_u2 m.I 41 13 ((m.I 41 13) + 1)) (J := m.J) (s := m.s) (pc2 := 310) (lv2 := [(3, .int r3), (2, .int r2), (0, .ref 42), (1, .int x1)]) (st2 := [.int r3, .int r2, .ref 42]) (I2 := sh_u2 m.I 41 13 ((m.I 41 13) + 1)) (J2 := m.J) (fun hT v kk => ?_) ?_
        · refine sh_w (i := (.tableswitch 413 0 30 #[139, 148, 156, 164, 172, 181, 190, 199, 207, 214, 221, 230, 239, 247, 255, 264, 273, 282, 290, 298, 317, 331, 339, 347, 355, 363, 371, 380, 389, 397, 405])) (len := 139) (pc2 := 307) (lv2 := [(3, .int r3), (2, .int r2), (0, .ref 42), (1, .int x1)]) (st2 := []) (h2 := (sh_rep m.T (sh_u2 m.I 41 13 ((m.I 41 13) + 1)) m.J)) rfl rfl (sh_sw c rfl) ?_
          refine sh_w (i := (.aload_n 0)) (len := 1) (pc2 := 308) (lv2 := [(3, .int r3), (2, .int r2), (0, .ref 42), (1, .int x1)]) (st2 := [.ref 42]) (h2 := (sh_rep m.T (sh_u2 m.I 41 13 ((m.I 41 13) + 1)) m.J)) rfl rfl rfl ?_
          refine sh_w (i := (.iload_n 2)) (len := 1) (pc2 := 309) (lv2 := [(3, .int r3), (2, .int r2), (0, .ref 42), (1, .int x1)]) (st2 := [.int r2, .ref 42]) (h2 := (sh_rep m.T (sh_u2 m.I 41 13 ((m.I 41 13) + 1)) m.J)) rfl rfl rfl ?_
          refine sh_w (i := (.iload_n 3)) (len := 1) (pc2 := 310) (lv2 := [(3, .int r3), (2, .int r2), (0, .ref 42), (1, .int x1)]) (st2 := [.int r3, .int r2, .ref 42]) (h2 := (sh_rep m.T (sh_u2 m.I 41 13 ((m.I 41 13) + 1)) m.J)) rfl rfl rfl ?_
          exact kk
        rcases sh_bt_e e with ⟨m26, e16, rfl⟩ | ⟨r16, m26, e16, e⟩
        · obtain ⟨rfl, rfl⟩ := tg
          exact sh_Lk_tV (k2 := 151) (a := 41) (as := [.ref 42, .int r2, .int r3]) (rest := []) rfl rfl rfl (fun hT => (sh_s41 hT.st)) rfl rfl ⟨Nat.le_of_ble_eq_true rfl, Nat.le_of_ble_eq_true rfl⟩ (sl_151 e16 ⟨rfl, rfl⟩) rfl (Nat.le_of_ble_eq_true rfl) (Nat.le_of_ble_eq_true rfl) (Nat.le_of_ble_eq_true rfl) (Nat.le_of_ble_eq_true rfl) rfl
        refine sh_Lk_cV (r := none) (st2 := []) (pc2 := 313) (k2 := 151) (a := 41) (as := [.ref 42, .int r2, .int r3]) (rest := []) rfl rfl rfl (fun hT => (sh_s41 hT.st)) rfl rfl ⟨Nat.le_of_ble_eq_true rfl, Nat.le_of_ble_eq_true rfl⟩ (sl_151 e16 ⟨rfl, rfl⟩) rfl rfl (Nat.le_of_ble_eq_true rfl) (Nat.le_of_ble_eq_true rfl) ?_
        refine sh_Lk_lift (T := m26.T) (I := m26.I) (J := m26.J) (s := m26.s) (pc2 := 490) (lv2 := [(3, .int r3), (2, .int r2), (0, .ref 42), (1, .int x1)]) (st2 := []) (I2 := m26.I) (J2 := m26.J) (fun hT v kk => ?_) ?_
        · refine sh_w (i := (.goto 177)) (len := 3) (pc2 := 490) (lv2 := [(3, .int r3), (2, .int r2), (0, .ref 42), (1, .int x1)]) (st2 := []) (h2 := (sh_rep m26.T m26.I m26.J)) rfl rfl rfl ?_
          exact kk
        exact sh_Lk_sub (sh_sub_c rfl (sh_sub_c rfl (sh_sub_n))) (sl_78_490 e tg)
      rcases sh_ite e with ⟨c, e⟩ | ⟨c12, e⟩
      · refine sh_Lk_lift (T := m.T) (I := sh_u2 m.I 41 13 ((m.I 41 13) + 1)) (J := m.J) (s := m.s) (pc2 := 318) (lv2 := [(3, .int r3), (2, .int r2), (0, .ref 42), (1, .int x1)]) (st2 := [.int r2, .ref 42]) (I2 := sh_u2 m.I 41 13 ((m.I 41 13) + 1)) (J2 := m.J) (fun hT v kk => ?_) ?_
        · refine sh_w (i := (.tableswitch 413 0 30 #[139, 148, 156, 164, 172, 181, 190, 199, 207, 214, 221, 230, 239, 247, 255, 264, 273, 282, 290, 298, 317, 331, 339, 347, 355, 363, 371, 380, 389, 397, 405])) (len := 139) (pc2 := 316) (lv2 := [(3, .int r3), (2, .int r2), (0, .ref 42), (1, .int x1)]) (st2 := []) (h2 := (sh_rep m.T (sh_u2 m.I 41 13 ((m.I 41 13) + 1)) m.J)) rfl rfl (sh_sw c rfl) ?_
          refine sh_w (i := (.aload_n 0)) (len := 1) (pc2 := 317) (lv2 := [(3, .int r3), (2, .int r2), (0, .ref 42), (1, .int x1)]) (st2 := [.ref 42]) (h2 := (sh_rep m.T (sh_u2 m.I 41 13 ((m.I 41 13) + 1)) m.J)) rfl rfl rfl ?_
          refine sh_w (i := (.iload_n 2)) (len := 1) (pc2 := 318) (lv2 := [(3, .int r3), (2, .int r2), (0, .ref 42), (1, .int x1)]) (st2 := [.int r2, .ref 42]) (h2 := (sh_rep m.T (sh_u2 m.I 41 13 ((m.I 41 13) + 1)) m.J)) rfl rfl rfl ?_
          exact kk
        rcases sh_bt_e e with ⟨m27, e17, rfl⟩ | ⟨r17, m27, e17, e⟩
        · obtain ⟨rfl, rfl⟩ := tg
          exact sh_Lk_tV (k2 := 153) (a := 41) (as := [.ref 42, .int r2]) (rest := []) rfl rfl rfl (fun hT => (sh_s41 hT.st)) rfl rfl ⟨Nat.le_of_ble_eq_true rfl, Nat.le_of_ble_eq_true rfl⟩ (sl_153 e17 ⟨rfl, rfl⟩) rfl (Nat.le_of_ble_eq_true rfl) (Nat.le_of_ble_eq_true rfl) (Nat.le_of_ble_eq_true rfl) (Nat.le_of_ble_eq_true rfl) rfl
        refine sh_Lk_cV (r := none) (st2 := []) (pc2 := 321) (k2 := 153) (a := 41) (as := [.ref 42, .int r2]) (rest := []) rfl rfl rfl (fun hT => (sh_s41 hT.st)) rfl rfl ⟨Nat.le_of_ble_eq_true rfl, Nat.le_of_ble_eq_true rfl⟩ (sl_153 e17 ⟨rfl, rfl⟩) rfl rfl (Nat.le_of_ble_eq_true rfl) (Nat.le_of_ble_eq_true rfl) ?_
        refine sh_Lk_lift (T := m27.T) (I := m27.I) (J := m27.J) (s := m27.s) (pc2 := 490) (lv2 := [(3, .int r3), (2, .int r2), (0, .ref 42), (1, .int x1)]) (st2 := []) (I2 := m27.I) (J2 := m27.J) (fun hT v kk => ?_) ?_
        · refine sh_w (i := (.goto 169)) (len := 3) (pc2 := 490) (lv2 := [(3, .int r3), (2, .int r2), (0, .ref 42), (1, .int x1)]) (st2 := []) (h2 := (sh_rep m27.T m27.I m27.J)) rfl rfl rfl ?_
          exact kk
        exact sh_Lk_sub (sh_sub_c rfl (sh_sub_c rfl (sh_sub_n))) (sl_78_490 e tg)
      rcases sh_ite e with ⟨c, e⟩ | ⟨c13, e⟩
      · refine sh_Lk_lift (T := m.T) (I := sh_u2 m.I 41 13 ((m.I 41 13) + 1)) (J := m.J) (s := m.s) (pc2 := 326) (lv2 := [(3, .int r3), (2, .int r2), (0, .ref 42), (1, .int x1)]) (st2 := [.int r2, .ref 42]) (I2 := sh_u2 m.I 41 13 ((m.I 41 13) + 1)) (J2 := m.J) (fun hT v kk => ?_) ?_
        · refine sh_w (i := (.tableswitch 413 0 30 #[139, 148, 156, 164, 172, 181, 190, 199, 207, 214, 221, 230, 239, 247, 255, 264, 273, 282, 290, 298, 317, 331, 339, 347, 355, 363, 371, 380, 389, 397, 405])) (len := 139) (pc2 := 324) (lv2 := [(3, .int r3), (2, .int r2), (0, .ref 42), (1, .int x1)]) (st2 := []) (h2 := (sh_rep m.T (sh_u2 m.I 41 13 ((m.I 41 13) + 1)) m.J)) rfl rfl (sh_sw c rfl) ?_
          refine sh_w (i := (.aload_n 0)) (len := 1) (pc2 := 325) (lv2 := [(3, .int r3), (2, .int r2), (0, .ref 42), (1, .int x1)]) (st2 := [.ref 42]) (h2 := (sh_rep m.T (sh_u2 m.I 41 13 ((m.I 41 13) + 1)) m.J)) rfl rfl rfl ?_
          refine sh_w (i := (.iload_n 2)) (len := 1) (pc2 := 326) (lv2 := [(3, .int r3), (2, .int r2), (0, .ref 42), (1, .int x1)]) (st2 := [.int r2, .ref 42]) (h2 := (sh_rep m.T (sh_u2 m.I 41 13 ((m.I 41 13) + 1)) m.J)) rfl rfl rfl ?_
          exact kk
        rcases sh_bt_e e with ⟨m28, e18, rfl⟩ | ⟨r18, m28, e18, e⟩
        · obtain ⟨rfl, rfl⟩ := tg
          exact sh_Lk_tV (k2 := 154) (a := 41) (as := [.ref 42, .int r2]) (rest := []) rfl rfl rfl (fun hT => (sh_s41 hT.st)) rfl rfl ⟨Nat.le_of_ble_eq_true rfl, Nat.le_of_ble_eq_true rfl⟩ (sl_154 e18 ⟨rfl, rfl⟩) rfl (Nat.le_of_ble_eq_true rfl) (Nat.le_of_ble_eq_true rfl) (Nat.le_of_ble_eq_true rfl) (Nat.le_of_ble_eq_true rfl) rfl
        refine sh_Lk_cV (r := none) (st2 := []) (pc2 := 329) (k2 := 154) (a := 41) (as := [.ref 42, .int r2]) (rest := []) rfl rfl rfl (fun hT => (sh_s41 hT.st)) rfl rfl ⟨Nat.le_of_ble_eq_true rfl, Nat.le_of_ble_eq_true rfl⟩ (sl_154 e18 ⟨rfl, rfl⟩) rfl rfl (Nat.le_of_ble_eq_true rfl) (Nat.le_of_ble_eq_true rfl) ?_
        refine sh_Lk_lift (T := m28.T) (I := m28.I) (J := m28.J) (s := m28.s) (pc2 := 490) (lv2 := [(3, .int r3), (2, .int r2), (0, .ref 42), (1, .int x1)]) (st2 := []) (I2 := m28.I) (J2 := m28.J) (fun hT v kk => ?_) ?_
        · refine sh_w (i := (.goto 161)) (len := 3) (pc2 := 490) (lv2 := [(3, .int r3), (2, .int r2), (0, .ref 42), (1, .int x1)]) (st2 := []) (h2 := (sh_rep m28.T m28.I m28.J)) rfl rfl rfl ?_
          exact kk
        exact sh_Lk_sub (sh_sub_c rfl (sh_sub_c rfl (sh_sub_n))) (sl_78_490 e tg)
      rcases sh_ite e with ⟨c, e⟩ | ⟨c14, e⟩
      · refine sh_Lk_lift (T := m.T) (I := sh_u2 m.I 41 13 ((m.I 41 13) + 1)) (J := m.J) (s := m.s) (pc2 := 335) (lv2 := [(3, .int r3), (2, .int r2), (0, .ref 42), (1, .int x1)]) (st2 := [.int r3, .int r2, .ref 42]) (I2 := sh_u2 m.I 41 13 ((m.I 41 13) + 1)) (J2 := m.J) (fun hT v kk => ?_) ?_
        · refine sh_w (i := (.tableswitch 413 0 30 #[139, 148, 156, 164, 172, 181, 190, 199, 207, 214, 221, 230, 239, 247, 255, 264, 273, 282, 290, 298, 317, 331, 339, 347, 355, 363, 371, 380, 389, 397, 405])) (len := 139) (pc2 := 332) (lv2 := [(3, .int r3), (2, .int r2), (0, .ref 42), (1, .int x1)]) (st2 := []) (h2 := (sh_rep m.T (sh_u2 m.I 41 13 ((m.I 41 13) + 1)) m.J)) rfl rfl (sh_sw c rfl) ?_
          refine sh_w (i := (.aload_n 0)) (len := 1) (pc2 := 333) (lv2 := [(3, .int r3), (2, .int r2), (0, .ref 42), (1, .int x1)]) (st2 := [.ref 42]) (h2 := (sh_rep m.T (sh_u2 m.I 41 13 ((m.I 41 13) + 1)) m.J)) rfl rfl rfl ?_
          refine sh_w (i := (.iload_n 2)) (len := 1) (pc2 := 334) (lv2 := [(3, .int r3), (2, .int r2), (0, .ref 42), (1, .int x1)]) (st2 := [.int r2, .ref 42]) (h2 := (sh_rep m.T (sh_u2 m.I 41 13 ((m.I 41 13) + 1)) m.J)) rfl rfl rfl ?_
          refine sh_w (i := (.iload_n 3)) (len := 1) (pc2 := 335) (lv2 := [(3, .int r3), (2, .int r2), (0, .ref 42), (1, .int x1)]) (st2 := [.int r3, .int r2, .ref 42]) (h2 := (sh_rep m.T (sh_u2 m.I 41 13 ((m.I 41 13) + 1)) m.J)) rfl rfl rfl ?_
          exact kk
        rcases sh_bt_e e with ⟨m29, e19, rfl⟩ | ⟨r19, m29, e19, e⟩
        · obtain ⟨rfl, rfl⟩ := tg
          exact sh_Lk_tV (k2 := 155) (a := 41) (as := [.ref 42, .int r2, .int r3]) (rest := []) rfl rfl rfl (fun hT => (sh_s41 hT.st)) rfl rfl ⟨Nat.le_of_ble_eq_true rfl, Nat.le_of_ble_eq_true rfl⟩ (sl_155 e19 ⟨rfl, rfl⟩) rfl (Nat.le_of_ble_eq_true rfl) (Nat.le_of_ble_eq_true rfl) (Nat.le_of_ble_eq_true rfl) (Nat.le_of_ble_eq_true rfl) rfl
        refine sh_Lk_cV (r := none) (st2 := []) (pc2 := 338) (k2 := 155) (a := 41) (as := [.ref 42, .int r2, .int r3]) (rest := []) rfl rfl rfl (fun hT => (sh_s41 hT.st)) rfl rfl ⟨Nat.le_of_ble_eq_true rfl, Nat.le_of_ble_eq_true rfl⟩ (sl_155 e19 ⟨rfl, rfl⟩) rfl rfl (Nat.le_of_ble_eq_true rfl) (Nat.le_of_ble_eq_true rfl) ?_
        refine sh_Lk_lift (T := m29.T) (I := m29.I) (J := m29.J) (s := m29.s) (pc2 := 490) (lv2 := [(3, .int r3), (2, .int r2), (0, .ref 42), (1, .int x1)]) (st2 := []) (I2 := m29.I) (J2 := m29.J) (fun hT v kk => ?_) ?_
        · refine sh_w (i := (.goto 152)) (len := 3) (pc2 := 490) (lv2 := [(3, .int r3), (2, .int r2), (0, .ref 42), (1, .int x1)]) (st2 := []) (h2 := (sh_rep m29.T m29.I m29.J)) rfl rfl rfl ?_
          exact kk
        exact sh_Lk_sub (sh_sub_c rfl (sh_sub_c rfl (sh_sub_n))) (sl_78_490 e tg)
      rcases sh_ite e with ⟨c, e⟩ | ⟨c15, e⟩
      · refine sh_Lk_lift (T := m.T) (I := sh_u2 m.I 41 13 ((m.I 41 13) + 1)) (J := m.J) (s := m.s) (pc2 := 344) (lv2 := [(3, .int r3), (2, .int r2), (0, .ref 42), (1, .int x1)]) (st2 := [.int r3, .int r2, .ref 42]) (I2 := sh_u2 m.I 41 13 ((m.I 41 13) + 1)) (J2 := m.J) (fun hT v kk => ?_) ?_
        · refine sh_w (i := (.tableswitch 413 0 30 #[139, 148, 156, 164, 172, 181, 190, 199, 207, 214, 221, 230, 239, 247, 255, 264, 273, 282, 290, 298, 317, 331, 339, 347, 355, 363, 371, 380, 389, 397, 405])) (len := 139) (pc2 := 341) (lv2 := [(3, .int r3), (2, .int r2), (0, .ref 42), (1, .int x1)]) (st2 := []) (h2 := (sh_rep m.T (sh_u2 m.I 41 13 ((m.I 41 13) + 1)) m.J)) rfl rfl (sh_sw c rfl) ?_
          refine sh_w (i := (.aload_n 0)) (len := 1) (pc2 := 342) (lv2 := [(3, .int r3), (2, .int r2), (0, .ref 42), (1, .int x1)]) (st2 := [.ref 42]) (h2 := (sh_rep m.T (sh_u2 m.I 41 13 ((m.I 41 13) + 1)) m.J)) rfl rfl rfl ?_
          refine sh_w (i := (.iload_n 2)) (len := 1) (pc2 := 343) (lv2 := [(3, .int r3), (2, .int r2), (0, .ref 42), (1, .int x1)]) (st2 := [.int r2, .ref 42]) (h2 := (sh_rep m.T (sh_u2 m.I 41 13 ((m.I 41 13) + 1)) m.J)) rfl rfl rfl ?_
          refine sh_w (i := (.iload_n 3)) (len := 1) (pc2 := 344) (lv2 := [(3, .int r3), (2, .int r2), (0, .ref 42), (1, .int x1)]) (st2 := [.int r3, .int r2, .ref 42]) (h2 := (sh_rep m.T (sh_u2 m.I 41 13 ((m.I 41 13) + 1)) m.J)) rfl rfl rfl ?_
          exact kk
        rcases sh_bt_e e with ⟨m30, e20, rfl⟩ | ⟨r20, m30, e20, e⟩
        · obtain ⟨rfl, rfl⟩ := tg
          exact sh_Lk_tV (k2 := 157) (a := 41) (as := [.ref 42, .int r2, .int r3]) (rest := []) rfl rfl rfl (fun hT => (sh_s41 hT.st)) rfl rfl ⟨Nat.le_of_ble_eq_true rfl, Nat.le_of_ble_eq_true rfl⟩ (sl_157 e20 ⟨rfl, rfl⟩) rfl (Nat.le_of_ble_eq_true rfl) (Nat.le_of_ble_eq_true rfl) (Nat.le_of_ble_eq_true rfl) (Nat.le_of_ble_eq_true rfl) rfl
        refine sh_Lk_cV (r := none) (st2 := []) (pc2 := 347) (k2 := 157) (a := 41) (as := [.ref 42, .int r2, .int r3]) (rest := []) rfl rfl rfl (fun hT => (sh_s41 hT.st)) rfl rfl ⟨Nat.le_of_ble_eq_true rfl, Nat.le_of_ble_eq_true rfl⟩ (sl_157 e20 ⟨rfl, rfl⟩) rfl rfl (Nat.le_of_ble_eq_true rfl) (Nat.le_of_ble_eq_true rfl) ?_
        refine sh_Lk_lift (T := m30.T) (I := m30.I) (J := m30.J) (s := m30.s) (pc2 := 490) (lv2 := [(3, .int r3), (2, .int r2), (0, .ref 42), (1, .int x1)]) (st2 := []) (I2 := m30.I) (J2 := m30.J) (fun hT v kk => ?_) ?_
        · refine sh_w (i := (.goto 143)) (len := 3) (pc2 := 490) (lv2 := [(3, .int r3), (2, .int r2), (0, .ref 42), (1, .int x1)]) (st2 := []) (h2 := (sh_rep m30.T m30.I m30.J)) rfl rfl rfl ?_
          exact kk
        exact sh_Lk_sub (sh_sub_c rfl (sh_sub_c rfl (sh_sub_n))) (sl_78_490 e tg)
      rcases sh_ite e with ⟨c, e⟩ | ⟨c16, e⟩
      · refine sh_Lk_lift (T := m.T) (I := sh_u2 m.I 41 13 ((m.I 41 13) + 1)) (J := m.J) (s := m.s) (pc2 := 353) (lv2 := [(3, .int r3), (2, .int r2), (0, .ref 42), (1, .int x1)]) (st2 := [.int r3, .int r2, .ref 42]) (I2 := sh_u2 m.I 41 13 ((m.I 41 13) + 1)) (J2 := m.J) (fun hT v kk => ?_) ?_
        · refine sh_w (i := (.tableswitch 413 0 30 #[139, 148, 156, 164, 172, 181, 190, 199, 207, 214, 221, 230, 239, 247, 255, 264, 273, 282, 290, 298, 317, 331, 339, 347, 355, 363, 371, 380, 389, 397, 405])) (len := 139) (pc2 := 350) (lv2 := [(3, .int r3), (2, .int r2), (0, .ref 42), (1, .int x1)]) (st2 := []) (h2 := (sh_rep m.T (sh_u2 m.I 41 13 ((m.I 41 13) + 1)) m.J)) rfl rfl (sh_sw c rfl) ?_
          refine sh_w (i := (.aload_n 0)) (len := 1) (pc2 := 351) (lv2 := [(3, .int r3), (2, .int r2), (0, .ref 42), (1, .int x1)]) (st2 := [.ref 42]) (h2 := (sh_rep m.T (sh_u2 m.I 41 13 ((m.I 41 13) + 1)) m.J)) rfl rfl rfl ?_
          refine sh_w (i := (.iload_n 2)) (len := 1) (pc2 := 352) (lv2 := [(3, .int r3), (2, .int r2), (0, .ref 42), (1, .int x1)]) (st2 := [.int r2, .ref 42]) (h2 := (sh_rep m.T (sh_u2 m.I 41 13 ((m.I 41 13) + 1)) m.J)) rfl rfl rfl ?_
          refine sh_w (i := (.iload_n 3)) (len := 1) (pc2 := 353) (lv2 := [(3, .int r3), (2, .int r2), (0, .ref 42), (1, .int x1)]) (st2 := [.int r3, .int r2, .ref 42]) (h2 := (sh_rep m.T (sh_u2 m.I 41 13 ((m.I 41 13) + 1)) m.J)) rfl rfl rfl ?_
          exact kk
        rcases sh_bt_e e with ⟨m31, e21, rfl⟩ | ⟨r21, m31, e21, e⟩
        · obtain ⟨rfl, rfl⟩ := tg
          exact sh_Lk_tV (k2 := 159) (a := 41) (as := [.ref 42, .int r2, .int r3]) (rest := []) rfl rfl rfl (fun hT => (sh_s41 hT.st)) rfl rfl ⟨Nat.le_of_ble_eq_true rfl, Nat.le_of_ble_eq_true rfl⟩ (sl_159 e21 ⟨rfl, rfl⟩) rfl (Nat.le_of_ble_eq_true rfl) (Nat.le_of_ble_eq_true rfl) (Nat.le_of_ble_eq_true rfl) (Nat.le_of_ble_eq_true rfl) rfl
        refine sh_Lk_cV (r := none) (st2 := []) (pc2 := 356) (k2 := 159) (a := 41) (as := [.ref 42, .int r2, .int r3]) (rest := []) rfl rfl rfl (fun hT => (sh_s41 hT.st)) rfl rfl ⟨Nat.le_of_ble_eq_true rfl, Nat.le_of_ble_eq_true rfl⟩ (sl_159 e21 ⟨rfl, rfl⟩) rfl rfl (Nat.le_of_ble_eq_true rfl) (Nat.le_of_ble_eq_true rfl) ?_
        refine sh_Lk_lift (T := m31.T) (I := m31.I) (J := m31.J) (s := m31.s) (pc2 := 490) (lv2 := [(3, .int r3), (2, .int r2), (0, .ref 42), (1, .int x1)]) (st2 := []) (I2 := m31.I) (J2 := m31.J) (fun hT v kk => ?_) ?_
        · refine sh_w (i := (.goto 134)) (len := 3) (pc2 := 490) (lv2 := [(3, .int r3), (2, .int r2), (0, .ref 42), (1, .int x1)]) (st2 := []) (h2 := (sh_rep m31.T m31.I m31.J)) rfl rfl rfl ?_
          exact kk
        exact sh_Lk_sub (sh_sub_c rfl (sh_sub_c rfl (sh_sub_n))) (sl_78_490 e tg)
      rcases sh_ite e with ⟨c, e⟩ | ⟨c17, e⟩
      · refine sh_Lk_lift (T := m.T) (I := sh_u2 m.I 41 13 ((m.I 41 13) + 1)) (J := m.J) (s := m.s) (pc2 := 361) (lv2 := [(3, .int r3), (2, .int r2), (0, .ref 42), (1, .int x1)]) (st2 := [.int r3, .ref 42]) (I2 := sh_u2 m.I 41 13 ((m.I 41 13) + 1)) (J2 := m.J) (fun hT v kk => ?_) ?_
        · refine sh_w (i := (.tableswitch 413 0 30 #[139, 148, 156, 164, 172, 181, 190, 199, 207, 214, 221, 230, 239, 247, 255, 264, 273, 282, 290, 298, 317, 331, 339, 347, 355, 363, 371, 380, 389, 397, 405])) (len := 139) (pc2 := 359) (lv2 := [(3, .int r3), (2, .int r2), (0, .ref 42), (1, .int x1)]) (st2 := []) (h2 := (sh_rep m.T (sh_u2 m.I 41 13 ((m.I 41 13) + 1)) m.J)) rfl rfl (sh_sw c rfl) ?_
          refine sh_w (i := (.aload_n 0)) (len := 1) (pc2 := 360) (lv2 := [(3, .int r3), (2, .int r2), (0, .ref 42), (1, .int x1)]) (st2 := [.ref 42]) (h2 := (sh_rep m.T (sh_u2 m.I 41 13 ((m.I 41 13) + 1)) m.J)) rfl rfl rfl ?_
          refine sh_w (i := (.iload_n 3)) (len := 1) (pc2 := 361) (lv2 := [(3, .int r3), (2, .int r2), (0, .ref 42), (1, .int x1)]) (st2 := [.int r3, .ref 42]) (h2 := (sh_rep m.T (sh_u2 m.I 41 13 ((m.I 41 13) + 1)) m.J)) rfl rfl rfl ?_
          exact kk
        obtain ⟨r22, m32, e22, e⟩ := sh_bn_e e
        refine sh_Lk_cV (r := none) (st2 := []) (pc2 := 364) (k2 := 160) (a := 41) (as := [.ref 42, .int r3]) (rest := []) rfl rfl rfl (fun hT => (sh_s41 hT.st)) rfl rfl ⟨Nat.le_of_ble_eq_true rfl, Nat.le_of_ble_eq_true rfl⟩ (sl_160 e22 ⟨rfl, rfl⟩) rfl rfl (Nat.le_of_ble_eq_true rfl) (Nat.le_of_ble_eq_true rfl) ?_
        refine sh_Lk_lift (T := m32.T) (I := m32.I) (J := m32.J) (s := m32.s) (pc2 := 490) (lv2 := [(3, .int r3), (2, .int r2), (0, .ref 42), (1, .int x1)]) (st2 := []) (I2 := m32.I) (J2 := m32.J) (fun hT v kk => ?_) ?_
        · refine sh_w (i := (.goto 126)) (len := 3) (pc2 := 490) (lv2 := [(3, .int r3), (2, .int r2), (0, .ref 42), (1, .int x1)]) (st2 := []) (h2 := (sh_rep m32.T m32.I m32.J)) rfl rfl rfl ?_
          exact kk
        exact sh_Lk_sub (sh_sub_c rfl (sh_sub_c rfl (sh_sub_n))) (sl_78_490 e tg)
      rcases sh_ite e with ⟨c, e⟩ | ⟨c18, e⟩
      · refine sh_Lk_lift (T := m.T) (I := sh_u2 m.I 41 13 ((m.I 41 13) + 1)) (J := m.J) (s := m.s) (pc2 := 369) (lv2 := [(3, .int r3), (2, .int r2), (0, .ref 42), (1, .int x1)]) (st2 := [.int r2, .ref 42]) (I2 := sh_u2 m.I 41 13 ((m.I 41 13) + 1)) (J2 := m.J) (fun hT v kk => ?_) ?_
        · refine sh_w (i := (.tableswitch 413 0 30 #[139, 148, 156, 164, 172, 181, 190, 199, 207, 214, 221, 230, 239, 247, 255, 264, 273, 282, 290, 298, 317, 331, 339, 347, 355, 363, 371, 380, 389, 397, 405])) (len := 139) (pc2 := 367) (lv2 := [(3, .int r3), (2, .int r2), (0, .ref 42), (1, .int x1)]) (st2 := []) (h2 := (sh_rep m.T (sh_u2 m.I 41 13 ((m.I 41 13) + 1)) m.J)) rfl rfl (sh_sw c rfl) ?_
          refine sh_w (i := (.aload_n 0)) (len := 1) (pc2 := 368) (lv2 := [(3, .int r3), (2, .int r2), (0, .ref 42), (1, .int x1)]) (st2 := [.ref 42]) (h2 := (sh_rep m.T (sh_u2 m.I 41 13 ((m.I 41 13) + 1)) m.J)) rfl rfl rfl ?_
          refine sh_w (i := (.iload_n 2)) (len := 1) (pc2 := 369) (lv2 := [(3, .int r3), (2, .int r2), (0, .ref 42), (1, .int x1)]) (st2 := [.int r2, .ref 42]) (h2 := (sh_rep m.T (sh_u2 m.I 41 13 ((m.I 41 13) + 1)) m.J)) rfl rfl rfl ?_
          exact kk
        rcases sh_bt_e e with ⟨m33, e23, rfl⟩ | ⟨r23, m33, e23, e⟩
        · obtain ⟨rfl, rfl⟩ := tg
          exact sh_Lk_tV (k2 := 161) (a := 41) (as := [.ref 42, .int r2]) (rest := []) rfl rfl rfl (fun hT => (sh_s41 hT.st)) rfl rfl ⟨Nat.le_of_ble_eq_true rfl, Nat.le_of_ble_eq_true rfl⟩ (sl_161 e23 ⟨rfl, rfl⟩) rfl (Nat.le_of_ble_eq_true rfl) (Nat.le_of_ble_eq_true rfl) (Nat.le_of_ble_eq_true rfl) (Nat.le_of_ble_eq_true rfl) rfl
        refine sh_Lk_cV (r := none) (st2 := []) (pc2 := 372) (k2 := 161) (a := 41) (as := [.ref 42, .int r2]) (rest := []) rfl rfl rfl (fun hT => (sh_s41 hT.st)) rfl rfl ⟨Nat.le_of_ble_eq_true rfl, Nat.le_of_ble_eq_true rfl⟩ (sl_161 e23 ⟨rfl, rfl⟩) rfl rfl (Nat.le_of_ble_eq_true rfl) (Nat.le_of_ble_eq_true rfl) ?_
        refine sh_Lk_lift (T := m33.T) (I := m33.I) (J := m33.J) (s := m33.s) (pc2 := 490) (lv2 := [(3, .int r3), (2, .int r2), (0, .ref 42), (1, .int x1)]) (st2 := []) (I2 := m33.I) (J2 := m33.J) (fun hT v kk => ?_) ?_
        · refine sh_w (i := (.goto 118)) (len := 3) (pc2 := 490) (lv2 := [(3, .int r3), (2, .int r2), (0, .ref 42), (1, .int x1)]) (st2 := []) (h2 := (sh_rep m33.T m33.I m33.J)) rfl rfl rfl ?_
          exact kk
        exact sh_Lk_sub (sh_sub_c rfl (sh_sub_c rfl (sh_sub_n))) (sl_78_490 e tg)
      rcases sh_ite e with ⟨c, e⟩ | ⟨c19, e⟩
      · refine sh_Lk_lift (T := m.T) (I := sh_u2 m.I 41 13 ((m.I 41 13) + 1)) (J := m.J) (s := m.s) (pc2 := 384) (lv2 := [(3, .int r3), (2, .int r2), (0, .ref 42), (1, .int x1)]) (st2 := [.int r2, .ref 3, .ref 49]) (I2 := sh_u2 m.I 41 13 ((m.I 41 13) + 1)) (J2 := m.J) (fun hT v kk => ?_) ?_
        · refine sh_w (i := (.tableswitch 413 0 30 #[139, 148, 156, 164, 172, 181, 190, 199, 207, 214, 221, 230, 239, 247, 255, 264, 273, 282, 290, 298, 317, 331, 339, 347, 355, 363, 371, 380, 389, 397, 405])) (len := 139) (pc2 := 375) (lv2 := [(3, .int r3), (2, .int r2), (0, .ref 42), (1, .int x1)]) (st2 := []) (h2 := (sh_rep m.T (sh_u2 m.I 41 13 ((m.I 41 13) + 1)) m.J)) rfl rfl (sh_sw c rfl) ?_
          refine sh_w (i := (.aload_n 0)) (len := 1) (pc2 := 376) (lv2 := [(3, .int r3), (2, .int r2), (0, .ref 42), (1, .int x1)]) (st2 := [.ref 42]) (h2 := (sh_rep m.T (sh_u2 m.I 41 13 ((m.I 41 13) + 1)) m.J)) rfl rfl rfl ?_
          refine sh_gR1 (len := 3) (x := .ref 49) (pc2 := 379) rfl rfl (sh_s41 hT.st) rfl rfl ?_
          refine sh_w (i := (.aload_n 0)) (len := 1) (pc2 := 380) (lv2 := [(3, .int r3), (2, .int r2), (0, .ref 42), (1, .int x1)]) (st2 := [.ref 42, .ref 49]) (h2 := (sh_rep m.T (sh_u2 m.I 41 13 ((m.I 41 13) + 1)) m.J)) rfl rfl rfl ?_
          refine sh_gR1 (len := 3) (x := .ref 3) (pc2 := 383) rfl rfl (sh_s41 hT.st) rfl rfl ?_
          refine sh_w (i := (.iload_n 2)) (len := 1) (pc2 := 384) (lv2 := [(3, .int r3), (2, .int r2), (0, .ref 42), (1, .int x1)]) (st2 := [.int r2, .ref 3, .ref 49]) (h2 := (sh_rep m.T (sh_u2 m.I 41 13 ((m.I 41 13) + 1)) m.J)) rfl rfl rfl ?_
          exact kk
        obtain ⟨r24, e24, e⟩ := sh_bc_e e
        refine sh_Lk_cV (r := (some (.long r24))) (st2 := [.long r24, .ref 49]) (pc2 := 387) (k2 := 66) (a := 2) (as := [.ref 3, .int r2]) (rest := [.ref 49]) rfl rfl rfl (fun hT => hT.t2) rfl rfl ⟨Nat.le_of_ble_eq_true rfl, Nat.le_of_ble_eq_true rfl⟩ (sl_66 e24 ⟨rfl, rfl⟩) rfl rfl (Nat.le_of_ble_eq_true rfl) (Nat.le_of_ble_eq_true rfl) ?_
        refine sh_Lk_lift (T := m.T) (I := sh_u2 m.I 41 13 ((m.I 41 13) + 1)) (J := m.J) (s := m.s) (pc2 := 388) (lv2 := [(3, .int r3), (2, .int r2), (0, .ref 42), (1, .int x1)]) (st2 := [.int r2, .long r24, .ref 49]) (I2 := sh_u2 m.I 41 13 ((m.I 41 13) + 1)) (J2 := m.J) (fun hT v kk => ?_) ?_
        · refine sh_w (i := (.iload_n 2)) (len := 1) (pc2 := 388) (lv2 := [(3, .int r3), (2, .int r2), (0, .ref 42), (1, .int x1)]) (st2 := [.int r2, .long r24, .ref 49]) (h2 := (sh_rep m.T (sh_u2 m.I 41 13 ((m.I 41 13) + 1)) m.J)) rfl rfl rfl ?_
          exact kk
        obtain ⟨r25, m35, e25, e⟩ := sh_bn_e e
        refine sh_Lk_cV (r := none) (st2 := []) (pc2 := 391) (k2 := 162) (a := 48) (as := [.ref 49, .long r24, .int r2]) (rest := []) rfl rfl rfl (fun hT => (sh_s48 hT.st)) rfl rfl ⟨Nat.le_of_ble_eq_true rfl, Nat.le_of_ble_eq_true rfl⟩ (sl_162 e25 ⟨rfl, rfl⟩) rfl rfl (Nat.le_of_ble_eq_true rfl) (Nat.le_of_ble_eq_true rfl) ?_
        refine sh_Lk_lift (T := m35.T) (I := m35.I) (J := m35.J) (s := m35.s) (pc2 := 490) (lv2 := [(3, .int r3), (2, .int r2), (0, .ref 42), (1, .int x1)]) (st2 := []) (I2 := m35.I) (J2 := m35.J) (fun hT v kk => ?_) ?_
        · refine sh_w (i := (.goto 99)) (len := 3) (pc2 := 490) (lv2 := [(3, .int r3), (2, .int r2), (0, .ref 42), (1, .int x1)]) (st2 := []) (h2 := (sh_rep m35.T m35.I m35.J)) rfl rfl rfl ?_
          exact kk
        exact sh_Lk_sub (sh_sub_c rfl (sh_sub_c rfl (sh_sub_n))) (sl_78_490 e tg)
      rcases sh_ite e with ⟨c, e⟩ | ⟨c20, e⟩
      · refine sh_Lk_lift (T := m.T) (I := sh_u2 m.I 41 13 ((m.I 41 13) + 1)) (J := m.J) (s := m.s) (pc2 := 402) (lv2 := [(3, .int r3), (2, .int r2), (0, .ref 42), (1, .int x1)]) (st2 := [.int r3, .int 257, .ref 49]) (I2 := sh_u2 m.I 41 13 ((m.I 41 13) + 1)) (J2 := m.J) (fun hT v kk => ?_) ?_
        · refine sh_w (i := (.tableswitch 413 0 30 #[139, 148, 156, 164, 172, 181, 190, 199, 207, 214, 221, 230, 239, 247, 255, 264, 273, 282, 290, 298, 317, 331, 339, 347, 355, 363, 371, 380, 389, 397, 405])) (len := 139) (pc2 := 394) (lv2 := [(3, .int r3), (2, .int r2), (0, .ref 42), (1, .int x1)]) (st2 := []) (h2 := (sh_rep m.T (sh_u2 m.I 41 13 ((m.I 41 13) + 1)) m.J)) rfl rfl (sh_sw c rfl) ?_
          refine sh_w (i := (.aload_n 0)) (len := 1) (pc2 := 395) (lv2 := [(3, .int r3), (2, .int r2), (0, .ref 42), (1, .int x1)]) (st2 := [.ref 42]) (h2 := (sh_rep m.T (sh_u2 m.I 41 13 ((m.I 41 13) + 1)) m.J)) rfl rfl rfl ?_
          refine sh_gR1 (len := 3) (x := .ref 49) (pc2 := 398) rfl rfl (sh_s41 hT.st) rfl rfl ?_
          refine sh_w (i := (.sipush 257)) (len := 3) (pc2 := 401) (lv2 := [(3, .int r3), (2, .int r2), (0, .ref 42), (1, .int x1)]) (st2 := [.int 257, .ref 49]) (h2 := (sh_rep m.T (sh_u2 m.I 41 13 ((m.I 41 13) + 1)) m.J)) rfl rfl rfl ?_
          refine sh_w (i := (.iload_n 3)) (len := 1) (pc2 := 402) (lv2 := [(3, .int r3), (2, .int r2), (0, .ref 42), (1, .int x1)]) (st2 := [.int r3, .int 257, .ref 49]) (h2 := (sh_rep m.T (sh_u2 m.I 41 13 ((m.I 41 13) + 1)) m.J)) rfl rfl rfl ?_
          exact kk
        obtain ⟨r26, m36, e26, e⟩ := sh_bn_e e
        refine sh_Lk_cV (r := none) (st2 := []) (pc2 := 405) (k2 := 163) (a := 48) (as := [.ref 49, .int 257, .int r3]) (rest := []) rfl rfl rfl (fun hT => (sh_s48 hT.st)) rfl rfl ⟨Nat.le_of_ble_eq_true rfl, Nat.le_of_ble_eq_true rfl⟩ (sl_163 e26 ⟨rfl, rfl⟩) rfl rfl (Nat.le_of_ble_eq_true rfl) (Nat.le_of_ble_eq_true rfl) ?_
        refine sh_Lk_lift (T := m36.T) (I := m36.I) (J := m36.J) (s := m36.s) (pc2 := 490) (lv2 := [(3, .int r3), (2, .int r2), (0, .ref 42), (1, .int x1)]) (st2 := []) (I2 := m36.I) (J2 := m36.J) (fun hT v kk => ?_) ?_
        · refine sh_w (i := (.goto 85)) (len := 3) (pc2 := 490) (lv2 := [(3, .int r3), (2, .int r2), (0, .ref 42), (1, .int x1)]) (st2 := []) (h2 := (sh_rep m36.T m36.I m36.J)) rfl rfl rfl ?_
          exact kk
        exact sh_Lk_sub (sh_sub_c rfl (sh_sub_c rfl (sh_sub_n))) (sl_78_490 e tg)
      rcases sh_ite e with ⟨c, e⟩ | ⟨c21, e⟩
      · refine sh_Lk_lift (T := m.T) (I := sh_u2 m.I 41 13 ((m.I 41 13) + 1)) (J := m.J) (s := m.s) (pc2 := 410) (lv2 := [(3, .int r3), (2, .int r2), (0, .ref 42), (1, .int x1)]) (st2 := [.int r2, .ref 42]) (I2 := sh_u2 m.I 41 13 ((m.I 41 13) + 1)) (J2 := m.J) (fun hT v kk => ?_) ?_
        · refine sh_w (i := (.tableswitch 413 0 30 #[139, 148, 156, 164, 172, 181, 190, 199, 207, 214, 221, 230, 239, 247, 255, 264, 273, 282, 290, 298, 317, 331, 339, 347, 355, 363, 371, 380, 389, 397, 405])) (len := 139) (pc2 := 408) (lv2 := [(3, .int r3), (2, .int r2), (0, .ref 42), (1, .int x1)]) (st2 := []) (h2 := (sh_rep m.T (sh_u2 m.I 41 13 ((m.I 41 13) + 1)) m.J)) rfl rfl (sh_sw c rfl) ?_
          refine sh_w (i := (.aload_n 0)) (len := 1) (pc2 := 409) (lv2 := [(3, .int r3), (2, .int r2), (0, .ref 42), (1, .int x1)]) (st2 := [.ref 42]) (h2 := (sh_rep m.T (sh_u2 m.I 41 13 ((m.I 41 13) + 1)) m.J)) rfl rfl rfl ?_
          refine sh_w (i := (.iload_n 2)) (len := 1) (pc2 := 410) (lv2 := [(3, .int r3), (2, .int r2), (0, .ref 42), (1, .int x1)]) (st2 := [.int r2, .ref 42]) (h2 := (sh_rep m.T (sh_u2 m.I 41 13 ((m.I 41 13) + 1)) m.J)) rfl rfl rfl ?_
          exact kk
        rcases sh_bt_e e with ⟨m37, e27, rfl⟩ | ⟨r27, m37, e27, e⟩
        · obtain ⟨rfl, rfl⟩ := tg
          exact sh_Lk_tV (k2 := 164) (a := 41) (as := [.ref 42, .int r2]) (rest := []) rfl rfl rfl (fun hT => (sh_s41 hT.st)) rfl rfl ⟨Nat.le_of_ble_eq_true rfl, Nat.le_of_ble_eq_true rfl⟩ (sl_164 e27 ⟨rfl, rfl⟩) rfl (Nat.le_of_ble_eq_true rfl) (Nat.le_of_ble_eq_true rfl) (Nat.le_of_ble_eq_true rfl) (Nat.le_of_ble_eq_true rfl) rfl
        refine sh_Lk_cV (r := none) (st2 := []) (pc2 := 413) (k2 := 164) (a := 41) (as := [.ref 42, .int r2]) (rest := []) rfl rfl rfl (fun hT => (sh_s41 hT.st)) rfl rfl ⟨Nat.le_of_ble_eq_true rfl, Nat.le_of_ble_eq_true rfl⟩ (sl_164 e27 ⟨rfl, rfl⟩) rfl rfl (Nat.le_of_ble_eq_true rfl) (Nat.le_of_ble_eq_true rfl) ?_
        refine sh_Lk_lift (T := m37.T) (I := m37.I) (J := m37.J) (s := m37.s) (pc2 := 490) (lv2 := [(3, .int r3), (2, .int r2), (0, .ref 42), (1, .int x1)]) (st2 := []) (I2 := m37.I) (J2 := m37.J) (fun hT v kk => ?_) ?_
        · refine sh_w (i := (.goto 77)) (len := 3) (pc2 := 490) (lv2 := [(3, .int r3), (2, .int r2), (0, .ref 42), (1, .int x1)]) (st2 := []) (h2 := (sh_rep m37.T m37.I m37.J)) rfl rfl rfl ?_
          exact kk
        exact sh_Lk_sub (sh_sub_c rfl (sh_sub_c rfl (sh_sub_n))) (sl_78_490 e tg)
      rcases sh_ite e with ⟨c, e⟩ | ⟨c22, e⟩
      · refine sh_Lk_lift (T := m.T) (I := sh_u2 m.I 41 13 ((m.I 41 13) + 1)) (J := m.J) (s := m.s) (pc2 := 418) (lv2 := [(3, .int r3), (2, .int r2), (0, .ref 42), (1, .int x1)]) (st2 := [.int r2, .ref 42]) (I2 := sh_u2 m.I 41 13 ((m.I 41 13) + 1)) (J2 := m.J) (fun hT v kk => ?_) ?_
        · refine sh_w (i := (.tableswitch 413 0 30 #[139, 148, 156, 164, 172, 181, 190, 199, 207, 214, 221, 230, 239, 247, 255, 264, 273, 282, 290, 298, 317, 331, 339, 347, 355, 363, 371, 380, 389, 397, 405])) (len := 139) (pc2 := 416) (lv2 := [(3, .int r3), (2, .int r2), (0, .ref 42), (1, .int x1)]) (st2 := []) (h2 := (sh_rep m.T (sh_u2 m.I 41 13 ((m.I 41 13) + 1)) m.J)) rfl rfl (sh_sw c rfl) ?_
          refine sh_w (i := (.aload_n 0)) (len := 1) (pc2 := 417) (lv2 := [(3, .int r3), (2, .int r2), (0, .ref 42), (1, .int x1)]) (st2 := [.ref 42]) (h2 := (sh_rep m.T (sh_u2 m.I 41 13 ((m.I 41 13) + 1)) m.J)) rfl rfl rfl ?_
          refine sh_w (i := (.iload_n 2)) (len := 1) (pc2 := 418) (lv2 := [(3, .int r3), (2, .int r2), (0, .ref 42), (1, .int x1)]) (st2 := [.int r2, .ref 42]) (h2 := (sh_rep m.T (sh_u2 m.I 41 13 ((m.I 41 13) + 1)) m.J)) rfl rfl rfl ?_
          exact kk
        rcases sh_bt_e e with ⟨m38, e28, rfl⟩ | ⟨r28, m38, e28, e⟩
        · obtain ⟨rfl, rfl⟩ := tg
          exact sh_Lk_tV (k2 := 165) (a := 41) (as := [.ref 42, .int r2]) (rest := []) rfl rfl rfl (fun hT => (sh_s41 hT.st)) rfl rfl ⟨Nat.le_of_ble_eq_true rfl, Nat.le_of_ble_eq_true rfl⟩ (sl_165 e28 ⟨rfl, rfl⟩) rfl (Nat.le_of_ble_eq_true rfl) (Nat.le_of_ble_eq_true rfl) (Nat.le_of_ble_eq_true rfl) (Nat.le_of_ble_eq_true rfl) rfl
        refine sh_Lk_cV (r := none) (st2 := []) (pc2 := 421) (k2 := 165) (a := 41) (as := [.ref 42, .int r2]) (rest := []) rfl rfl rfl (fun hT => (sh_s41 hT.st)) rfl rfl ⟨Nat.le_of_ble_eq_true rfl, Nat.le_of_ble_eq_true rfl⟩ (sl_165 e28 ⟨rfl, rfl⟩) rfl rfl (Nat.le_of_ble_eq_true rfl) (Nat.le_of_ble_eq_true rfl) ?_
        refine sh_Lk_lift (T := m38.T) (I := m38.I) (J := m38.J) (s := m38.s) (pc2 := 490) (lv2 := [(3, .int r3), (2, .int r2), (0, .ref 42), (1, .int x1)]) (st2 := []) (I2 := m38.I) (J2 := m38.J) (fun hT v kk => ?_) ?_
        · refine sh_w (i := (.goto 69)) (len := 3) (pc2 := 490) (lv2 := [(3, .int r3), (2, .int r2), (0, .ref 42), (1, .int x1)]) (st2 := []) (h2 := (sh_rep m38.T m38.I m38.J)) rfl rfl rfl ?_
          exact kk
        exact sh_Lk_sub (sh_sub_c rfl (sh_sub_c rfl (sh_sub_n))) (sl_78_490 e tg)
      rcases sh_ite e with ⟨c, e⟩ | ⟨c23, e⟩
      · refine sh_Lk_lift (T := m.T) (I := sh_u2 m.I 41 13 ((m.I 41 13) + 1)) (J := m.J) (s := m.s) (pc2 := 426) (lv2 := [(3, .int r3), (2, .int r2), (0, .ref 42), (1, .int x1)]) (st2 := [.int r2, .ref 42]) (I2 := sh_u2 m.I 41 13 ((m.I 41 13) + 1)) (J2 := m.J) (fun hT v kk => ?_) ?_
        · refine sh_w (i := (.tableswitch 413 0 30 #[139, 148, 156, 164, 172, 181, 190, 199, 207, 214, 221, 230, 239, 247, 255, 264, 273, 282, 290, 298, 317, 331, 339, 347, 355, 363, 371, 380, 389, 397, 405])) (len := 139) (pc2 := 424) (lv2 := [(3, .int r3), (2, .int r2), (0, .ref 42), (1, .int x1)]) (st2 := []) (h2 := (sh_rep m.T (sh_u2 m.I 41 13 ((m.I 41 13) + 1)) m.J)) rfl rfl (sh_sw c rfl) ?_
          refine sh_w (i := (.aload_n 0)) (len := 1) (pc2 := 425) (lv2 := [(3, .int r3), (2, .int r2), (0, .ref 42), (1, .int x1)]) (st2 := [.ref 42]) (h2 := (sh_rep m.T (sh_u2 m.I 41 13 ((m.I 41 13) + 1)) m.J)) rfl rfl rfl ?_
          refine sh_w (i := (.iload_n 2)) (len := 1) (pc2 := 426) (lv2 := [(3, .int r3), (2, .int r2), (0, .ref 42), (1, .int x1)]) (st2 := [.int r2, .ref 42]) (h2 := (sh_rep m.T (sh_u2 m.I 41 13 ((m.I 41 13) + 1)) m.J)) rfl rfl rfl ?_
          exact kk
        rcases sh_bt_e e with ⟨m39, e29, rfl⟩ | ⟨r29, m39, e29, e⟩
        · obtain ⟨rfl, rfl⟩ := tg
          exact sh_Lk_tV (k2 := 168) (a := 41) (as := [.ref 42, .int r2]) (rest := []) rfl rfl rfl (fun hT => (sh_s41 hT.st)) rfl rfl ⟨Nat.le_of_ble_eq_true rfl, Nat.le_of_ble_eq_true rfl⟩ (sl_168 e29 ⟨rfl, rfl⟩) rfl (Nat.le_of_ble_eq_true rfl) (Nat.le_of_ble_eq_true rfl) (Nat.le_of_ble_eq_true rfl) (Nat.le_of_ble_eq_true rfl) rfl
        refine sh_Lk_cV (r := none) (st2 := []) (pc2 := 429) (k2 := 168) (a := 41) (as := [.ref 42, .int r2]) (rest := []) rfl rfl rfl (fun hT => (sh_s41 hT.st)) rfl rfl ⟨Nat.le_of_ble_eq_true rfl, Nat.le_of_ble_eq_true rfl⟩ (sl_168 e29 ⟨rfl, rfl⟩) rfl rfl (Nat.le_of_ble_eq_true rfl) (Nat.le_of_ble_eq_true rfl) ?_
        refine sh_Lk_lift (T := m39.T) (I := m39.I) (J := m39.J) (s := m39.s) (pc2 := 490) (lv2 := [(3, .int r3), (2, .int r2), (0, .ref 42), (1, .int x1)]) (st2 := []) (I2 := m39.I) (J2 := m39.J) (fun hT v kk => ?_) ?_
        · refine sh_w (i := (.goto 61)) (len := 3) (pc2 := 490) (lv2 := [(3, .int r3), (2, .int r2), (0, .ref 42), (1, .int x1)]) (st2 := []) (h2 := (sh_rep m39.T m39.I m39.J)) rfl rfl rfl ?_
          exact kk
        exact sh_Lk_sub (sh_sub_c rfl (sh_sub_c rfl (sh_sub_n))) (sl_78_490 e tg)
      rcases sh_ite e with ⟨c, e⟩ | ⟨c24, e⟩
      · refine sh_Lk_lift (T := m.T) (I := sh_u2 m.I 41 13 ((m.I 41 13) + 1)) (J := m.J) (s := m.s) (pc2 := 434) (lv2 := [(3, .int r3), (2, .int r2), (0, .ref 42), (1, .int x1)]) (st2 := [.int r2, .ref 42]) (I2 := sh_u2 m.I 41 13 ((m.I 41 13) + 1)) (J2 := m.J) (fun hT v kk => ?_) ?_
        · refine sh_w (i := (.tableswitch 413 0 30 #[139, 148, 156, 164, 172, 181, 190, 199, 207, 214, 221, 230, 239, 247, 255, 264, 273, 282, 290, 298, 317, 331, 339, 347, 355, 363, 371, 380, 389, 397, 405])) (len := 139) (pc2 := 432) (lv2 := [(3, .int r3), (2, .int r2), (0, .ref 42), (1, .int x1)]) (st2 := []) (h2 := (sh_rep m.T (sh_u2 m.I 41 13 ((m.I 41 13) + 1)) m.J)) rfl rfl (sh_sw c rfl) ?_
          refine sh_w (i := (.aload_n 0)) (len := 1) (pc2 := 433) (lv2 := [(3, .int r3), (2, .int r2), (0, .ref 42), (1, .int x1)]) (st2 := [.ref 42]) (h2 := (sh_rep m.T (sh_u2 m.I 41 13 ((m.I 41 13) + 1)) m.J)) rfl rfl rfl ?_
          refine sh_w (i := (.iload_n 2)) (len := 1) (pc2 := 434) (lv2 := [(3, .int r3), (2, .int r2), (0, .ref 42), (1, .int x1)]) (st2 := [.int r2, .ref 42]) (h2 := (sh_rep m.T (sh_u2 m.I 41 13 ((m.I 41 13) + 1)) m.J)) rfl rfl rfl ?_
          exact kk
        rcases sh_bt_e e with ⟨m40, e30, rfl⟩ | ⟨r30, m40, e30, e⟩
        · obtain ⟨rfl, rfl⟩ := tg
          exact sh_Lk_tV (k2 := 170) (a := 41) (as := [.ref 42, .int r2]) (rest := []) rfl rfl rfl (fun hT => (sh_s41 hT.st)) rfl rfl ⟨Nat.le_of_ble_eq_true rfl, Nat.le_of_ble_eq_true rfl⟩ (sl_170 e30 ⟨rfl, rfl⟩) rfl (Nat.le_of_ble_eq_true rfl) (Nat.le_of_ble_eq_true rfl) (Nat.le_of_ble_eq_true rfl) (Nat.le_of_ble_eq_true rfl) rfl
        refine sh_Lk_cV (r := none) (st2 := []) (pc2 := 437) (k2 := 170) (a := 41) (as := [.ref 42, .int r2]) (rest := []) rfl rfl rfl (fun hT => (sh_s41 hT.st)) rfl rfl ⟨Nat.le_of_ble_eq_true rfl, Nat.le_of_ble_eq_true rfl⟩ (sl_170 e30 ⟨rfl, rfl⟩) rfl rfl (Nat.le_of_ble_eq_true rfl) (Nat.le_of_ble_eq_true rfl) ?_
        refine sh_Lk_lift (T := m40.T) (I := m40.I) (J := m40.J) (s := m40.s) (pc2 := 490) (lv2 := [(3, .int r3), (2, .int r2), (0, .ref 42), (1, .int x1)]) (st2 := []) (I2 := m40.I) (J2 := m40.J) (fun hT v kk => ?_) ?_
        · refine sh_w (i := (.goto 53)) (len := 3) (pc2 := 490) (lv2 := [(3, .int r3), (2, .int r2), (0, .ref 42), (1, .int x1)]) (st2 := []) (h2 := (sh_rep m40.T m40.I m40.J)) rfl rfl rfl ?_
          exact kk
        exact sh_Lk_sub (sh_sub_c rfl (sh_sub_c rfl (sh_sub_n))) (sl_78_490 e tg)
      rcases sh_ite e with ⟨c, e⟩ | ⟨c25, e⟩
      · refine sh_Lk_lift (T := m.T) (I := sh_u2 m.I 41 13 ((m.I 41 13) + 1)) (J := m.J) (s := m.s) (pc2 := 442) (lv2 := [(3, .int r3), (2, .int r2), (0, .ref 42), (1, .int x1)]) (st2 := [.int r2, .ref 42]) (I2 := sh_u2 m.I 41 13 ((m.I 41 13) + 1)) (J2 := m.J) (fun hT v kk => ?_) ?_
        · refine sh_w (i := (.tableswitch 413 0 30 #[139, 148, 156, 164, 172, 181, 190, 199, 207, 214, 221, 230, 239, 247, 255, 264, 273, 282, 290, 298, 317, 331, 339, 347, 355, 363, 371, 380, 389, 397, 405])) (len := 139) (pc2 := 440) (lv2 := [(3, .int r3), (2, .int r2), (0, .ref 42), (1, .int x1)]) (st2 := []) (h2 := (sh_rep m.T (sh_u2 m.I 41 13 ((m.I 41 13) + 1)) m.J)) rfl rfl (sh_sw c rfl) ?_
          refine sh_w (i := (.aload_n 0)) (len := 1) (pc2 := 441) (lv2 := [(3, .int r3), (2, .int r2), (0, .ref 42), (1, .int x1)]) (st2 := [.ref 42]) (h2 := (sh_rep m.T (sh_u2 m.I 41 13 ((m.I 41 13) + 1)) m.J)) rfl rfl rfl ?_
          refine sh_w (i := (.iload_n 2)) (len := 1) (pc2 := 442) (lv2 := [(3, .int r3), (2, .int r2), (0, .ref 42), (1, .int x1)]) (st2 := [.int r2, .ref 42]) (h2 := (sh_rep m.T (sh_u2 m.I 41 13 ((m.I 41 13) + 1)) m.J)) rfl rfl rfl ?_
          exact kk
        rcases sh_bt_e e with ⟨m41, e31, rfl⟩ | ⟨r31, m41, e31, e⟩
        · obtain ⟨rfl, rfl⟩ := tg
          exact sh_Lk_tV (k2 := 171) (a := 41) (as := [.ref 42, .int r2]) (rest := []) rfl rfl rfl (fun hT => (sh_s41 hT.st)) rfl rfl ⟨Nat.le_of_ble_eq_true rfl, Nat.le_of_ble_eq_true rfl⟩ (sl_171 e31 ⟨rfl, rfl⟩) rfl (Nat.le_of_ble_eq_true rfl) (Nat.le_of_ble_eq_true rfl) (Nat.le_of_ble_eq_true rfl) (Nat.le_of_ble_eq_true rfl) rfl
        refine sh_Lk_cV (r := none) (st2 := []) (pc2 := 445) (k2 := 171) (a := 41) (as := [.ref 42, .int r2]) (rest := []) rfl rfl rfl (fun hT => (sh_s41 hT.st)) rfl rfl ⟨Nat.le_of_ble_eq_true rfl, Nat.le_of_ble_eq_true rfl⟩ (sl_171 e31 ⟨rfl, rfl⟩) rfl rfl (Nat.le_of_ble_eq_true rfl) (Nat.le_of_ble_eq_true rfl) ?_
        refine sh_Lk_lift (T := m41.T) (I := m41.I) (J := m41.J) (s := m41.s) (pc2 := 490) (lv2 := [(3, .int r3), (2, .int r2), (0, .ref 42), (1, .int x1)]) (st2 := []) (I2 := m41.I) (J2 := m41.J) (fun hT v kk => ?_) ?_
        · refine sh_w (i := (.goto 45)) (len := 3) (pc2 := 490) (lv2 := [(3, .int r3), (2, .int r2), (0, .ref 42), (1, .int x1)]) (st2 := []) (h2 := (sh_rep m41.T m41.I m41.J)) rfl rfl rfl ?_
          exact kk
        exact sh_Lk_sub (sh_sub_c rfl (sh_sub_c rfl (sh_sub_n))) (sl_78_490 e tg)
      rcases sh_ite e with ⟨c, e⟩ | ⟨c26, e⟩
      · refine sh_Lk_lift (T := m.T) (I := sh_u2 m.I 41 13 ((m.I 41 13) + 1)) (J := m.J) (s := m.s) (pc2 := 451) (lv2 := [(3, .int r3), (2, .int r2), (0, .ref 42), (1, .int x1)]) (st2 := [.int r3, .int r2, .ref 42]) (I2 := sh_u2 m.I 41 13 ((m.I 41 13) + 1)) (J2 := m.J) (fun hT v kk => ?_) ?_
        · refine sh_w (i := (.tableswitch 413 0 30 #[139, 148, 156, 164, 172, 181, 190, 199, 207, 214, 221, 230, 239, 247, 255, 264, 273, 282, 290, 298, 317, 331, 339, 347, 355, 363, 371, 380, 389, 397, 405])) (len := 139) (pc2 := 448) (lv2 := [(3, .int r3), (2, .int r2), (0, .ref 42), (1, .int x1)]) (st2 := []) (h2 := (sh_rep m.T (sh_u2 m.I 41 13 ((m.I 41 13) + 1)) m.J)) rfl rfl (sh_sw c rfl) ?_
          refine sh_w (i := (.aload_n 0)) (len := 1) (pc2 := 449) (lv2 := [(3, .int r3), (2, .int r2), (0, .ref 42), (1, .int x1)]) (st2 := [.ref 42]) (h2 := (sh_rep m.T (sh_u2 m.I 41 13 ((m.I 41 13) + 1)) m.J)) rfl rfl rfl ?_
          refine sh_w (i := (.iload_n 2)) (len := 1) (pc2 := 450) (lv2 := [(3, .int r3), (2, .int r2), (0, .ref 42), (1, .int x1)]) (st2 := [.int r2, .ref 42]) (h2 := (sh_rep m.T (sh_u2 m.I 41 13 ((m.I 41 13) + 1)) m.J)) rfl rfl rfl ?_
          refine sh_w (i := (.iload_n 3)) (len := 1) (pc2 := 451) (lv2 := [(3, .int r3), (2, .int r2), (0, .ref 42), (1, .int x1)]) (st2 := [.int r3, .int r2, .ref 42]) (h2 := (sh_rep m.T (sh_u2 m.I 41 13 ((m.I 41 13) + 1)) m.J)) rfl rfl rfl ?_
          exact kk
        rcases sh_bt_e e with ⟨m42, e32, rfl⟩ | ⟨r32, m42, e32, e⟩
        · obtain ⟨rfl, rfl⟩ := tg
          exact sh_Lk_tV (k2 := 192) (a := 41) (as := [.ref 42, .int r2, .int r3]) (rest := []) rfl rfl rfl (fun hT => (sh_s41 hT.st)) rfl rfl ⟨Nat.le_of_ble_eq_true rfl, Nat.le_of_ble_eq_true rfl⟩ (sl_192 e32 ⟨rfl, rfl⟩) rfl (Nat.le_of_ble_eq_true rfl) (Nat.le_of_ble_eq_true rfl) (Nat.le_of_ble_eq_true rfl) (Nat.le_of_ble_eq_true rfl) rfl
        refine sh_Lk_cV (r := none) (st2 := []) (pc2 := 454) (k2 := 192) (a := 41) (as := [.ref 42, .int r2, .int r3]) (rest := []) rfl rfl rfl (fun hT => (sh_s41 hT.st)) rfl rfl ⟨Nat.le_of_ble_eq_true rfl, Nat.le_of_ble_eq_true rfl⟩ (sl_192 e32 ⟨rfl, rfl⟩) rfl rfl (Nat.le_of_ble_eq_true rfl) (Nat.le_of_ble_eq_true rfl) ?_
        refine sh_Lk_lift (T := m42.T) (I := m42.I) (J := m42.J) (s := m42.s) (pc2 := 490) (lv2 := [(3, .int r3), (2, .int r2), (0, .ref 42), (1, .int x1)]) (st2 := []) (I2 := m42.I) (J2 := m42.J) (fun hT v kk => ?_) ?_
        · refine sh_w (i := (.goto 36)) (len := 3) (pc2 := 490) (lv2 := [(3, .int r3), (2, .int r2), (0, .ref 42), (1, .int x1)]) (st2 := []) (h2 := (sh_rep m42.T m42.I m42.J)) rfl rfl rfl ?_
          exact kk
        exact sh_Lk_sub (sh_sub_c rfl (sh_sub_c rfl (sh_sub_n))) (sl_78_490 e tg)
      rcases sh_ite e with ⟨c, e⟩ | ⟨c27, e⟩
      · refine sh_Lk_lift (T := m.T) (I := sh_u2 m.I 41 13 ((m.I 41 13) + 1)) (J := m.J) (s := m.s) (pc2 := 460) (lv2 := [(3, .int r3), (2, .int r2), (0, .ref 42), (1, .int x1)]) (st2 := [.int r3, .int r2, .ref 42]) (I2 := sh_u2 m.I 41 13 ((m.I 41 13) + 1)) (J2 := m.J) (fun hT v kk => ?_) ?_
        · refine sh_w (i := (.tableswitch 413 0 30 #[139, 148, 156, 164, 172, 181, 190, 199, 207, 214, 221, 230, 239, 247, 255, 264, 273, 282, 290, 298, 317, 331, 339, 347, 355, 363, 371, 380, 389, 397, 405])) (len := 139) (pc2 := 457) (lv2 := [(3, .int r3), (2, .int r2), (0, .ref 42), (1, .int x1)]) (st2 := []) (h2 := (sh_rep m.T (sh_u2 m.I 41 13 ((m.I 41 13) + 1)) m.J)) rfl rfl (sh_sw c rfl) ?_
          refine sh_w (i := (.aload_n 0)) (len := 1) (pc2 := 458) (lv2 := [(3, .int r3), (2, .int r2), (0, .ref 42), (1, .int x1)]) (st2 := [.ref 42]) (h2 := (sh_rep m.T (sh_u2 m.I 41 13 ((m.I 41 13) + 1)) m.J)) rfl rfl rfl ?_
          refine sh_w (i := (.iload_n 2)) (len := 1) (pc2 := 459) (lv2 := [(3, .int r3), (2, .int r2), (0, .ref 42), (1, .int x1)]) (st2 := [.int r2, .ref 42]) (h2 := (sh_rep m.T (sh_u2 m.I 41 13 ((m.I 41 13) + 1)) m.J)) rfl rfl rfl ?_
          refine sh_w (i := (.iload_n 3)) (len := 1) (pc2 := 460) (lv2 := [(3, .int r3), (2, .int r2), (0, .ref 42), (1, .int x1)]) (st2 := [.int r3, .int r2, .ref 42]) (h2 := (sh_rep m.T (sh_u2 m.I 41 13 ((m.I 41 13) + 1)) m.J)) rfl rfl rfl ?_
          exact kk
        rcases sh_bt_e e with ⟨m43, e33, rfl⟩ | ⟨r33, m43, e33, e⟩
        · obtain ⟨rfl, rfl⟩ := tg
          exact sh_Lk_tV (k2 := 194) (a := 41) (as := [.ref 42, .int r2, .int r3]) (rest := []) rfl rfl rfl (fun hT => (sh_s41 hT.st)) rfl rfl ⟨Nat.le_of_ble_eq_true rfl, Nat.le_of_ble_eq_true rfl⟩ (sl_194 e33 ⟨rfl, rfl⟩) rfl (Nat.le_of_ble_eq_true rfl) (Nat.le_of_ble_eq_true rfl) (Nat.le_of_ble_eq_true rfl) (Nat.le_of_ble_eq_true rfl) rfl
        refine sh_Lk_cV (r := none) (st2 := []) (pc2 := 463) (k2 := 194) (a := 41) (as := [.ref 42, .int r2, .int r3]) (rest := []) rfl rfl rfl (fun hT => (sh_s41 hT.st)) rfl rfl ⟨Nat.le_of_ble_eq_true rfl, Nat.le_of_ble_eq_true rfl⟩ (sl_194 e33 ⟨rfl, rfl⟩) rfl rfl (Nat.le_of_ble_eq_true rfl) (Nat.le_of_ble_eq_true rfl) ?_
        refine sh_Lk_lift (T := m43.T) (I := m43.I) (J := m43.J) (s := m43.s) (pc2 := 490) (lv2 := [(3, .int r3), (2, .int r2), (0, .ref 42), (1, .int x1)]) (st2 := []) (I2 := m43.I) (J2 := m43.J) (fun hT v kk => ?_) ?_
        · refine sh_w (i := (.goto 27)) (len := 3) (pc2 := 490) (lv2 := [(3, .int r3), (2, .int r2), (0, .ref 42), (1, .int x1)]) (st2 := []) (h2 := (sh_rep m43.T m43.I m43.J)) rfl rfl rfl ?_
          exact kk
        exact sh_Lk_sub (sh_sub_c rfl (sh_sub_c rfl (sh_sub_n))) (sl_78_490 e tg)
      rcases sh_ite e with ⟨c, e⟩ | ⟨c28, e⟩
      · refine sh_Lk_lift (T := m.T) (I := sh_u2 m.I 41 13 ((m.I 41 13) + 1)) (J := m.J) (s := m.s) (pc2 := 468) (lv2 := [(3, .int r3), (2, .int r2), (0, .ref 42), (1, .int x1)]) (st2 := [.int r2, .ref 42]) (I2 := sh_u2 m.I 41 13 ((m.I 41 13) + 1)) (J2 := m.J) (fun hT v kk => ?_) ?_
        · refine sh_w (i := (.tableswitch 413 0 30 #[139, 148, 156, 164, 172, 181, 190, 199, 207, 214, 221, 230, 239, 247, 255, 264, 273, 282, 290, 298, 317, 331, 339, 347, 355, 363, 371, 380, 389, 397, 405])) (len := 139) (pc2 := 466) (lv2 := [(3, .int r3), (2, .int r2), (0, .ref 42), (1, .int x1)]) (st2 := []) (h2 := (sh_rep m.T (sh_u2 m.I 41 13 ((m.I 41 13) + 1)) m.J)) rfl rfl (sh_sw c rfl) ?_
          refine sh_w (i := (.aload_n 0)) (len := 1) (pc2 := 467) (lv2 := [(3, .int r3), (2, .int r2), (0, .ref 42), (1, .int x1)]) (st2 := [.ref 42]) (h2 := (sh_rep m.T (sh_u2 m.I 41 13 ((m.I 41 13) + 1)) m.J)) rfl rfl rfl ?_
          refine sh_w (i := (.iload_n 2)) (len := 1) (pc2 := 468) (lv2 := [(3, .int r3), (2, .int r2), (0, .ref 42), (1, .int x1)]) (st2 := [.int r2, .ref 42]) (h2 := (sh_rep m.T (sh_u2 m.I 41 13 ((m.I 41 13) + 1)) m.J)) rfl rfl rfl ?_
          exact kk
        rcases sh_bt_e e with ⟨m44, e34, rfl⟩ | ⟨r34, m44, e34, e⟩
        · obtain ⟨rfl, rfl⟩ := tg
          exact sh_Lk_tV (k2 := 195) (a := 41) (as := [.ref 42, .int r2]) (rest := []) rfl rfl rfl (fun hT => (sh_s41 hT.st)) rfl rfl ⟨Nat.le_of_ble_eq_true rfl, Nat.le_of_ble_eq_true rfl⟩ (sl_195 e34 ⟨rfl, rfl⟩) rfl (Nat.le_of_ble_eq_true rfl) (Nat.le_of_ble_eq_true rfl) (Nat.le_of_ble_eq_true rfl) (Nat.le_of_ble_eq_true rfl) rfl
        refine sh_Lk_cV (r := none) (st2 := []) (pc2 := 471) (k2 := 195) (a := 41) (as := [.ref 42, .int r2]) (rest := []) rfl rfl rfl (fun hT => (sh_s41 hT.st)) rfl rfl ⟨Nat.le_of_ble_eq_true rfl, Nat.le_of_ble_eq_true rfl⟩ (sl_195 e34 ⟨rfl, rfl⟩) rfl rfl (Nat.le_of_ble_eq_true rfl) (Nat.le_of_ble_eq_true rfl) ?_
        refine sh_Lk_lift (T := m44.T) (I := m44.I) (J := m44.J) (s := m44.s) (pc2 := 490) (lv2 := [(3, .int r3), (2, .int r2), (0, .ref 42), (1, .int x1)]) (st2 := []) (I2 := m44.I) (J2 := m44.J) (fun hT v kk => ?_) ?_
        · refine sh_w (i := (.goto 19)) (len := 3) (pc2 := 490) (lv2 := [(3, .int r3), (2, .int r2), (0, .ref 42), (1, .int x1)]) (st2 := []) (h2 := (sh_rep m44.T m44.I m44.J)) rfl rfl rfl ?_
          exact kk
        exact sh_Lk_sub (sh_sub_c rfl (sh_sub_c rfl (sh_sub_n))) (sl_78_490 e tg)
      rcases sh_ite e with ⟨c, e⟩ | ⟨c29, e⟩
      · refine sh_Lk_lift (T := m.T) (I := sh_u2 m.I 41 13 ((m.I 41 13) + 1)) (J := m.J) (s := m.s) (pc2 := 476) (lv2 := [(3, .int r3), (2, .int r2), (0, .ref 42), (1, .int x1)]) (st2 := [.int r2, .ref 42]) (I2 := sh_u2 m.I 41 13 ((m.I 41 13) + 1)) (J2 := m.J) (fun hT v kk => ?_) ?_
        · refine sh_w (i := (.tableswitch 413 0 30 #[139, 148, 156, 164, 172, 181, 190, 199, 207, 214, 221, 230, 239, 247, 255, 264, 273, 282, 290, 298, 317, 331, 339, 347, 355, 363, 371, 380, 389, 397, 405])) (len := 139) (pc2 := 474) (lv2 := [(3, .int r3), (2, .int r2), (0, .ref 42), (1, .int x1)]) (st2 := []) (h2 := (sh_rep m.T (sh_u2 m.I 41 13 ((m.I 41 13) + 1)) m.J)) rfl rfl (sh_sw c rfl) ?_
          refine sh_w (i := (.aload_n 0)) (len := 1) (pc2 := 475) (lv2 := [(3, .int r3), (2, .int r2), (0, .ref 42), (1, .int x1)]) (st2 := [.ref 42]) (h2 := (sh_rep m.T (sh_u2 m.I 41 13 ((m.I 41 13) + 1)) m.J)) rfl rfl rfl ?_
          refine sh_w (i := (.iload_n 2)) (len := 1) (pc2 := 476) (lv2 := [(3, .int r3), (2, .int r2), (0, .ref 42), (1, .int x1)]) (st2 := [.int r2, .ref 42]) (h2 := (sh_rep m.T (sh_u2 m.I 41 13 ((m.I 41 13) + 1)) m.J)) rfl rfl rfl ?_
          exact kk
        rcases sh_bt_e e with ⟨m45, e35, rfl⟩ | ⟨r35, m45, e35, e⟩
        · obtain ⟨rfl, rfl⟩ := tg
          exact sh_Lk_tV (k2 := 196) (a := 41) (as := [.ref 42, .int r2]) (rest := []) rfl rfl rfl (fun hT => (sh_s41 hT.st)) rfl rfl ⟨Nat.le_of_ble_eq_true rfl, Nat.le_of_ble_eq_true rfl⟩ (sl_196 e35 ⟨rfl, rfl⟩) rfl (Nat.le_of_ble_eq_true rfl) (Nat.le_of_ble_eq_true rfl) (Nat.le_of_ble_eq_true rfl) (Nat.le_of_ble_eq_true rfl) rfl
        refine sh_Lk_cV (r := none) (st2 := []) (pc2 := 479) (k2 := 196) (a := 41) (as := [.ref 42, .int r2]) (rest := []) rfl rfl rfl (fun hT => (sh_s41 hT.st)) rfl rfl ⟨Nat.le_of_ble_eq_true rfl, Nat.le_of_ble_eq_true rfl⟩ (sl_196 e35 ⟨rfl, rfl⟩) rfl rfl (Nat.le_of_ble_eq_true rfl) (Nat.le_of_ble_eq_true rfl) ?_
        refine sh_Lk_lift (T := m45.T) (I := m45.I) (J := m45.J) (s := m45.s) (pc2 := 490) (lv2 := [(3, .int r3), (2, .int r2), (0, .ref 42), (1, .int x1)]) (st2 := []) (I2 := m45.I) (J2 := m45.J) (fun hT v kk => ?_) ?_
        · refine sh_w (i := (.goto 11)) (len := 3) (pc2 := 490) (lv2 := [(3, .int r3), (2, .int r2), (0, .ref 42), (1, .int x1)]) (st2 := []) (h2 := (sh_rep m45.T m45.I m45.J)) rfl rfl rfl ?_
          exact kk
        exact sh_Lk_sub (sh_sub_c rfl (sh_sub_c rfl (sh_sub_n))) (sl_78_490 e tg)
      rcases sh_ite e with ⟨c, e⟩ | ⟨c30, e⟩
      · refine sh_Lk_lift (T := m.T) (I := sh_u2 m.I 41 13 ((m.I 41 13) + 1)) (J := m.J) (s := m.s) (pc2 := 484) (lv2 := [(3, .int r3), (2, .int r2), (0, .ref 42), (1, .int x1)]) (st2 := [.int r2, .ref 42]) (I2 := sh_u2 m.I 41 13 ((m.I 41 13) + 1)) (J2 := m.J) (fun hT v kk => ?_) ?_
        · refine sh_w (i := (.tableswitch 413 0 30 #[139, 148, 156, 164, 172, 181, 190, 199, 207, 214, 221, 230, 239, 247, 255, 264, 273, 282, 290, 298, 317, 331, 339, 347, 355, 363, 371, 380, 389, 397, 405])) (len := 139) (pc2 := 482) (lv2 := [(3, .int r3), (2, .int r2), (0, .ref 42), (1, .int x1)]) (st2 := []) (h2 := (sh_rep m.T (sh_u2 m.I 41 13 ((m.I 41 13) + 1)) m.J)) rfl rfl (sh_sw c rfl) ?_
          refine sh_w (i := (.aload_n 0)) (len := 1) (pc2 := 483) (lv2 := [(3, .int r3), (2, .int r2), (0, .ref 42), (1, .int x1)]) (st2 := [.ref 42]) (h2 := (sh_rep m.T (sh_u2 m.I 41 13 ((m.I 41 13) + 1)) m.J)) rfl rfl rfl ?_
          refine sh_w (i := (.iload_n 2)) (len := 1) (pc2 := 484) (lv2 := [(3, .int r3), (2, .int r2), (0, .ref 42), (1, .int x1)]) (st2 := [.int r2, .ref 42]) (h2 := (sh_rep m.T (sh_u2 m.I 41 13 ((m.I 41 13) + 1)) m.J)) rfl rfl rfl ?_
          exact kk
        rcases sh_bt_e e with ⟨m46, e36, rfl⟩ | ⟨r36, m46, e36, e⟩
        · obtain ⟨rfl, rfl⟩ := tg
          exact sh_Lk_tV (k2 := 197) (a := 41) (as := [.ref 42, .int r2]) (rest := []) rfl rfl rfl (fun hT => (sh_s41 hT.st)) rfl rfl ⟨Nat.le_of_ble_eq_true rfl, Nat.le_of_ble_eq_true rfl⟩ (sl_197 e36 ⟨rfl, rfl⟩) rfl (Nat.le_of_ble_eq_true rfl) (Nat.le_of_ble_eq_true rfl) (Nat.le_of_ble_eq_true rfl) (Nat.le_of_ble_eq_true rfl) rfl
        refine sh_Lk_cV (r := none) (st2 := []) (pc2 := 487) (k2 := 197) (a := 41) (as := [.ref 42, .int r2]) (rest := []) rfl rfl rfl (fun hT => (sh_s41 hT.st)) rfl rfl ⟨Nat.le_of_ble_eq_true rfl, Nat.le_of_ble_eq_true rfl⟩ (sl_197 e36 ⟨rfl, rfl⟩) rfl rfl (Nat.le_of_ble_eq_true rfl) (Nat.le_of_ble_eq_true rfl) ?_
        refine sh_Lk_lift (T := m46.T) (I := m46.I) (J := m46.J) (s := m46.s) (pc2 := 490) (lv2 := [(3, .int r3), (2, .int r2), (0, .ref 42), (1, .int x1)]) (st2 := []) (I2 := m46.I) (J2 := m46.J) (fun hT v kk => ?_) ?_
        · refine sh_w (i := (.goto 3)) (len := 3) (pc2 := 490) (lv2 := [(3, .int r3), (2, .int r2), (0, .ref 42), (1, .int x1)]) (st2 := []) (h2 := (sh_rep m46.T m46.I m46.J)) rfl rfl rfl ?_
          exact kk
        exact sh_Lk_sub (sh_sub_c rfl (sh_sub_c rfl (sh_sub_n))) (sl_78_490 e tg)
      refine sh_Lk_lift (T := m.T) (I := sh_u2 m.I 41 13 ((m.I 41 13) + 1)) (J := m.J) (s := m.s) (pc2 := 490) (lv2 := [(3, .int r3), (2, .int r2), (0, .ref 42), (1, .int x1)]) (st2 := []) (I2 := sh_u2 m.I 41 13 ((m.I 41 13) + 1)) (J2 := m.J) (fun hT v kk => ?_) ?_
      · refine sh_w (i := (.tableswitch 413 0 30 #[139, 148, 156, 164, 172, 181, 190, 199, 207, 214, 221, 230, 239, 247, 255, 264, 273, 282, 290, 298, 317, 331, 339, 347, 355, 363, 371, 380, 389, 397, 405])) (len := 139) (pc2 := 490) (lv2 := [(3, .int r3), (2, .int r2), (0, .ref 42), (1, .int x1)]) (st2 := []) (h2 := (sh_rep m.T (sh_u2 m.I 41 13 ((m.I 41 13) + 1)) m.J)) rfl rfl (sh_swt [0, 1, 2, 3, 4, 5, 6, 7, 8, 9, 10, 11, 12, 13, 14, 15, 16, 17, 18, 19, 20, 21, 22, 23, 24, 25, 26, 27, 28, 29, 30] (by intro j h1 h2; simp; omega) (sh_fc (fun h => c0 (h)) (sh_fc (fun h => c1 (h)) (sh_fc (fun h => c2 (h)) (sh_fc (fun h => c3 (h)) (sh_fc (fun h => c4 (h)) (sh_fc (fun h => c5 (h)) (sh_fc (fun h => c6 (h)) (sh_fc (fun h => c7 (h)) (sh_fc (fun h => c8 (h)) (sh_fc (fun h => c9 (h)) (sh_fc (fun h => c10 (h)) (sh_fc (fun h => c11 (h)) (sh_fc (fun h => c12 (h)) (sh_fc (fun h => c13 (h)) (sh_fc (fun h => c14 (h)) (sh_fc (fun h => c15 (h)) (sh_fc (fun h => c16 (h)) (sh_fc (fun h => c17 (h)) (sh_fc (fun h => c18 (h)) (sh_fc (fun h => c19 (h)) (sh_fc (fun h => c20 (h)) (sh_fc (fun h => c21 (h)) (sh_fc (fun h => c22 (h)) (sh_fc (fun h => c23 (h)) (sh_fc (fun h => c24 (h)) (sh_fc (fun h => c25 (h)) (sh_fc (fun h => c26 (h)) (sh_fc (fun h => c27 (h)) (sh_fc (fun h => c28 (h)) (sh_fc (fun h => c29 (h)) (sh_fc (fun h => c30 (h)) sh_fn))))))))))))))))))))))))))))))) rfl) ?_
        exact kk
      exact sh_Lk_sub (sh_sub_c rfl (sh_sub_c rfl (sh_sub_n))) (sl_78_490 e tg)
    · refine sh_Lk_lift (T := m.T) (I := m.I) (J := m.J) (s := m.s) (pc2 := 496) (lv2 := [(0, .ref 42), (1, .int x1)]) (st2 := []) (I2 := m.I) (J2 := m.J) (fun hT v kk => ?_) ?_
      · refine sh_j0 (c := .eq) (off := (469)) (pc2 := 496) true rfl (sh_Zeqt c) rfl ?_
        exact kk
      obtain rfl := Option.some.inj e
      obtain ⟨rfl, rfl⟩ := tg
      exact sh_Lk_ret (i := .return_) rfl rfl rfl (Nat.le_of_ble_eq_true rfl) (Nat.le_of_ble_eq_true rfl)
  · refine sh_Lk_lift (T := m.T) (I := m.I) (J := m.J) (s := m.s) (pc2 := 496) (lv2 := [(0, .ref 42), (1, .int x1)]) (st2 := []) (I2 := m.I) (J2 := m.J) (fun hT v kk => ?_) ?_
    · refine sh_jc (c := .ge) (off := (483)) (pc2 := 496) true rfl (sh_Bget c) rfl ?_
      exact kk
    obtain rfl := Option.some.inj e
    obtain ⟨rfl, rfl⟩ := tg
    exact sh_Lk_ret (i := .return_) rfl rfl rfl (Nat.le_of_ble_eq_true rfl) (Nat.le_of_ble_eq_true rfl)
theorem sl_78_10 {x1 : Int32} {m m2 : sh_X} {o : Outcome} {z : (Option Unit × sh_X)} (e : sf_78_10 x1 m = some z) (tg : (sh_tVt o m2) z) : sh_Lk 78 10 [(0, .ref 42), (1, .int x1)] [] m o m2 16 439 := by
  unfold sf_78_10 at e
  exact sh_while_lk (P := fun q => sh_Lk 78 10 [(0, .ref 42), (1, .int q.1)] [] q.2 o m2 16 439) (Q := (sh_tVt o m2)) (fun q z e tg => sl_78_10s (x1 := q.1) (m := q.2) e tg) (s := (x1, m)) e tg
theorem sl_78 {m m2 : sh_X} {o : Outcome} {z : (Option Unit × sh_X)} (e : sf_78 m = some z) (tg : (sh_tVt o m2) z) : sh_Lk 78 0 [(0, .ref 42)] [] m o m2 16 439 := by
  unfold sf_78 at e
  refine sh_Lk_lift (T := m.T) (I := m.I) (J := m.J) (s := m.s) (pc2 := 1) (lv2 := [(0, .ref 42)]) (st2 := [.ref 42]) (I2 := m.I) (J2 := m.J) (fun hT v kk => ?_) ?_
  · refine sh_w (i := (.aload_n 0)) (len := 1) (pc2 := 1) (lv2 := [(0, .ref 42)]) (st2 := [.ref 42]) (h2 := (sh_rep m.T m.I m.J)) rfl rfl rfl ?_
    exact kk
  obtain ⟨r1, m11, e1, e⟩ := sh_bn_e e
  refine sh_Lk_cV (r := none) (st2 := []) (pc2 := 4) (k2 := 79) (a := 41) (as := [.ref 42]) (rest := []) rfl rfl rfl (fun hT => (sh_s41 hT.st)) rfl rfl ⟨Nat.le_of_ble_eq_true rfl, Nat.le_of_ble_eq_true rfl⟩ (sl_79 e1 ⟨rfl, rfl⟩) rfl rfl (Nat.le_of_ble_eq_true rfl) (Nat.le_of_ble_eq_true rfl) ?_
  refine sh_Lk_lift (T := m11.T) (I := m11.I) (J := m11.J) (s := m11.s) (pc2 := 5) (lv2 := [(0, .ref 42)]) (st2 := [.ref 42]) (I2 := m11.I) (J2 := m11.J) (fun hT v kk => ?_) ?_
  · refine sh_w (i := (.aload_n 0)) (len := 1) (pc2 := 5) (lv2 := [(0, .ref 42)]) (st2 := [.ref 42]) (h2 := (sh_rep m11.T m11.I m11.J)) rfl rfl rfl ?_
    exact kk
  rcases sh_bt_e e with ⟨m12, e2, rfl⟩ | ⟨r2, m12, e2, e⟩
  · obtain ⟨rfl, rfl⟩ := tg
    exact sh_Lk_tV (k2 := 82) (a := 41) (as := [.ref 42]) (rest := []) rfl rfl rfl (fun hT => (sh_s41 hT.st)) rfl rfl ⟨Nat.le_of_ble_eq_true rfl, Nat.le_of_ble_eq_true rfl⟩ (sl_82 e2 ⟨rfl, rfl⟩) rfl (Nat.le_of_ble_eq_true rfl) (Nat.le_of_ble_eq_true rfl) (Nat.le_of_ble_eq_true rfl) (Nat.le_of_ble_eq_true rfl) rfl
  refine sh_Lk_cV (r := none) (st2 := []) (pc2 := 8) (k2 := 82) (a := 41) (as := [.ref 42]) (rest := []) rfl rfl rfl (fun hT => (sh_s41 hT.st)) rfl rfl ⟨Nat.le_of_ble_eq_true rfl, Nat.le_of_ble_eq_true rfl⟩ (sl_82 e2 ⟨rfl, rfl⟩) rfl rfl (Nat.le_of_ble_eq_true rfl) (Nat.le_of_ble_eq_true rfl) ?_
  refine sh_Lk_lift (T := m12.T) (I := m12.I) (J := m12.J) (s := m12.s) (pc2 := 10) (lv2 := [(1, .int 0), (0, .ref 42)]) (st2 := []) (I2 := m12.I) (J2 := m12.J) (fun hT v kk => ?_) ?_
  · refine sh_w (i := (.iconst 0)) (len := 1) (pc2 := 9) (lv2 := [(0, .ref 42)]) (st2 := [.int 0]) (h2 := (sh_rep m12.T m12.I m12.J)) rfl rfl rfl ?_
    refine sh_w (i := (.istore_n 1)) (len := 1) (pc2 := 10) (lv2 := [(1, .int 0), (0, .ref 42)]) (st2 := []) (h2 := (sh_rep m12.T m12.I m12.J)) rfl rfl rfl ?_
    exact kk
  exact sh_Lk_sub (sh_sub_c rfl (sh_sub_c rfl (sh_sub_n))) (sl_78_10 e tg)
