/-! LINKS, printed by gen27.py -/
theorem sl_332 {m m2 : sh_X} {o : Outcome} {z : (Int32 × sh_X)} (e : sf_332 m = some z) (tg : (sh_tI o m2) z) : sh_Lk 332 0 [(0, .ref 67)] [] m o m2 8 200 := by
  unfold sf_332 at e
  refine sh_Lk_lift (T := m.T) (I := m.I) (J := m.J) (s := m.s) (pc2 := 9) (lv2 := [(0, .ref 67)]) (st2 := [.int (m.I 66 7)]) (I2 := sh_u2 m.I 66 0 0) (J2 := m.J) (fun hT v kk => ?_) ?_
  · refine sh_w (i := (.aload_n 0)) (len := 1) (pc2 := 1) (lv2 := [(0, .ref 67)]) (st2 := [.ref 67]) (h2 := (sh_rep m.T m.I m.J)) rfl rfl rfl ?_
    refine sh_w (i := (.iconst 0)) (len := 1) (pc2 := 2) (lv2 := [(0, .ref 67)]) (st2 := [.int 0, .ref 67]) (h2 := (sh_rep m.T m.I m.J)) rfl rfl rfl ?_
    refine sh_pI1 (x := 0) (pc2 := 5) rfl rfl (sh_s66 hT.st) rfl rfl rfl rfl ?_
    refine sh_w (i := (.aload_n 0)) (len := 1) (pc2 := 6) (lv2 := [(0, .ref 67)]) (st2 := [.ref 67]) (h2 := (sh_rep m.T (sh_u2 m.I 66 0 0) m.J)) rfl rfl rfl ?_
    refine sh_gI1 (len := 3) (x := m.I 66 7) (pc2 := 9) rfl rfl (sh_s66 hT.st) rfl rfl rfl ?_
    exact kk
  obtain rfl := Option.some.inj e
  obtain ⟨rfl, rfl⟩ := tg
  exact sh_Lk_ret (i := .ireturn) rfl rfl rfl (Nat.le_of_ble_eq_true rfl) (Nat.le_of_ble_eq_true rfl)
theorem sl_333 {x1 : Int32} {m m2 : sh_X} {o : Outcome} {z : (Int32 × sh_X)} (e : sf_333 x1 m = some z) (tg : (sh_tI o m2) z) : sh_Lk 333 0 [(0, .ref 67), (1, .int x1)] [] m o m2 8 200 := by
  unfold sf_333 at e
  refine sh_Lk_lift (T := m.T) (I := m.I) (J := m.J) (s := m.s) (pc2 := 9) (lv2 := [(0, .ref 67), (1, .int x1)]) (st2 := [.int (m.I 66 4)]) (I2 := sh_u2 m.I 66 0 0) (J2 := m.J) (fun hT v kk => ?_) ?_
  · refine sh_w (i := (.aload_n 0)) (len := 1) (pc2 := 1) (lv2 := [(0, .ref 67), (1, .int x1)]) (st2 := [.ref 67]) (h2 := (sh_rep m.T m.I m.J)) rfl rfl rfl ?_
    refine sh_w (i := (.iconst 0)) (len := 1) (pc2 := 2) (lv2 := [(0, .ref 67), (1, .int x1)]) (st2 := [.int 0, .ref 67]) (h2 := (sh_rep m.T m.I m.J)) rfl rfl rfl ?_
    refine sh_pI1 (x := 0) (pc2 := 5) rfl rfl (sh_s66 hT.st) rfl rfl rfl rfl ?_
    refine sh_w (i := (.aload_n 0)) (len := 1) (pc2 := 6) (lv2 := [(0, .ref 67), (1, .int x1)]) (st2 := [.ref 67]) (h2 := (sh_rep m.T (sh_u2 m.I 66 0 0) m.J)) rfl rfl rfl ?_
    refine sh_gI1 (len := 3) (x := m.I 66 4) (pc2 := 9) rfl rfl (sh_s66 hT.st) rfl rfl rfl ?_
    exact kk
  rcases sh_ite e with ⟨c, e⟩ | ⟨c, e⟩
  · refine sh_Lk_lift (T := m.T) (I := sh_u2 m.I 66 0 0) (J := m.J) (s := m.s) (pc2 := 23) (lv2 := [(0, .ref 67), (1, .int x1)]) (st2 := [.int (-1)]) (I2 := sh_u2 m.I 66 0 0) (J2 := m.J) (fun hT v kk => ?_) ?_
    · refine sh_j0 (c := .eq) (off := (13)) (pc2 := 22) true rfl (sh_Beqt c) rfl ?_
      refine sh_w (i := (.iconst (-1))) (len := 1) (pc2 := 23) (lv2 := [(0, .ref 67), (1, .int x1)]) (st2 := [.int (-1)]) (h2 := (sh_rep m.T (sh_u2 m.I 66 0 0) m.J)) rfl rfl rfl ?_
      exact kk
    obtain rfl := Option.some.inj e
    obtain ⟨rfl, rfl⟩ := tg
    exact sh_Lk_ret (i := .ireturn) rfl rfl rfl (Nat.le_of_ble_eq_true rfl) (Nat.le_of_ble_eq_true rfl)
  · refine sh_Lk_lift (T := m.T) (I := sh_u2 m.I 66 0 0) (J := m.J) (s := m.s) (pc2 := 13) (lv2 := [(0, .ref 67), (1, .int x1)]) (st2 := [.int x1]) (I2 := sh_u2 m.I 66 0 0) (J2 := m.J) (fun hT v kk => ?_) ?_
    · refine sh_j0 (c := .eq) (off := (13)) (pc2 := 12) false rfl (sh_Beqf c) rfl ?_
      refine sh_w (i := (.iload_n 1)) (len := 1) (pc2 := 13) (lv2 := [(0, .ref 67), (1, .int x1)]) (st2 := [.int x1]) (h2 := (sh_rep m.T (sh_u2 m.I 66 0 0) m.J)) rfl rfl rfl ?_
      exact kk
    rcases sh_ite e with ⟨c, e⟩ | ⟨c, e⟩
    · refine sh_Lk_lift (T := m.T) (I := sh_u2 m.I 66 0 0) (J := m.J) (s := m.s) (pc2 := 23) (lv2 := [(0, .ref 67), (1, .int x1)]) (st2 := [.int (-1)]) (I2 := sh_u2 m.I 66 0 0) (J2 := m.J) (fun hT v kk => ?_) ?_
      · refine sh_j0 (c := .lt) (off := (9)) (pc2 := 22) true rfl (sh_Bltt c) rfl ?_
        refine sh_w (i := (.iconst (-1))) (len := 1) (pc2 := 23) (lv2 := [(0, .ref 67), (1, .int x1)]) (st2 := [.int (-1)]) (h2 := (sh_rep m.T (sh_u2 m.I 66 0 0) m.J)) rfl rfl rfl ?_
        exact kk
      obtain rfl := Option.some.inj e
      obtain ⟨rfl, rfl⟩ := tg
      exact sh_Lk_ret (i := .ireturn) rfl rfl rfl (Nat.le_of_ble_eq_true rfl) (Nat.le_of_ble_eq_true rfl)
    · refine sh_Lk_lift (T := m.T) (I := sh_u2 m.I 66 0 0) (J := m.J) (s := m.s) (pc2 := 19) (lv2 := [(0, .ref 67), (1, .int x1)]) (st2 := [.int 6, .int x1]) (I2 := sh_u2 m.I 66 0 0) (J2 := m.J) (fun hT v kk => ?_) ?_
      · refine sh_j0 (c := .lt) (off := (9)) (pc2 := 16) false rfl (sh_Bltf c) rfl ?_
        refine sh_w (i := (.iload_n 1)) (len := 1) (pc2 := 17) (lv2 := [(0, .ref 67), (1, .int x1)]) (st2 := [.int x1]) (h2 := (sh_rep m.T (sh_u2 m.I 66 0 0) m.J)) rfl rfl rfl ?_
        refine sh_w (i := (.bipush 6)) (len := 2) (pc2 := 19) (lv2 := [(0, .ref 67), (1, .int x1)]) (st2 := [.int 6, .int x1]) (h2 := (sh_rep m.T (sh_u2 m.I 66 0 0) m.J)) rfl rfl rfl ?_
        exact kk
      rcases sh_ite e with ⟨c, e⟩ | ⟨c, e⟩
      · refine sh_Lk_lift (T := m.T) (I := sh_u2 m.I 66 0 0) (J := m.J) (s := m.s) (pc2 := 23) (lv2 := [(0, .ref 67), (1, .int x1)]) (st2 := [.int (-1)]) (I2 := sh_u2 m.I 66 0 0) (J2 := m.J) (fun hT v kk => ?_) ?_
        · refine sh_jc (c := .le) (off := (5)) (pc2 := 22) false rfl (sh_Blef c) rfl ?_
          refine sh_w (i := (.iconst (-1))) (len := 1) (pc2 := 23) (lv2 := [(0, .ref 67), (1, .int x1)]) (st2 := [.int (-1)]) (h2 := (sh_rep m.T (sh_u2 m.I 66 0 0) m.J)) rfl rfl rfl ?_
          exact kk
        obtain rfl := Option.some.inj e
        obtain ⟨rfl, rfl⟩ := tg
        exact sh_Lk_ret (i := .ireturn) rfl rfl rfl (Nat.le_of_ble_eq_true rfl) (Nat.le_of_ble_eq_true rfl)
      · refine sh_Lk_lift (T := m.T) (I := sh_u2 m.I 66 0 0) (J := m.J) (s := m.s) (pc2 := 26) (lv2 := [(0, .ref 67), (1, .int x1)]) (st2 := [.int 3, .int x1]) (I2 := sh_u2 m.I 66 0 0) (J2 := m.J) (fun hT v kk => ?_) ?_
        · refine sh_jc (c := .le) (off := (5)) (pc2 := 24) true rfl (sh_Blet c) rfl ?_
          refine sh_w (i := (.iload_n 1)) (len := 1) (pc2 := 25) (lv2 := [(0, .ref 67), (1, .int x1)]) (st2 := [.int x1]) (h2 := (sh_rep m.T (sh_u2 m.I 66 0 0) m.J)) rfl rfl rfl ?_
          refine sh_w (i := (.iconst 3)) (len := 1) (pc2 := 26) (lv2 := [(0, .ref 67), (1, .int x1)]) (st2 := [.int 3, .int x1]) (h2 := (sh_rep m.T (sh_u2 m.I 66 0 0) m.J)) rfl rfl rfl ?_
          exact kk
        rcases sh_ite e with ⟨c, e⟩ | ⟨c, e⟩
        · refine sh_Lk_lift (T := m.T) (I := sh_u2 m.I 66 0 0) (J := m.J) (s := m.s) (pc2 := 34) (lv2 := [(0, .ref 67), (1, .int x1)]) (st2 := [.int x1, .ref 100]) (I2 := sh_u2 m.I 66 0 0) (J2 := m.J) (fun hT v kk => ?_) ?_
          · refine sh_jc (c := .ge) (off := (10)) (pc2 := 29) false rfl (sh_Bgef c) rfl ?_
            refine sh_w (i := (.aload_n 0)) (len := 1) (pc2 := 30) (lv2 := [(0, .ref 67), (1, .int x1)]) (st2 := [.ref 67]) (h2 := (sh_rep m.T (sh_u2 m.I 66 0 0) m.J)) rfl rfl rfl ?_
            refine sh_gR1 (len := 3) (x := .ref 100) (pc2 := 33) rfl rfl (sh_s66 hT.st) rfl rfl ?_
            refine sh_w (i := (.iload_n 1)) (len := 1) (pc2 := 34) (lv2 := [(0, .ref 67), (1, .int x1)]) (st2 := [.int x1, .ref 100]) (h2 := (sh_rep m.T (sh_u2 m.I 66 0 0) m.J)) rfl rfl rfl ?_
            exact kk
          obtain ⟨c, e⟩ := sh_gd e
          refine sh_Lk_lift (T := m.T) (I := sh_u2 m.I 66 0 0) (J := m.J) (s := m.s) (pc2 := 35) (lv2 := [(0, .ref 67), (1, .int x1)]) (st2 := [.int (m.I 99 (Int32.toNatClampNeg x1))]) (I2 := sh_u2 m.I 66 0 0) (J2 := m.J) (fun hT v kk => ?_) ?_
          · refine sh_ia1 (x := m.I 99 (Int32.toNatClampNeg x1)) (pc2 := 35) rfl (sh_s99 hT.st) (sh_okb1 c) (sh_okb2 c) rfl rfl ?_
            exact kk
          obtain rfl := Option.some.inj e
          obtain ⟨rfl, rfl⟩ := tg
          exact sh_Lk_ret (i := .ireturn) rfl rfl rfl (Nat.le_of_ble_eq_true rfl) (Nat.le_of_ble_eq_true rfl)
        · refine sh_Lk_lift (T := m.T) (I := sh_u2 m.I 66 0 0) (J := m.J) (s := m.s) (pc2 := 38) (lv2 := [(0, .ref 67), (1, .int x1)]) (st2 := [.int 3, .int x1]) (I2 := sh_u2 m.I 66 0 0) (J2 := m.J) (fun hT v kk => ?_) ?_
          · refine sh_jc (c := .ge) (off := (10)) (pc2 := 36) true rfl (sh_Bget c) rfl ?_
            refine sh_w (i := (.iload_n 1)) (len := 1) (pc2 := 37) (lv2 := [(0, .ref 67), (1, .int x1)]) (st2 := [.int x1]) (h2 := (sh_rep m.T (sh_u2 m.I 66 0 0) m.J)) rfl rfl rfl ?_
            refine sh_w (i := (.iconst 3)) (len := 1) (pc2 := 38) (lv2 := [(0, .ref 67), (1, .int x1)]) (st2 := [.int 3, .int x1]) (h2 := (sh_rep m.T (sh_u2 m.I 66 0 0) m.J)) rfl rfl rfl ?_
            exact kk
          rcases sh_ite e with ⟨c, e⟩ | ⟨c, e⟩
          · refine sh_Lk_lift (T := m.T) (I := sh_u2 m.I 66 0 0) (J := m.J) (s := m.s) (pc2 := 47) (lv2 := [(0, .ref 67), (1, .int x1)]) (st2 := [.int (m.I 102 2)]) (I2 := sh_u2 m.I 66 0 0) (J2 := m.J) (fun hT v kk => ?_) ?_
            · refine sh_jc (c := .ne) (off := (10)) (pc2 := 41) false rfl (sh_Bnef c) rfl ?_
              refine sh_w (i := (.aload_n 0)) (len := 1) (pc2 := 42) (lv2 := [(0, .ref 67), (1, .int x1)]) (st2 := [.ref 67]) (h2 := (sh_rep m.T (sh_u2 m.I 66 0 0) m.J)) rfl rfl rfl ?_
              refine sh_gR1 (len := 3) (x := .ref 103) (pc2 := 45) rfl rfl (sh_s66 hT.st) rfl rfl ?_
              refine sh_w (i := (.iconst 2)) (len := 1) (pc2 := 46) (lv2 := [(0, .ref 67), (1, .int x1)]) (st2 := [.int 2, .ref 103]) (h2 := (sh_rep m.T (sh_u2 m.I 66 0 0) m.J)) rfl rfl rfl ?_
              refine sh_ia1 (x := m.I 102 2) (pc2 := 47) rfl (sh_s102 hT.st) (by decide) (by decide) rfl rfl ?_
              exact kk
            obtain rfl := Option.some.inj e
            obtain ⟨rfl, rfl⟩ := tg
            exact sh_Lk_ret (i := .ireturn) rfl rfl rfl (Nat.le_of_ble_eq_true rfl) (Nat.le_of_ble_eq_true rfl)
          · refine sh_Lk_lift (T := m.T) (I := sh_u2 m.I 66 0 0) (J := m.J) (s := m.s) (pc2 := 53) (lv2 := [(0, .ref 67), (1, .int x1)]) (st2 := [.int 1, .int (m.I 66 4)]) (I2 := sh_u2 m.I 66 0 0) (J2 := m.J) (fun hT v kk => ?_) ?_
            · refine sh_jc (c := .ne) (off := (10)) (pc2 := 48) true rfl (sh_Bnet c) rfl ?_
              refine sh_w (i := (.aload_n 0)) (len := 1) (pc2 := 49) (lv2 := [(0, .ref 67), (1, .int x1)]) (st2 := [.ref 67]) (h2 := (sh_rep m.T (sh_u2 m.I 66 0 0) m.J)) rfl rfl rfl ?_
              refine sh_gI1 (len := 3) (x := m.I 66 4) (pc2 := 52) rfl rfl (sh_s66 hT.st) rfl rfl rfl ?_
              refine sh_w (i := (.iconst 1)) (len := 1) (pc2 := 53) (lv2 := [(0, .ref 67), (1, .int x1)]) (st2 := [.int 1, .int (m.I 66 4)]) (h2 := (sh_rep m.T (sh_u2 m.I 66 0 0) m.J)) rfl rfl rfl ?_
              exact kk
            rcases sh_ite e with ⟨c, e⟩ | ⟨c, e⟩
            · refine sh_Lk_lift (T := m.T) (I := sh_u2 m.I 66 0 0) (J := m.J) (s := m.s) (pc2 := 57) (lv2 := [(0, .ref 67), (1, .int x1)]) (st2 := [.int (-1)]) (I2 := sh_u2 m.I 66 0 0) (J2 := m.J) (fun hT v kk => ?_) ?_
              · refine sh_jc (c := .ne) (off := (5)) (pc2 := 56) false rfl (sh_Bnef c) rfl ?_
                refine sh_w (i := (.iconst (-1))) (len := 1) (pc2 := 57) (lv2 := [(0, .ref 67), (1, .int x1)]) (st2 := [.int (-1)]) (h2 := (sh_rep m.T (sh_u2 m.I 66 0 0) m.J)) rfl rfl rfl ?_
                exact kk
              obtain rfl := Option.some.inj e
              obtain ⟨rfl, rfl⟩ := tg
              exact sh_Lk_ret (i := .ireturn) rfl rfl rfl (Nat.le_of_ble_eq_true rfl) (Nat.le_of_ble_eq_true rfl)
            · refine sh_Lk_lift (T := m.T) (I := sh_u2 m.I 66 0 0) (J := m.J) (s := m.s) (pc2 := 60) (lv2 := [(0, .ref 67), (1, .int x1)]) (st2 := [.int 4, .int x1]) (I2 := sh_u2 m.I 66 0 0) (J2 := m.J) (fun hT v kk => ?_) ?_
              · refine sh_jc (c := .ne) (off := (5)) (pc2 := 58) true rfl (sh_Bnet c) rfl ?_
                refine sh_w (i := (.iload_n 1)) (len := 1) (pc2 := 59) (lv2 := [(0, .ref 67), (1, .int x1)]) (st2 := [.int x1]) (h2 := (sh_rep m.T (sh_u2 m.I 66 0 0) m.J)) rfl rfl rfl ?_
                refine sh_w (i := (.iconst 4)) (len := 1) (pc2 := 60) (lv2 := [(0, .ref 67), (1, .int x1)]) (st2 := [.int 4, .int x1]) (h2 := (sh_rep m.T (sh_u2 m.I 66 0 0) m.J)) rfl rfl rfl ?_
                exact kk
              rcases sh_ite e with ⟨c, e⟩ | ⟨c, e⟩
              · refine sh_Lk_lift (T := m.T) (I := sh_u2 m.I 66 0 0) (J := m.J) (s := m.s) (pc2 := 86) (lv2 := [(0, .ref 67), (1, .int x1)]) (st2 := [.int (m.I 66 87)]) (I2 := sh_u2 m.I 66 0 0) (J2 := m.J) (fun hT v kk => ?_) ?_
                · refine sh_jc (c := .ne) (off := (10)) (pc2 := 63) false rfl (sh_Bnef c) rfl ?_
                  refine sh_w (i := (.aload_n 0)) (len := 1) (pc2 := 64) (lv2 := [(0, .ref 67), (1, .int x1)]) (st2 := [.ref 67]) (h2 := (sh_rep m.T (sh_u2 m.I 66 0 0) m.J)) rfl rfl rfl ?_
                  refine sh_gI1 (len := 3) (x := m.I 66 87) (pc2 := 67) rfl rfl (sh_s66 hT.st) rfl rfl rfl ?_
                  refine sh_w (i := (.goto 19)) (len := 3) (pc2 := 86) (lv2 := [(0, .ref 67), (1, .int x1)]) (st2 := [.int (m.I 66 87)]) (h2 := (sh_rep m.T (sh_u2 m.I 66 0 0) m.J)) rfl rfl rfl ?_
                  exact kk
                obtain rfl := Option.some.inj e
                obtain ⟨rfl, rfl⟩ := tg
                exact sh_Lk_ret (i := .ireturn) rfl rfl rfl (Nat.le_of_ble_eq_true rfl) (Nat.le_of_ble_eq_true rfl)
              · refine sh_Lk_lift (T := m.T) (I := sh_u2 m.I 66 0 0) (J := m.J) (s := m.s) (pc2 := 72) (lv2 := [(0, .ref 67), (1, .int x1)]) (st2 := [.int 5, .int x1]) (I2 := sh_u2 m.I 66 0 0) (J2 := m.J) (fun hT v kk => ?_) ?_
                · refine sh_jc (c := .ne) (off := (10)) (pc2 := 70) true rfl (sh_Bnet c) rfl ?_
                  refine sh_w (i := (.iload_n 1)) (len := 1) (pc2 := 71) (lv2 := [(0, .ref 67), (1, .int x1)]) (st2 := [.int x1]) (h2 := (sh_rep m.T (sh_u2 m.I 66 0 0) m.J)) rfl rfl rfl ?_
                  refine sh_w (i := (.iconst 5)) (len := 1) (pc2 := 72) (lv2 := [(0, .ref 67), (1, .int x1)]) (st2 := [.int 5, .int x1]) (h2 := (sh_rep m.T (sh_u2 m.I 66 0 0) m.J)) rfl rfl rfl ?_
                  exact kk
                rcases sh_ite e with ⟨c, e⟩ | ⟨c, e⟩
                · refine sh_Lk_lift (T := m.T) (I := sh_u2 m.I 66 0 0) (J := m.J) (s := m.s) (pc2 := 86) (lv2 := [(0, .ref 67), (1, .int x1)]) (st2 := [.int (m.I 66 85)]) (I2 := sh_u2 m.I 66 0 0) (J2 := m.J) (fun hT v kk => ?_) ?_
                  · refine sh_jc (c := .ne) (off := (10)) (pc2 := 75) false rfl (sh_Bnef c) rfl ?_
                    refine sh_w (i := (.aload_n 0)) (len := 1) (pc2 := 76) (lv2 := [(0, .ref 67), (1, .int x1)]) (st2 := [.ref 67]) (h2 := (sh_rep m.T (sh_u2 m.I 66 0 0) m.J)) rfl rfl rfl ?_
                    refine sh_gI1 (len := 3) (x := m.I 66 85) (pc2 := 79) rfl rfl (sh_s66 hT.st) rfl rfl rfl ?_
                    refine sh_w (i := (.goto 7)) (len := 3) (pc2 := 86) (lv2 := [(0, .ref 67), (1, .int x1)]) (st2 := [.int (m.I 66 85)]) (h2 := (sh_rep m.T (sh_u2 m.I 66 0 0) m.J)) rfl rfl rfl ?_
                    exact kk
                  obtain rfl := Option.some.inj e
                  obtain ⟨rfl, rfl⟩ := tg
                  exact sh_Lk_ret (i := .ireturn) rfl rfl rfl (Nat.le_of_ble_eq_true rfl) (Nat.le_of_ble_eq_true rfl)
                · refine sh_Lk_lift (T := m.T) (I := sh_u2 m.I 66 0 0) (J := m.J) (s := m.s) (pc2 := 86) (lv2 := [(0, .ref 67), (1, .int x1)]) (st2 := [.int (m.I 66 86)]) (I2 := sh_u2 m.I 66 0 0) (J2 := m.J) (fun hT v kk => ?_) ?_
                  · refine sh_jc (c := .ne) (off := (10)) (pc2 := 82) true rfl (sh_Bnet c) rfl ?_
                    refine sh_w (i := (.aload_n 0)) (len := 1) (pc2 := 83) (lv2 := [(0, .ref 67), (1, .int x1)]) (st2 := [.ref 67]) (h2 := (sh_rep m.T (sh_u2 m.I 66 0 0) m.J)) rfl rfl rfl ?_
                    refine sh_gI1 (len := 3) (x := m.I 66 86) (pc2 := 86) rfl rfl (sh_s66 hT.st) rfl rfl rfl ?_
                    exact kk
                  obtain rfl := Option.some.inj e
                  obtain ⟨rfl, rfl⟩ := tg
                  exact sh_Lk_ret (i := .ireturn) rfl rfl rfl (Nat.le_of_ble_eq_true rfl) (Nat.le_of_ble_eq_true rfl)
theorem sl_335 {x1 : Int32} {x2 : Int32} {m m2 : sh_X} {o : Outcome} {z : Bool} (e : sf_335 x1 x2 m = some z) (tg : (sh_tZc m o m2) z) : sh_Lk 335 0 [(0, .ref 67), (1, .int x1), (2, .int x2)] [] m o m2 8 200 := by
  unfold sf_335 at e
  refine sh_Lk_lift (T := m.T) (I := m.I) (J := m.J) (s := m.s) (pc2 := 4) (lv2 := [(0, .ref 67), (1, .int x1), (2, .int x2)]) (st2 := [.int (m.I 66 4)]) (I2 := m.I) (J2 := m.J) (fun hT v kk => ?_) ?_
  · refine sh_w (i := (.aload_n 0)) (len := 1) (pc2 := 1) (lv2 := [(0, .ref 67), (1, .int x1), (2, .int x2)]) (st2 := [.ref 67]) (h2 := (sh_rep m.T m.I m.J)) rfl rfl rfl ?_
    refine sh_gI1 (len := 3) (x := m.I 66 4) (pc2 := 4) rfl rfl (sh_s66 hT.st) rfl rfl rfl ?_
    exact kk
  rcases sh_ite e with ⟨c, e⟩ | ⟨c, e⟩
  · refine sh_Lk_lift (T := m.T) (I := m.I) (J := m.J) (s := m.s) (pc2 := 8) (lv2 := [(0, .ref 67), (1, .int x1), (2, .int x2)]) (st2 := [.int x1]) (I2 := m.I) (J2 := m.J) (fun hT v kk => ?_) ?_
    · refine sh_j0 (c := .le) (off := (30)) (pc2 := 7) false rfl (sh_Blef c) rfl ?_
      refine sh_w (i := (.iload_n 1)) (len := 1) (pc2 := 8) (lv2 := [(0, .ref 67), (1, .int x1), (2, .int x2)]) (st2 := [.int x1]) (h2 := (sh_rep m.T m.I m.J)) rfl rfl rfl ?_
      exact kk
    rcases sh_ite e with ⟨c, e⟩ | ⟨c, e⟩
    · refine sh_Lk_lift (T := m.T) (I := m.I) (J := m.J) (s := m.s) (pc2 := 35) (lv2 := [(0, .ref 67), (1, .int x1), (2, .int x2)]) (st2 := [.int 0]) (I2 := m.I) (J2 := m.J) (fun hT v kk => ?_) ?_
      · refine sh_j0 (c := .lt) (off := (26)) (pc2 := 34) true rfl (sh_Bltt c) rfl ?_
        refine sh_w (i := (.iconst 0)) (len := 1) (pc2 := 35) (lv2 := [(0, .ref 67), (1, .int x1), (2, .int x2)]) (st2 := [.int 0]) (h2 := (sh_rep m.T m.I m.J)) rfl rfl rfl ?_
        exact kk
      obtain rfl := Option.some.inj e
      obtain ⟨rfl, rfl⟩ := tg
      exact sh_Lk_ret (i := .ireturn) rfl rfl rfl (Nat.le_of_ble_eq_true rfl) (Nat.le_of_ble_eq_true rfl)
    · refine sh_Lk_lift (T := m.T) (I := m.I) (J := m.J) (s := m.s) (pc2 := 13) (lv2 := [(0, .ref 67), (1, .int x1), (2, .int x2)]) (st2 := [.int 3, .int x1]) (I2 := m.I) (J2 := m.J) (fun hT v kk => ?_) ?_
      · refine sh_j0 (c := .lt) (off := (26)) (pc2 := 11) false rfl (sh_Bltf c) rfl ?_
        refine sh_w (i := (.iload_n 1)) (len := 1) (pc2 := 12) (lv2 := [(0, .ref 67), (1, .int x1), (2, .int x2)]) (st2 := [.int x1]) (h2 := (sh_rep m.T m.I m.J)) rfl rfl rfl ?_
        refine sh_w (i := (.iconst 3)) (len := 1) (pc2 := 13) (lv2 := [(0, .ref 67), (1, .int x1), (2, .int x2)]) (st2 := [.int 3, .int x1]) (h2 := (sh_rep m.T m.I m.J)) rfl rfl rfl ?_
        exact kk
      rcases sh_ite e with ⟨c, e⟩ | ⟨c, e⟩
      · refine sh_Lk_lift (T := m.T) (I := m.I) (J := m.J) (s := m.s) (pc2 := 17) (lv2 := [(0, .ref 67), (1, .int x1), (2, .int x2)]) (st2 := [.int x2]) (I2 := m.I) (J2 := m.J) (fun hT v kk => ?_) ?_
        · refine sh_jc (c := .ge) (off := (21)) (pc2 := 16) false rfl (sh_Bgef c) rfl ?_
          refine sh_w (i := (.iload_n 2)) (len := 1) (pc2 := 17) (lv2 := [(0, .ref 67), (1, .int x1), (2, .int x2)]) (st2 := [.int x2]) (h2 := (sh_rep m.T m.I m.J)) rfl rfl rfl ?_
          exact kk
        rcases sh_ite e with ⟨c, e⟩ | ⟨c, e⟩
        · refine sh_Lk_lift (T := m.T) (I := m.I) (J := m.J) (s := m.s) (pc2 := 35) (lv2 := [(0, .ref 67), (1, .int x1), (2, .int x2)]) (st2 := [.int 0]) (I2 := m.I) (J2 := m.J) (fun hT v kk => ?_) ?_
          · refine sh_j0 (c := .lt) (off := (17)) (pc2 := 34) true rfl (sh_Bltt c) rfl ?_
            refine sh_w (i := (.iconst 0)) (len := 1) (pc2 := 35) (lv2 := [(0, .ref 67), (1, .int x1), (2, .int x2)]) (st2 := [.int 0]) (h2 := (sh_rep m.T m.I m.J)) rfl rfl rfl ?_
            exact kk
          obtain rfl := Option.some.inj e
          obtain ⟨rfl, rfl⟩ := tg
          exact sh_Lk_ret (i := .ireturn) rfl rfl rfl (Nat.le_of_ble_eq_true rfl) (Nat.le_of_ble_eq_true rfl)
        · refine sh_Lk_lift (T := m.T) (I := m.I) (J := m.J) (s := m.s) (pc2 := 26) (lv2 := [(0, .ref 67), (1, .int x1), (2, .int x2)]) (st2 := [.int x1, .ref 100, .int x2]) (I2 := m.I) (J2 := m.J) (fun hT v kk => ?_) ?_
          · refine sh_j0 (c := .lt) (off := (17)) (pc2 := 20) false rfl (sh_Bltf c) rfl ?_
            refine sh_w (i := (.iload_n 2)) (len := 1) (pc2 := 21) (lv2 := [(0, .ref 67), (1, .int x1), (2, .int x2)]) (st2 := [.int x2]) (h2 := (sh_rep m.T m.I m.J)) rfl rfl rfl ?_
            refine sh_w (i := (.aload_n 0)) (len := 1) (pc2 := 22) (lv2 := [(0, .ref 67), (1, .int x1), (2, .int x2)]) (st2 := [.ref 67, .int x2]) (h2 := (sh_rep m.T m.I m.J)) rfl rfl rfl ?_
            refine sh_gR1 (len := 3) (x := .ref 100) (pc2 := 25) rfl rfl (sh_s66 hT.st) rfl rfl ?_
            refine sh_w (i := (.iload_n 1)) (len := 1) (pc2 := 26) (lv2 := [(0, .ref 67), (1, .int x1), (2, .int x2)]) (st2 := [.int x1, .ref 100, .int x2]) (h2 := (sh_rep m.T m.I m.J)) rfl rfl rfl ?_
            exact kk
          obtain ⟨c, e⟩ := sh_gd e
          refine sh_Lk_lift (T := m.T) (I := m.I) (J := m.J) (s := m.s) (pc2 := 27) (lv2 := [(0, .ref 67), (1, .int x1), (2, .int x2)]) (st2 := [.int (m.I 99 (Int32.toNatClampNeg x1)), .int x2]) (I2 := m.I) (J2 := m.J) (fun hT v kk => ?_) ?_
          · refine sh_ia1 (x := m.I 99 (Int32.toNatClampNeg x1)) (pc2 := 27) rfl (sh_s99 hT.st) (sh_okb1 c) (sh_okb2 c) rfl rfl ?_
            exact kk
          rcases sh_ite e with ⟨c, e⟩ | ⟨c, e⟩
          · refine sh_Lk_lift (T := m.T) (I := m.I) (J := m.J) (s := m.s) (pc2 := 35) (lv2 := [(0, .ref 67), (1, .int x1), (2, .int x2)]) (st2 := [.int 1]) (I2 := m.I) (J2 := m.J) (fun hT v kk => ?_) ?_
            · refine sh_jc (c := .ge) (off := (7)) (pc2 := 30) false rfl (sh_Bgef c) rfl ?_
              refine sh_w (i := (.iconst 1)) (len := 1) (pc2 := 31) (lv2 := [(0, .ref 67), (1, .int x1), (2, .int x2)]) (st2 := [.int 1]) (h2 := (sh_rep m.T m.I m.J)) rfl rfl rfl ?_
              refine sh_w (i := (.goto 4)) (len := 3) (pc2 := 35) (lv2 := [(0, .ref 67), (1, .int x1), (2, .int x2)]) (st2 := [.int 1]) (h2 := (sh_rep m.T m.I m.J)) rfl rfl rfl ?_
              exact kk
            obtain rfl := Option.some.inj e
            obtain ⟨rfl, rfl⟩ := tg
            exact sh_Lk_ret (i := .ireturn) rfl rfl rfl (Nat.le_of_ble_eq_true rfl) (Nat.le_of_ble_eq_true rfl)
          · refine sh_Lk_lift (T := m.T) (I := m.I) (J := m.J) (s := m.s) (pc2 := 35) (lv2 := [(0, .ref 67), (1, .int x1), (2, .int x2)]) (st2 := [.int 0]) (I2 := m.I) (J2 := m.J) (fun hT v kk => ?_) ?_
            · refine sh_jc (c := .ge) (off := (7)) (pc2 := 34) true rfl (sh_Bget c) rfl ?_
              refine sh_w (i := (.iconst 0)) (len := 1) (pc2 := 35) (lv2 := [(0, .ref 67), (1, .int x1), (2, .int x2)]) (st2 := [.int 0]) (h2 := (sh_rep m.T m.I m.J)) rfl rfl rfl ?_
              exact kk
            obtain rfl := Option.some.inj e
            obtain ⟨rfl, rfl⟩ := tg
            exact sh_Lk_ret (i := .ireturn) rfl rfl rfl (Nat.le_of_ble_eq_true rfl) (Nat.le_of_ble_eq_true rfl)
      · refine sh_Lk_lift (T := m.T) (I := m.I) (J := m.J) (s := m.s) (pc2 := 35) (lv2 := [(0, .ref 67), (1, .int x1), (2, .int x2)]) (st2 := [.int 0]) (I2 := m.I) (J2 := m.J) (fun hT v kk => ?_) ?_
        · refine sh_jc (c := .ge) (off := (21)) (pc2 := 34) true rfl (sh_Bget c) rfl ?_
          refine sh_w (i := (.iconst 0)) (len := 1) (pc2 := 35) (lv2 := [(0, .ref 67), (1, .int x1), (2, .int x2)]) (st2 := [.int 0]) (h2 := (sh_rep m.T m.I m.J)) rfl rfl rfl ?_
          exact kk
        obtain rfl := Option.some.inj e
        obtain ⟨rfl, rfl⟩ := tg
        exact sh_Lk_ret (i := .ireturn) rfl rfl rfl (Nat.le_of_ble_eq_true rfl) (Nat.le_of_ble_eq_true rfl)
  · refine sh_Lk_lift (T := m.T) (I := m.I) (J := m.J) (s := m.s) (pc2 := 35) (lv2 := [(0, .ref 67), (1, .int x1), (2, .int x2)]) (st2 := [.int 0]) (I2 := m.I) (J2 := m.J) (fun hT v kk => ?_) ?_
    · refine sh_j0 (c := .le) (off := (30)) (pc2 := 34) true rfl (sh_Blet c) rfl ?_
      refine sh_w (i := (.iconst 0)) (len := 1) (pc2 := 35) (lv2 := [(0, .ref 67), (1, .int x1), (2, .int x2)]) (st2 := [.int 0]) (h2 := (sh_rep m.T m.I m.J)) rfl rfl rfl ?_
      exact kk
    obtain rfl := Option.some.inj e
    obtain ⟨rfl, rfl⟩ := tg
    exact sh_Lk_ret (i := .ireturn) rfl rfl rfl (Nat.le_of_ble_eq_true rfl) (Nat.le_of_ble_eq_true rfl)
theorem sl_334_15 {x1 : Int32} {x2 : Int32} {y1 : Bool} {m m2 : sh_X} {o : Outcome} {z : (Int32 × sh_X)} (e : sf_334_15 x1 x2 y1 m = some z) (tg : (sh_tI o m2) z) : sh_Lk 334 15 [(0, .ref 67), (1, .int x1), (2, .int x2)] [.int (sh_b2 y1), .ref 67] m o m2 9 222 := by
  unfold sf_334_15 at e
  refine sh_Lk_lift (T := m.T) (I := m.I) (J := m.J) (s := m.s) (pc2 := 22) (lv2 := [(0, .ref 67), (1, .int x1), (2, .int x2)]) (st2 := [.int (sh_b2 y1)]) (I2 := sh_u2 m.I 66 0 (sh_b2 y1)) (J2 := m.J) (fun hT v kk => ?_) ?_
  · refine sh_pI1 (x := sh_b2 y1) (pc2 := 18) rfl rfl (sh_s66 hT.st) rfl rfl rfl rfl ?_
    refine sh_w (i := (.aload_n 0)) (len := 1) (pc2 := 19) (lv2 := [(0, .ref 67), (1, .int x1), (2, .int x2)]) (st2 := [.ref 67]) (h2 := (sh_rep m.T (sh_u2 m.I 66 0 (sh_b2 y1)) m.J)) rfl rfl rfl ?_
    refine sh_gI1 (len := 3) (x := sh_b2 y1) (pc2 := 22) rfl rfl (sh_s66 hT.st) rfl rfl rfl ?_
    exact kk
  rcases sh_ite e with ⟨c, e⟩ | ⟨c, e⟩
  · refine sh_Lk_lift (T := m.T) (I := sh_u2 m.I 66 0 (sh_b2 y1)) (J := m.J) (s := m.s) (pc2 := 36) (lv2 := [(0, .ref 67), (1, .int x1), (2, .int x2)]) (st2 := [.int ((256 * x1) + x2), .ref 102]) (I2 := sh_u2 m.I 66 0 (sh_b2 y1)) (J2 := m.J) (fun hT v kk => ?_) ?_
    · refine sh_j0 (c := .ne) (off := (18)) (pc2 := 25) false rfl (sh_Bnef c) rfl ?_
      refine sh_w (i := (.aload_n 0)) (len := 1) (pc2 := 26) (lv2 := [(0, .ref 67), (1, .int x1), (2, .int x2)]) (st2 := [.ref 67]) (h2 := (sh_rep m.T (sh_u2 m.I 66 0 (sh_b2 y1)) m.J)) rfl rfl rfl ?_
      refine sh_gR1 (len := 3) (x := .ref 102) (pc2 := 29) rfl rfl (sh_s66 hT.st) rfl rfl ?_
      refine sh_w (i := (.sipush 256)) (len := 3) (pc2 := 32) (lv2 := [(0, .ref 67), (1, .int x1), (2, .int x2)]) (st2 := [.int 256, .ref 102]) (h2 := (sh_rep m.T (sh_u2 m.I 66 0 (sh_b2 y1)) m.J)) rfl rfl rfl ?_
      refine sh_w (i := (.iload_n 1)) (len := 1) (pc2 := 33) (lv2 := [(0, .ref 67), (1, .int x1), (2, .int x2)]) (st2 := [.int x1, .int 256, .ref 102]) (h2 := (sh_rep m.T (sh_u2 m.I 66 0 (sh_b2 y1)) m.J)) rfl rfl rfl ?_
      refine sh_w (i := .imul) (len := 1) (pc2 := 34) (lv2 := [(0, .ref 67), (1, .int x1), (2, .int x2)]) (st2 := [.int (256 * x1), .ref 102]) (h2 := (sh_rep m.T (sh_u2 m.I 66 0 (sh_b2 y1)) m.J)) rfl rfl rfl ?_
      refine sh_w (i := (.iload_n 2)) (len := 1) (pc2 := 35) (lv2 := [(0, .ref 67), (1, .int x1), (2, .int x2)]) (st2 := [.int x2, .int (256 * x1), .ref 102]) (h2 := (sh_rep m.T (sh_u2 m.I 66 0 (sh_b2 y1)) m.J)) rfl rfl rfl ?_
      refine sh_w (i := .iadd) (len := 1) (pc2 := 36) (lv2 := [(0, .ref 67), (1, .int x1), (2, .int x2)]) (st2 := [.int ((256 * x1) + x2), .ref 102]) (h2 := (sh_rep m.T (sh_u2 m.I 66 0 (sh_b2 y1)) m.J)) rfl rfl rfl ?_
      exact kk
    obtain ⟨c, e⟩ := sh_gd e
    refine sh_Lk_lift (T := m.T) (I := sh_u2 m.I 66 0 (sh_b2 y1)) (J := m.J) (s := m.s) (pc2 := 41) (lv2 := [(0, .ref 67), (1, .int x1), (2, .int x2)]) (st2 := [.int (m.I 101 (Int32.toNatClampNeg ((256 * x1) + x2)))]) (I2 := sh_u2 m.I 66 0 (sh_b2 y1)) (J2 := m.J) (fun hT v kk => ?_) ?_
    · refine sh_ia1 (x := m.I 101 (Int32.toNatClampNeg ((256 * x1) + x2))) (pc2 := 37) rfl (sh_s101 hT.st) (sh_okb1 c) (sh_okb2 c) rfl rfl ?_
      refine sh_w (i := (.goto 4)) (len := 3) (pc2 := 41) (lv2 := [(0, .ref 67), (1, .int x1), (2, .int x2)]) (st2 := [.int (m.I 101 (Int32.toNatClampNeg ((256 * x1) + x2)))]) (h2 := (sh_rep m.T (sh_u2 m.I 66 0 (sh_b2 y1)) m.J)) rfl rfl rfl ?_
      exact kk
    obtain rfl := Option.some.inj e
    obtain ⟨rfl, rfl⟩ := tg
    exact sh_Lk_ret (i := .ireturn) rfl rfl rfl (Nat.le_of_ble_eq_true rfl) (Nat.le_of_ble_eq_true rfl)
  · refine sh_Lk_lift (T := m.T) (I := sh_u2 m.I 66 0 (sh_b2 y1)) (J := m.J) (s := m.s) (pc2 := 41) (lv2 := [(0, .ref 67), (1, .int x1), (2, .int x2)]) (st2 := [.int 0]) (I2 := sh_u2 m.I 66 0 (sh_b2 y1)) (J2 := m.J) (fun hT v kk => ?_) ?_
    · refine sh_j0 (c := .ne) (off := (18)) (pc2 := 40) true rfl (sh_Bnet c) rfl ?_
      refine sh_w (i := (.iconst 0)) (len := 1) (pc2 := 41) (lv2 := [(0, .ref 67), (1, .int x1), (2, .int x2)]) (st2 := [.int 0]) (h2 := (sh_rep m.T (sh_u2 m.I 66 0 (sh_b2 y1)) m.J)) rfl rfl rfl ?_
      exact kk
    obtain rfl := Option.some.inj e
    obtain ⟨rfl, rfl⟩ := tg
    exact sh_Lk_ret (i := .ireturn) rfl rfl rfl (Nat.le_of_ble_eq_true rfl) (Nat.le_of_ble_eq_true rfl)
theorem sl_334 {x1 : Int32} {x2 : Int32} {m m2 : sh_X} {o : Outcome} {z : (Int32 × sh_X)} (e : sf_334 x1 x2 m = some z) (tg : (sh_tI o m2) z) : sh_Lk 334 0 [(0, .ref 67), (1, .int x1), (2, .int x2)] [] m o m2 9 222 := by
  unfold sf_334 at e
  refine sh_Lk_lift (T := m.T) (I := m.I) (J := m.J) (s := m.s) (pc2 := 4) (lv2 := [(0, .ref 67), (1, .int x1), (2, .int x2)]) (st2 := [.int x2, .int x1, .ref 67, .ref 67]) (I2 := m.I) (J2 := m.J) (fun hT v kk => ?_) ?_
  · refine sh_w (i := (.aload_n 0)) (len := 1) (pc2 := 1) (lv2 := [(0, .ref 67), (1, .int x1), (2, .int x2)]) (st2 := [.ref 67]) (h2 := (sh_rep m.T m.I m.J)) rfl rfl rfl ?_
    refine sh_w (i := (.aload_n 0)) (len := 1) (pc2 := 2) (lv2 := [(0, .ref 67), (1, .int x1), (2, .int x2)]) (st2 := [.ref 67, .ref 67]) (h2 := (sh_rep m.T m.I m.J)) rfl rfl rfl ?_
    refine sh_w (i := (.iload_n 1)) (len := 1) (pc2 := 3) (lv2 := [(0, .ref 67), (1, .int x1), (2, .int x2)]) (st2 := [.int x1, .ref 67, .ref 67]) (h2 := (sh_rep m.T m.I m.J)) rfl rfl rfl ?_
    refine sh_w (i := (.iload_n 2)) (len := 1) (pc2 := 4) (lv2 := [(0, .ref 67), (1, .int x1), (2, .int x2)]) (st2 := [.int x2, .int x1, .ref 67, .ref 67]) (h2 := (sh_rep m.T m.I m.J)) rfl rfl rfl ?_
    exact kk
  obtain ⟨r1, e1, e⟩ := sh_bc_e e
  refine sh_Lk_cV (r := (some (.int (sh_b2 r1)))) (st2 := [.int (sh_b2 r1), .ref 67]) (pc2 := 7) (k2 := 335) (a := 66) (as := [.ref 67, .int x1, .int x2]) (rest := [.ref 67]) rfl rfl rfl (fun hT => (sh_s66 hT.st)) rfl rfl ⟨Nat.le_of_ble_eq_true rfl, Nat.le_of_ble_eq_true rfl⟩ (sl_335 e1 ⟨rfl, rfl⟩) rfl rfl (Nat.le_of_ble_eq_true rfl) (Nat.le_of_ble_eq_true rfl) ?_
  rcases sh_ite e with ⟨c, e⟩ | ⟨c, e⟩
  · refine sh_Lk_lift (T := m.T) (I := m.I) (J := m.J) (s := m.s) (pc2 := 15) (lv2 := [(0, .ref 67), (1, .int x1), (2, .int x2)]) (st2 := [.int 0, .ref 67]) (I2 := m.I) (J2 := m.J) (fun hT v kk => ?_) ?_
    · refine sh_j0 (c := .eq) (off := (7)) (pc2 := 10) false rfl (sh_Zeqf c) rfl ?_
      refine sh_w (i := (.iconst 0)) (len := 1) (pc2 := 11) (lv2 := [(0, .ref 67), (1, .int x1), (2, .int x2)]) (st2 := [.int 0, .ref 67]) (h2 := (sh_rep m.T m.I m.J)) rfl rfl rfl ?_
      refine sh_w (i := (.goto 4)) (len := 3) (pc2 := 15) (lv2 := [(0, .ref 67), (1, .int x1), (2, .int x2)]) (st2 := [.int 0, .ref 67]) (h2 := (sh_rep m.T m.I m.J)) rfl rfl rfl ?_
      exact kk
    exact sh_Lk_sub (sh_sub_c rfl (sh_sub_c rfl (sh_sub_c rfl (sh_sub_n)))) (sl_334_15 e tg)
  · refine sh_Lk_lift (T := m.T) (I := m.I) (J := m.J) (s := m.s) (pc2 := 15) (lv2 := [(0, .ref 67), (1, .int x1), (2, .int x2)]) (st2 := [.int 1, .ref 67]) (I2 := m.I) (J2 := m.J) (fun hT v kk => ?_) ?_
    · refine sh_j0 (c := .eq) (off := (7)) (pc2 := 14) true rfl (sh_Zeqt c) rfl ?_
      refine sh_w (i := (.iconst 1)) (len := 1) (pc2 := 15) (lv2 := [(0, .ref 67), (1, .int x1), (2, .int x2)]) (st2 := [.int 1, .ref 67]) (h2 := (sh_rep m.T m.I m.J)) rfl rfl rfl ?_
      exact kk
    exact sh_Lk_sub (sh_sub_c rfl (sh_sub_c rfl (sh_sub_c rfl (sh_sub_n)))) (sl_334_15 e tg)
theorem sl_336_93 {y1 : Int32} {y2 : Int64} {m m2 : sh_X} {o : Outcome} {z : (Unit × sh_X)} (e : sf_336_93 y1 y2 m = some z) (tg : (sh_tV o m2) z) : sh_Lk 336 93 [] [.long y2, .int y1, .ref 104] m o m2 9 222 := by
  unfold sf_336_93 at e
  obtain ⟨c, e⟩ := sh_gd e
  refine sh_Lk_lift (T := m.T) (I := m.I) (J := m.J) (s := m.s) (pc2 := 94) (lv2 := []) (st2 := []) (I2 := m.I) (J2 := sh_u2 m.J 103 (Int32.toNatClampNeg y1) y2) (fun hT v kk => ?_) ?_
  · refine sh_ls1 (x := y2) (i := y1) (pc2 := 94) rfl (sh_s103 hT.st) (sh_okb1 c) (sh_okb2 c) rfl ?_
    exact kk
  obtain rfl := Option.some.inj e
  obtain ⟨rfl, rfl⟩ := tg
  exact sh_Lk_ret (i := .return_) rfl rfl rfl (Nat.le_of_ble_eq_true rfl) (Nat.le_of_ble_eq_true rfl)
theorem sl_336_20 {x1 : Int32} {x2 : Int32} {x3 : Int32} {x4 : Int32} {y1 : Bool} {m m2 : sh_X} {o : Outcome} {z : (Unit × sh_X)} (e : sf_336_20 x1 x2 x3 x4 y1 m = some z) (tg : (sh_tV o m2) z) : sh_Lk 336 20 [(0, .ref 67), (1, .int x1), (2, .int x2), (3, .int x3), (4, .int x4)] [.int (sh_b2 y1), .ref 67] m o m2 9 222 := by
  unfold sf_336_20 at e
  refine sh_Lk_lift (T := m.T) (I := m.I) (J := m.J) (s := m.s) (pc2 := 28) (lv2 := [(0, .ref 67), (1, .int x1), (2, .int x2), (3, .int x3), (4, .int x4)]) (st2 := [.int 1, .int (sh_b2 y1)]) (I2 := sh_u2 m.I 66 0 (sh_b2 y1)) (J2 := m.J) (fun hT v kk => ?_) ?_
  · refine sh_pI1 (x := sh_b2 y1) (pc2 := 23) rfl rfl (sh_s66 hT.st) rfl rfl rfl rfl ?_
    refine sh_w (i := (.aload_n 0)) (len := 1) (pc2 := 24) (lv2 := [(0, .ref 67), (1, .int x1), (2, .int x2), (3, .int x3), (4, .int x4)]) (st2 := [.ref 67]) (h2 := (sh_rep m.T (sh_u2 m.I 66 0 (sh_b2 y1)) m.J)) rfl rfl rfl ?_
    refine sh_gI1 (len := 3) (x := sh_b2 y1) (pc2 := 27) rfl rfl (sh_s66 hT.st) rfl rfl rfl ?_
    refine sh_w (i := (.iconst 1)) (len := 1) (pc2 := 28) (lv2 := [(0, .ref 67), (1, .int x1), (2, .int x2), (3, .int x3), (4, .int x4)]) (st2 := [.int 1, .int (sh_b2 y1)]) (h2 := (sh_rep m.T (sh_u2 m.I 66 0 (sh_b2 y1)) m.J)) rfl rfl rfl ?_
    exact kk
  rcases sh_ite e with ⟨c, e⟩ | ⟨c, e⟩
  · refine sh_Lk_lift (T := m.T) (I := sh_u2 m.I 66 0 (sh_b2 y1)) (J := m.J) (s := m.s) (pc2 := 31) (lv2 := [(0, .ref 67), (1, .int x1), (2, .int x2), (3, .int x3), (4, .int x4)]) (st2 := []) (I2 := sh_u2 m.I 66 0 (sh_b2 y1)) (J2 := m.J) (fun hT v kk => ?_) ?_
    · refine sh_jc (c := .ne) (off := (4)) (pc2 := 31) false rfl (sh_Bnef c) rfl ?_
      exact kk
    obtain rfl := Option.some.inj e
    obtain ⟨rfl, rfl⟩ := tg
    exact sh_Lk_ret (i := .return_) rfl rfl rfl (Nat.le_of_ble_eq_true rfl) (Nat.le_of_ble_eq_true rfl)
  · refine sh_Lk_lift (T := m.T) (I := sh_u2 m.I 66 0 (sh_b2 y1)) (J := m.J) (s := m.s) (pc2 := 43) (lv2 := [(0, .ref 67), (1, .int x1), (2, .int x2), (3, .int x3), (4, .int x4)]) (st2 := [.int ((256 * x1) + x2), .ref 102]) (I2 := sh_u2 m.I 66 0 (sh_b2 y1)) (J2 := m.J) (fun hT v kk => ?_) ?_
    · refine sh_jc (c := .ne) (off := (4)) (pc2 := 32) true rfl (sh_Bnet c) rfl ?_
      refine sh_w (i := (.aload_n 0)) (len := 1) (pc2 := 33) (lv2 := [(0, .ref 67), (1, .int x1), (2, .int x2), (3, .int x3), (4, .int x4)]) (st2 := [.ref 67]) (h2 := (sh_rep m.T (sh_u2 m.I 66 0 (sh_b2 y1)) m.J)) rfl rfl rfl ?_
      refine sh_gR1 (len := 3) (x := .ref 102) (pc2 := 36) rfl rfl (sh_s66 hT.st) rfl rfl ?_
      refine sh_w (i := (.sipush 256)) (len := 3) (pc2 := 39) (lv2 := [(0, .ref 67), (1, .int x1), (2, .int x2), (3, .int x3), (4, .int x4)]) (st2 := [.int 256, .ref 102]) (h2 := (sh_rep m.T (sh_u2 m.I 66 0 (sh_b2 y1)) m.J)) rfl rfl rfl ?_
      refine sh_w (i := (.iload_n 1)) (len := 1) (pc2 := 40) (lv2 := [(0, .ref 67), (1, .int x1), (2, .int x2), (3, .int x3), (4, .int x4)]) (st2 := [.int x1, .int 256, .ref 102]) (h2 := (sh_rep m.T (sh_u2 m.I 66 0 (sh_b2 y1)) m.J)) rfl rfl rfl ?_
      refine sh_w (i := .imul) (len := 1) (pc2 := 41) (lv2 := [(0, .ref 67), (1, .int x1), (2, .int x2), (3, .int x3), (4, .int x4)]) (st2 := [.int (256 * x1), .ref 102]) (h2 := (sh_rep m.T (sh_u2 m.I 66 0 (sh_b2 y1)) m.J)) rfl rfl rfl ?_
      refine sh_w (i := (.iload_n 2)) (len := 1) (pc2 := 42) (lv2 := [(0, .ref 67), (1, .int x1), (2, .int x2), (3, .int x3), (4, .int x4)]) (st2 := [.int x2, .int (256 * x1), .ref 102]) (h2 := (sh_rep m.T (sh_u2 m.I 66 0 (sh_b2 y1)) m.J)) rfl rfl rfl ?_
      refine sh_w (i := .iadd) (len := 1) (pc2 := 43) (lv2 := [(0, .ref 67), (1, .int x1), (2, .int x2), (3, .int x3), (4, .int x4)]) (st2 := [.int ((256 * x1) + x2), .ref 102]) (h2 := (sh_rep m.T (sh_u2 m.I 66 0 (sh_b2 y1)) m.J)) rfl rfl rfl ?_
      exact kk
    obtain ⟨c, e⟩ := sh_gd e
    refine sh_Lk_lift (T := m.T) (I := sh_u2 m.I 66 0 (sh_b2 y1)) (J := m.J) (s := m.s) (pc2 := 76) (lv2 := [(6, .long (((Int32.toInt64 x3) <<< (Int32.toInt64 32 &&& 63)) ||| ((Int32.toInt64 x4) &&& (4294967295 : Int64)))), (5, .int (m.I 101 (Int32.toNatClampNeg ((256 * x1) + x2)))), (0, .ref 67), (1, .int x1), (2, .int x2), (3, .int x3), (4, .int x4)]) (st2 := [.int 64, .int (m.I 101 (Int32.toNatClampNeg ((256 * x1) + x2))), .int ((256 * x1) + x2), .ref 104]) (I2 := sh_u2 m.I 66 0 (sh_b2 y1)) (J2 := m.J) (fun hT v kk => ?_) ?_
    · refine sh_ia1 (x := m.I 101 (Int32.toNatClampNeg ((256 * x1) + x2))) (pc2 := 44) rfl (sh_s101 hT.st) (sh_okb1 c) (sh_okb2 c) rfl rfl ?_
      refine sh_w (i := (.istore 5)) (len := 2) (pc2 := 46) (lv2 := [(5, .int (m.I 101 (Int32.toNatClampNeg ((256 * x1) + x2)))), (0, .ref 67), (1, .int x1), (2, .int x2), (3, .int x3), (4, .int x4)]) (st2 := []) (h2 := (sh_rep m.T (sh_u2 m.I 66 0 (sh_b2 y1)) m.J)) rfl rfl rfl ?_
      refine sh_w (i := (.iload_n 3)) (len := 1) (pc2 := 47) (lv2 := [(5, .int (m.I 101 (Int32.toNatClampNeg ((256 * x1) + x2)))), (0, .ref 67), (1, .int x1), (2, .int x2), (3, .int x3), (4, .int x4)]) (st2 := [.int x3]) (h2 := (sh_rep m.T (sh_u2 m.I 66 0 (sh_b2 y1)) m.J)) rfl rfl rfl ?_
      refine sh_w (i := .i2l) (len := 1) (pc2 := 48) (lv2 := [(5, .int (m.I 101 (Int32.toNatClampNeg ((256 * x1) + x2)))), (0, .ref 67), (1, .int x1), (2, .int x2), (3, .int x3), (4, .int x4)]) (st2 := [.long (Int32.toInt64 x3)]) (h2 := (sh_rep m.T (sh_u2 m.I 66 0 (sh_b2 y1)) m.J)) rfl rfl rfl ?_
      refine sh_w (i := (.bipush 32)) (len := 2) (pc2 := 50) (lv2 := [(5, .int (m.I 101 (Int32.toNatClampNeg ((256 * x1) + x2)))), (0, .ref 67), (1, .int x1), (2, .int x2), (3, .int x3), (4, .int x4)]) (st2 := [.int 32, .long (Int32.toInt64 x3)]) (h2 := (sh_rep m.T (sh_u2 m.I 66 0 (sh_b2 y1)) m.J)) rfl rfl rfl ?_
      refine sh_w (i := .lshl) (len := 1) (pc2 := 51) (lv2 := [(5, .int (m.I 101 (Int32.toNatClampNeg ((256 * x1) + x2)))), (0, .ref 67), (1, .int x1), (2, .int x2), (3, .int x3), (4, .int x4)]) (st2 := [.long ((Int32.toInt64 x3) <<< (Int32.toInt64 32 &&& 63))]) (h2 := (sh_rep m.T (sh_u2 m.I 66 0 (sh_b2 y1)) m.J)) rfl rfl rfl ?_
      refine sh_w (i := (.iload 4)) (len := 2) (pc2 := 53) (lv2 := [(5, .int (m.I 101 (Int32.toNatClampNeg ((256 * x1) + x2)))), (0, .ref 67), (1, .int x1), (2, .int x2), (3, .int x3), (4, .int x4)]) (st2 := [.int x4, .long ((Int32.toInt64 x3) <<< (Int32.toInt64 32 &&& 63))]) (h2 := (sh_rep m.T (sh_u2 m.I 66 0 (sh_b2 y1)) m.J)) rfl rfl rfl ?_
      refine sh_w (i := .i2l) (len := 1) (pc2 := 54) (lv2 := [(5, .int (m.I 101 (Int32.toNatClampNeg ((256 * x1) + x2)))), (0, .ref 67), (1, .int x1), (2, .int x2), (3, .int x3), (4, .int x4)]) (st2 := [.long (Int32.toInt64 x4), .long ((Int32.toInt64 x3) <<< (Int32.toInt64 32 &&& 63))]) (h2 := (sh_rep m.T (sh_u2 m.I 66 0 (sh_b2 y1)) m.J)) rfl rfl rfl ?_
      refine sh_w (i := (.ldc2_w 638)) (len := 3) (pc2 := 57) (lv2 := [(5, .int (m.I 101 (Int32.toNatClampNeg ((256 * x1) + x2)))), (0, .ref 67), (1, .int x1), (2, .int x2), (3, .int x3), (4, .int x4)]) (st2 := [.long 4294967295, .long (Int32.toInt64 x4), .long ((Int32.toInt64 x3) <<< (Int32.toInt64 32 &&& 63))]) (h2 := (sh_rep m.T (sh_u2 m.I 66 0 (sh_b2 y1)) m.J)) rfl rfl rfl ?_
      refine sh_w (i := .land) (len := 1) (pc2 := 58) (lv2 := [(5, .int (m.I 101 (Int32.toNatClampNeg ((256 * x1) + x2)))), (0, .ref 67), (1, .int x1), (2, .int x2), (3, .int x3), (4, .int x4)]) (st2 := [.long ((Int32.toInt64 x4) &&& (4294967295 : Int64)), .long ((Int32.toInt64 x3) <<< (Int32.toInt64 32 &&& 63))]) (h2 := (sh_rep m.T (sh_u2 m.I 66 0 (sh_b2 y1)) m.J)) rfl rfl rfl ?_
      refine sh_w (i := .lor) (len := 1) (pc2 := 59) (lv2 := [(5, .int (m.I 101 (Int32.toNatClampNeg ((256 * x1) + x2)))), (0, .ref 67), (1, .int x1), (2, .int x2), (3, .int x3), (4, .int x4)]) (st2 := [.long (((Int32.toInt64 x3) <<< (Int32.toInt64 32 &&& 63)) ||| ((Int32.toInt64 x4) &&& (4294967295 : Int64)))]) (h2 := (sh_rep m.T (sh_u2 m.I 66 0 (sh_b2 y1)) m.J)) rfl rfl rfl ?_
      refine sh_w (i := (.lstore 6)) (len := 2) (pc2 := 61) (lv2 := [(6, .long (((Int32.toInt64 x3) <<< (Int32.toInt64 32 &&& 63)) ||| ((Int32.toInt64 x4) &&& (4294967295 : Int64)))), (5, .int (m.I 101 (Int32.toNatClampNeg ((256 * x1) + x2)))), (0, .ref 67), (1, .int x1), (2, .int x2), (3, .int x3), (4, .int x4)]) (st2 := []) (h2 := (sh_rep m.T (sh_u2 m.I 66 0 (sh_b2 y1)) m.J)) rfl rfl rfl ?_
      refine sh_w (i := (.aload_n 0)) (len := 1) (pc2 := 62) (lv2 := [(6, .long (((Int32.toInt64 x3) <<< (Int32.toInt64 32 &&& 63)) ||| ((Int32.toInt64 x4) &&& (4294967295 : Int64)))), (5, .int (m.I 101 (Int32.toNatClampNeg ((256 * x1) + x2)))), (0, .ref 67), (1, .int x1), (2, .int x2), (3, .int x3), (4, .int x4)]) (st2 := [.ref 67]) (h2 := (sh_rep m.T (sh_u2 m.I 66 0 (sh_b2 y1)) m.J)) rfl rfl rfl ?_
      refine sh_gR1 (len := 3) (x := .ref 104) (pc2 := 65) rfl rfl (sh_s66 hT.st) rfl rfl ?_
      refine sh_w (i := (.sipush 256)) (len := 3) (pc2 := 68) (lv2 := [(6, .long (((Int32.toInt64 x3) <<< (Int32.toInt64 32 &&& 63)) ||| ((Int32.toInt64 x4) &&& (4294967295 : Int64)))), (5, .int (m.I 101 (Int32.toNatClampNeg ((256 * x1) + x2)))), (0, .ref 67), (1, .int x1), (2, .int x2), (3, .int x3), (4, .int x4)]) (st2 := [.int 256, .ref 104]) (h2 := (sh_rep m.T (sh_u2 m.I 66 0 (sh_b2 y1)) m.J)) rfl rfl rfl ?_
      refine sh_w (i := (.iload_n 1)) (len := 1) (pc2 := 69) (lv2 := [(6, .long (((Int32.toInt64 x3) <<< (Int32.toInt64 32 &&& 63)) ||| ((Int32.toInt64 x4) &&& (4294967295 : Int64)))), (5, .int (m.I 101 (Int32.toNatClampNeg ((256 * x1) + x2)))), (0, .ref 67), (1, .int x1), (2, .int x2), (3, .int x3), (4, .int x4)]) (st2 := [.int x1, .int 256, .ref 104]) (h2 := (sh_rep m.T (sh_u2 m.I 66 0 (sh_b2 y1)) m.J)) rfl rfl rfl ?_
      refine sh_w (i := .imul) (len := 1) (pc2 := 70) (lv2 := [(6, .long (((Int32.toInt64 x3) <<< (Int32.toInt64 32 &&& 63)) ||| ((Int32.toInt64 x4) &&& (4294967295 : Int64)))), (5, .int (m.I 101 (Int32.toNatClampNeg ((256 * x1) + x2)))), (0, .ref 67), (1, .int x1), (2, .int x2), (3, .int x3), (4, .int x4)]) (st2 := [.int (256 * x1), .ref 104]) (h2 := (sh_rep m.T (sh_u2 m.I 66 0 (sh_b2 y1)) m.J)) rfl rfl rfl ?_
      refine sh_w (i := (.iload_n 2)) (len := 1) (pc2 := 71) (lv2 := [(6, .long (((Int32.toInt64 x3) <<< (Int32.toInt64 32 &&& 63)) ||| ((Int32.toInt64 x4) &&& (4294967295 : Int64)))), (5, .int (m.I 101 (Int32.toNatClampNeg ((256 * x1) + x2)))), (0, .ref 67), (1, .int x1), (2, .int x2), (3, .int x3), (4, .int x4)]) (st2 := [.int x2, .int (256 * x1), .ref 104]) (h2 := (sh_rep m.T (sh_u2 m.I 66 0 (sh_b2 y1)) m.J)) rfl rfl rfl ?_
      refine sh_w (i := .iadd) (len := 1) (pc2 := 72) (lv2 := [(6, .long (((Int32.toInt64 x3) <<< (Int32.toInt64 32 &&& 63)) ||| ((Int32.toInt64 x4) &&& (4294967295 : Int64)))), (5, .int (m.I 101 (Int32.toNatClampNeg ((256 * x1) + x2)))), (0, .ref 67), (1, .int x1), (2, .int x2), (3, .int x3), (4, .int x4)]) (st2 := [.int ((256 * x1) + x2), .ref 104]) (h2 := (sh_rep m.T (sh_u2 m.I 66 0 (sh_b2 y1)) m.J)) rfl rfl rfl ?_
      refine sh_w (i := (.iload 5)) (len := 2) (pc2 := 74) (lv2 := [(6, .long (((Int32.toInt64 x3) <<< (Int32.toInt64 32 &&& 63)) ||| ((Int32.toInt64 x4) &&& (4294967295 : Int64)))), (5, .int (m.I 101 (Int32.toNatClampNeg ((256 * x1) + x2)))), (0, .ref 67), (1, .int x1), (2, .int x2), (3, .int x3), (4, .int x4)]) (st2 := [.int (m.I 101 (Int32.toNatClampNeg ((256 * x1) + x2))), .int ((256 * x1) + x2), .ref 104]) (h2 := (sh_rep m.T (sh_u2 m.I 66 0 (sh_b2 y1)) m.J)) rfl rfl rfl ?_
      refine sh_w (i := (.bipush 64)) (len := 2) (pc2 := 76) (lv2 := [(6, .long (((Int32.toInt64 x3) <<< (Int32.toInt64 32 &&& 63)) ||| ((Int32.toInt64 x4) &&& (4294967295 : Int64)))), (5, .int (m.I 101 (Int32.toNatClampNeg ((256 * x1) + x2)))), (0, .ref 67), (1, .int x1), (2, .int x2), (3, .int x3), (4, .int x4)]) (st2 := [.int 64, .int (m.I 101 (Int32.toNatClampNeg ((256 * x1) + x2))), .int ((256 * x1) + x2), .ref 104]) (h2 := (sh_rep m.T (sh_u2 m.I 66 0 (sh_b2 y1)) m.J)) rfl rfl rfl ?_
      exact kk
    rcases sh_ite e with ⟨c, e⟩ | ⟨c, e⟩
    · refine sh_Lk_lift (T := m.T) (I := sh_u2 m.I 66 0 (sh_b2 y1)) (J := m.J) (s := m.s) (pc2 := 93) (lv2 := [(6, .long (((Int32.toInt64 x3) <<< (Int32.toInt64 32 &&& 63)) ||| ((Int32.toInt64 x4) &&& (4294967295 : Int64)))), (5, .int (m.I 101 (Int32.toNatClampNeg ((256 * x1) + x2)))), (0, .ref 67), (1, .int x1), (2, .int x2), (3, .int x3), (4, .int x4)]) (st2 := [.long (((Int32.toInt64 x3) <<< (Int32.toInt64 32 &&& 63)) ||| ((Int32.toInt64 x4) &&& (4294967295 : Int64))), .int ((256 * x1) + x2), .ref 104]) (I2 := sh_u2 m.I 66 0 (sh_b2 y1)) (J2 := m.J) (fun hT v kk => ?_) ?_
      · refine sh_jc (c := .ne) (off := (8)) (pc2 := 79) false rfl (sh_Bnef c) rfl ?_
        refine sh_w (i := (.lload 6)) (len := 2) (pc2 := 81) (lv2 := [(6, .long (((Int32.toInt64 x3) <<< (Int32.toInt64 32 &&& 63)) ||| ((Int32.toInt64 x4) &&& (4294967295 : Int64)))), (5, .int (m.I 101 (Int32.toNatClampNeg ((256 * x1) + x2)))), (0, .ref 67), (1, .int x1), (2, .int x2), (3, .int x3), (4, .int x4)]) (st2 := [.long (((Int32.toInt64 x3) <<< (Int32.toInt64 32 &&& 63)) ||| ((Int32.toInt64 x4) &&& (4294967295 : Int64))), .int ((256 * x1) + x2), .ref 104]) (h2 := (sh_rep m.T (sh_u2 m.I 66 0 (sh_b2 y1)) m.J)) rfl rfl rfl ?_
        refine sh_w (i := (.goto 12)) (len := 3) (pc2 := 93) (lv2 := [(6, .long (((Int32.toInt64 x3) <<< (Int32.toInt64 32 &&& 63)) ||| ((Int32.toInt64 x4) &&& (4294967295 : Int64)))), (5, .int (m.I 101 (Int32.toNatClampNeg ((256 * x1) + x2)))), (0, .ref 67), (1, .int x1), (2, .int x2), (3, .int x3), (4, .int x4)]) (st2 := [.long (((Int32.toInt64 x3) <<< (Int32.toInt64 32 &&& 63)) ||| ((Int32.toInt64 x4) &&& (4294967295 : Int64))), .int ((256 * x1) + x2), .ref 104]) (h2 := (sh_rep m.T (sh_u2 m.I 66 0 (sh_b2 y1)) m.J)) rfl rfl rfl ?_
        exact kk
      exact sh_Lk_sub (sh_sub_n) (sl_336_93 e tg)
    · refine sh_Lk_lift (T := m.T) (I := sh_u2 m.I 66 0 (sh_b2 y1)) (J := m.J) (s := m.s) (pc2 := 93) (lv2 := [(6, .long (((Int32.toInt64 x3) <<< (Int32.toInt64 32 &&& 63)) ||| ((Int32.toInt64 x4) &&& (4294967295 : Int64)))), (5, .int (m.I 101 (Int32.toNatClampNeg ((256 * x1) + x2)))), (0, .ref 67), (1, .int x1), (2, .int x2), (3, .int x3), (4, .int x4)]) (st2 := [.long ((((Int32.toInt64 x3) <<< (Int32.toInt64 32 &&& 63)) ||| ((Int32.toInt64 x4) &&& (4294967295 : Int64))) &&& (((1 : Int64) <<< (Int32.toInt64 (m.I 101 (Int32.toNatClampNeg ((256 * x1) + x2))) &&& 63)) - (1 : Int64))), .int ((256 * x1) + x2), .ref 104]) (I2 := sh_u2 m.I 66 0 (sh_b2 y1)) (J2 := m.J) (fun hT v kk => ?_) ?_
      · refine sh_jc (c := .ne) (off := (8)) (pc2 := 84) true rfl (sh_Bnet c) rfl ?_
        refine sh_w (i := (.lload 6)) (len := 2) (pc2 := 86) (lv2 := [(6, .long (((Int32.toInt64 x3) <<< (Int32.toInt64 32 &&& 63)) ||| ((Int32.toInt64 x4) &&& (4294967295 : Int64)))), (5, .int (m.I 101 (Int32.toNatClampNeg ((256 * x1) + x2)))), (0, .ref 67), (1, .int x1), (2, .int x2), (3, .int x3), (4, .int x4)]) (st2 := [.long (((Int32.toInt64 x3) <<< (Int32.toInt64 32 &&& 63)) ||| ((Int32.toInt64 x4) &&& (4294967295 : Int64))), .int ((256 * x1) + x2), .ref 104]) (h2 := (sh_rep m.T (sh_u2 m.I 66 0 (sh_b2 y1)) m.J)) rfl rfl rfl ?_
        refine sh_w (i := (.lconst 1)) (len := 1) (pc2 := 87) (lv2 := [(6, .long (((Int32.toInt64 x3) <<< (Int32.toInt64 32 &&& 63)) ||| ((Int32.toInt64 x4) &&& (4294967295 : Int64)))), (5, .int (m.I 101 (Int32.toNatClampNeg ((256 * x1) + x2)))), (0, .ref 67), (1, .int x1), (2, .int x2), (3, .int x3), (4, .int x4)]) (st2 := [.long 1, .long (((Int32.toInt64 x3) <<< (Int32.toInt64 32 &&& 63)) ||| ((Int32.toInt64 x4) &&& (4294967295 : Int64))), .int ((256 * x1) + x2), .ref 104]) (h2 := (sh_rep m.T (sh_u2 m.I 66 0 (sh_b2 y1)) m.J)) rfl rfl rfl ?_
        refine sh_w (i := (.iload 5)) (len := 2) (pc2 := 89) (lv2 := [(6, .long (((Int32.toInt64 x3) <<< (Int32.toInt64 32 &&& 63)) ||| ((Int32.toInt64 x4) &&& (4294967295 : Int64)))), (5, .int (m.I 101 (Int32.toNatClampNeg ((256 * x1) + x2)))), (0, .ref 67), (1, .int x1), (2, .int x2), (3, .int x3), (4, .int x4)]) (st2 := [.int (m.I 101 (Int32.toNatClampNeg ((256 * x1) + x2))), .long 1, .long (((Int32.toInt64 x3) <<< (Int32.toInt64 32 &&& 63)) ||| ((Int32.toInt64 x4) &&& (4294967295 : Int64))), .int ((256 * x1) + x2), .ref 104]) (h2 := (sh_rep m.T (sh_u2 m.I 66 0 (sh_b2 y1)) m.J)) rfl rfl rfl ?_
        refine sh_w (i := .lshl) (len := 1) (pc2 := 90) (lv2 := [(6, .long (((Int32.toInt64 x3) <<< (Int32.toInt64 32 &&& 63)) ||| ((Int32.toInt64 x4) &&& (4294967295 : Int64)))), (5, .int (m.I 101 (Int32.toNatClampNeg ((256 * x1) + x2)))), (0, .ref 67), (1, .int x1), (2, .int x2), (3, .int x3), (4, .int x4)]) (st2 := [.long ((1 : Int64) <<< (Int32.toInt64 (m.I 101 (Int32.toNatClampNeg ((256 * x1) + x2))) &&& 63)), .long (((Int32.toInt64 x3) <<< (Int32.toInt64 32 &&& 63)) ||| ((Int32.toInt64 x4) &&& (4294967295 : Int64))), .int ((256 * x1) + x2), .ref 104]) (h2 := (sh_rep m.T (sh_u2 m.I 66 0 (sh_b2 y1)) m.J)) rfl rfl rfl ?_
        refine sh_w (i := (.lconst 1)) (len := 1) (pc2 := 91) (lv2 := [(6, .long (((Int32.toInt64 x3) <<< (Int32.toInt64 32 &&& 63)) ||| ((Int32.toInt64 x4) &&& (4294967295 : Int64)))), (5, .int (m.I 101 (Int32.toNatClampNeg ((256 * x1) + x2)))), (0, .ref 67), (1, .int x1), (2, .int x2), (3, .int x3), (4, .int x4)]) (st2 := [.long 1, .long ((1 : Int64) <<< (Int32.toInt64 (m.I 101 (Int32.toNatClampNeg ((256 * x1) + x2))) &&& 63)), .long (((Int32.toInt64 x3) <<< (Int32.toInt64 32 &&& 63)) ||| ((Int32.toInt64 x4) &&& (4294967295 : Int64))), .int ((256 * x1) + x2), .ref 104]) (h2 := (sh_rep m.T (sh_u2 m.I 66 0 (sh_b2 y1)) m.J)) rfl rfl rfl ?_
        refine sh_w (i := .lsub) (len := 1) (pc2 := 92) (lv2 := [(6, .long (((Int32.toInt64 x3) <<< (Int32.toInt64 32 &&& 63)) ||| ((Int32.toInt64 x4) &&& (4294967295 : Int64)))), (5, .int (m.I 101 (Int32.toNatClampNeg ((256 * x1) + x2)))), (0, .ref 67), (1, .int x1), (2, .int x2), (3, .int x3), (4, .int x4)]) (st2 := [.long (((1 : Int64) <<< (Int32.toInt64 (m.I 101 (Int32.toNatClampNeg ((256 * x1) + x2))) &&& 63)) - (1 : Int64)), .long (((Int32.toInt64 x3) <<< (Int32.toInt64 32 &&& 63)) ||| ((Int32.toInt64 x4) &&& (4294967295 : Int64))), .int ((256 * x1) + x2), .ref 104]) (h2 := (sh_rep m.T (sh_u2 m.I 66 0 (sh_b2 y1)) m.J)) rfl rfl rfl ?_
        refine sh_w (i := .land) (len := 1) (pc2 := 93) (lv2 := [(6, .long (((Int32.toInt64 x3) <<< (Int32.toInt64 32 &&& 63)) ||| ((Int32.toInt64 x4) &&& (4294967295 : Int64)))), (5, .int (m.I 101 (Int32.toNatClampNeg ((256 * x1) + x2)))), (0, .ref 67), (1, .int x1), (2, .int x2), (3, .int x3), (4, .int x4)]) (st2 := [.long ((((Int32.toInt64 x3) <<< (Int32.toInt64 32 &&& 63)) ||| ((Int32.toInt64 x4) &&& (4294967295 : Int64))) &&& (((1 : Int64) <<< (Int32.toInt64 (m.I 101 (Int32.toNatClampNeg ((256 * x1) + x2))) &&& 63)) - (1 : Int64))), .int ((256 * x1) + x2), .ref 104]) (h2 := (sh_rep m.T (sh_u2 m.I 66 0 (sh_b2 y1)) m.J)) rfl rfl rfl ?_
        exact kk
      exact sh_Lk_sub (sh_sub_n) (sl_336_93 e tg)
theorem sl_336_19 {x1 : Int32} {x2 : Int32} {x3 : Int32} {x4 : Int32} {m m2 : sh_X} {o : Outcome} {z : (Unit × sh_X)} (e : sf_336_19 x1 x2 x3 x4 m = some z) (tg : (sh_tV o m2) z) : sh_Lk 336 19 [(0, .ref 67), (1, .int x1), (2, .int x2), (3, .int x3), (4, .int x4)] [.ref 67] m o m2 9 222 := by
  unfold sf_336_19 at e
  refine sh_Lk_lift (T := m.T) (I := m.I) (J := m.J) (s := m.s) (pc2 := 20) (lv2 := [(0, .ref 67), (1, .int x1), (2, .int x2), (3, .int x3), (4, .int x4)]) (st2 := [.int 1, .ref 67]) (I2 := m.I) (J2 := m.J) (fun hT v kk => ?_) ?_
  · refine sh_w (i := (.iconst 1)) (len := 1) (pc2 := 20) (lv2 := [(0, .ref 67), (1, .int x1), (2, .int x2), (3, .int x3), (4, .int x4)]) (st2 := [.int 1, .ref 67]) (h2 := (sh_rep m.T m.I m.J)) rfl rfl rfl ?_
    exact kk
  exact sh_Lk_sub (sh_sub_c rfl (sh_sub_c rfl (sh_sub_c rfl (sh_sub_c rfl (sh_sub_c rfl (sh_sub_n)))))) (sl_336_20 e tg)
theorem sl_336 {x1 : Int32} {x2 : Int32} {x3 : Int32} {x4 : Int32} {m m2 : sh_X} {o : Outcome} {z : (Unit × sh_X)} (e : sf_336 x1 x2 x3 x4 m = some z) (tg : (sh_tV o m2) z) : sh_Lk 336 0 [(0, .ref 67), (1, .int x1), (2, .int x2), (3, .int x3), (4, .int x4)] [] m o m2 9 222 := by
  unfold sf_336 at e
  refine sh_Lk_lift (T := m.T) (I := m.I) (J := m.J) (s := m.s) (pc2 := 3) (lv2 := [(0, .ref 67), (1, .int x1), (2, .int x2), (3, .int x3), (4, .int x4)]) (st2 := [.int 2, .int x1, .ref 67]) (I2 := m.I) (J2 := m.J) (fun hT v kk => ?_) ?_
  · refine sh_w (i := (.aload_n 0)) (len := 1) (pc2 := 1) (lv2 := [(0, .ref 67), (1, .int x1), (2, .int x2), (3, .int x3), (4, .int x4)]) (st2 := [.ref 67]) (h2 := (sh_rep m.T m.I m.J)) rfl rfl rfl ?_
    refine sh_w (i := (.iload_n 1)) (len := 1) (pc2 := 2) (lv2 := [(0, .ref 67), (1, .int x1), (2, .int x2), (3, .int x3), (4, .int x4)]) (st2 := [.int x1, .ref 67]) (h2 := (sh_rep m.T m.I m.J)) rfl rfl rfl ?_
    refine sh_w (i := (.iconst 2)) (len := 1) (pc2 := 3) (lv2 := [(0, .ref 67), (1, .int x1), (2, .int x2), (3, .int x3), (4, .int x4)]) (st2 := [.int 2, .int x1, .ref 67]) (h2 := (sh_rep m.T m.I m.J)) rfl rfl rfl ?_
    exact kk
  rcases sh_ite e with ⟨c, e⟩ | ⟨c, e⟩
  · refine sh_Lk_lift (T := m.T) (I := m.I) (J := m.J) (s := m.s) (pc2 := 9) (lv2 := [(0, .ref 67), (1, .int x1), (2, .int x2), (3, .int x3), (4, .int x4)]) (st2 := [.int x2, .int x1, .ref 67, .ref 67]) (I2 := m.I) (J2 := m.J) (fun hT v kk => ?_) ?_
    · refine sh_jc (c := .ge) (off := (16)) (pc2 := 6) false rfl (sh_Bgef c) rfl ?_
      refine sh_w (i := (.aload_n 0)) (len := 1) (pc2 := 7) (lv2 := [(0, .ref 67), (1, .int x1), (2, .int x2), (3, .int x3), (4, .int x4)]) (st2 := [.ref 67, .ref 67]) (h2 := (sh_rep m.T m.I m.J)) rfl rfl rfl ?_
      refine sh_w (i := (.iload_n 1)) (len := 1) (pc2 := 8) (lv2 := [(0, .ref 67), (1, .int x1), (2, .int x2), (3, .int x3), (4, .int x4)]) (st2 := [.int x1, .ref 67, .ref 67]) (h2 := (sh_rep m.T m.I m.J)) rfl rfl rfl ?_
      refine sh_w (i := (.iload_n 2)) (len := 1) (pc2 := 9) (lv2 := [(0, .ref 67), (1, .int x1), (2, .int x2), (3, .int x3), (4, .int x4)]) (st2 := [.int x2, .int x1, .ref 67, .ref 67]) (h2 := (sh_rep m.T m.I m.J)) rfl rfl rfl ?_
      exact kk
    obtain ⟨r1, e1, e⟩ := sh_bc_e e
    refine sh_Lk_cV (r := (some (.int (sh_b2 r1)))) (st2 := [.int (sh_b2 r1), .ref 67]) (pc2 := 12) (k2 := 335) (a := 66) (as := [.ref 67, .int x1, .int x2]) (rest := [.ref 67]) rfl rfl rfl (fun hT => (sh_s66 hT.st)) rfl rfl ⟨Nat.le_of_ble_eq_true rfl, Nat.le_of_ble_eq_true rfl⟩ (sl_335 e1 ⟨rfl, rfl⟩) rfl rfl (Nat.le_of_ble_eq_true rfl) (Nat.le_of_ble_eq_true rfl) ?_
    rcases sh_ite e with ⟨c, e⟩ | ⟨c, e⟩
    · refine sh_Lk_lift (T := m.T) (I := m.I) (J := m.J) (s := m.s) (pc2 := 20) (lv2 := [(0, .ref 67), (1, .int x1), (2, .int x2), (3, .int x3), (4, .int x4)]) (st2 := [.int 0, .ref 67]) (I2 := m.I) (J2 := m.J) (fun hT v kk => ?_) ?_
      · refine sh_j0 (c := .eq) (off := (7)) (pc2 := 15) false rfl (sh_Zeqf c) rfl ?_
        refine sh_w (i := (.iconst 0)) (len := 1) (pc2 := 16) (lv2 := [(0, .ref 67), (1, .int x1), (2, .int x2), (3, .int x3), (4, .int x4)]) (st2 := [.int 0, .ref 67]) (h2 := (sh_rep m.T m.I m.J)) rfl rfl rfl ?_
        refine sh_w (i := (.goto 4)) (len := 3) (pc2 := 20) (lv2 := [(0, .ref 67), (1, .int x1), (2, .int x2), (3, .int x3), (4, .int x4)]) (st2 := [.int 0, .ref 67]) (h2 := (sh_rep m.T m.I m.J)) rfl rfl rfl ?_
        exact kk
      exact sh_Lk_sub (sh_sub_c rfl (sh_sub_c rfl (sh_sub_c rfl (sh_sub_c rfl (sh_sub_c rfl (sh_sub_n)))))) (sl_336_20 e tg)
    · refine sh_Lk_lift (T := m.T) (I := m.I) (J := m.J) (s := m.s) (pc2 := 19) (lv2 := [(0, .ref 67), (1, .int x1), (2, .int x2), (3, .int x3), (4, .int x4)]) (st2 := [.ref 67]) (I2 := m.I) (J2 := m.J) (fun hT v kk => ?_) ?_
      · refine sh_j0 (c := .eq) (off := (7)) (pc2 := 19) true rfl (sh_Zeqt c) rfl ?_
        exact kk
      exact sh_Lk_sub (sh_sub_c rfl (sh_sub_c rfl (sh_sub_c rfl (sh_sub_c rfl (sh_sub_c rfl (sh_sub_n)))))) (sl_336_19 e tg)
  · refine sh_Lk_lift (T := m.T) (I := m.I) (J := m.J) (s := m.s) (pc2 := 19) (lv2 := [(0, .ref 67), (1, .int x1), (2, .int x2), (3, .int x3), (4, .int x4)]) (st2 := [.ref 67]) (I2 := m.I) (J2 := m.J) (fun hT v kk => ?_) ?_
    · refine sh_jc (c := .ge) (off := (16)) (pc2 := 19) true rfl (sh_Bget c) rfl ?_
      exact kk
    exact sh_Lk_sub (sh_sub_c rfl (sh_sub_c rfl (sh_sub_c rfl (sh_sub_c rfl (sh_sub_c rfl (sh_sub_n)))))) (sl_336_19 e tg)
theorem sl_337 {x1 : Int32} {x2 : Int32} {x3 : Int32} {m m2 : sh_X} {o : Outcome} {z : (Unit × sh_X)} (e : sf_337 x1 x2 x3 m = some z) (tg : (sh_tV o m2) z) : sh_Lk 337 0 [(0, .ref 67), (1, .int x1), (2, .int x2), (3, .int x3)] [] m o m2 8 200 := by
  unfold sf_337 at e
  refine sh_Lk_lift (T := m.T) (I := m.I) (J := m.J) (s := m.s) (pc2 := 5) (lv2 := [(0, .ref 67), (1, .int x1), (2, .int x2), (3, .int x3)]) (st2 := []) (I2 := sh_u2 m.I 66 0 0) (J2 := m.J) (fun hT v kk => ?_) ?_
  · refine sh_w (i := (.aload_n 0)) (len := 1) (pc2 := 1) (lv2 := [(0, .ref 67), (1, .int x1), (2, .int x2), (3, .int x3)]) (st2 := [.ref 67]) (h2 := (sh_rep m.T m.I m.J)) rfl rfl rfl ?_
    refine sh_w (i := (.iconst 0)) (len := 1) (pc2 := 2) (lv2 := [(0, .ref 67), (1, .int x1), (2, .int x2), (3, .int x3)]) (st2 := [.int 0, .ref 67]) (h2 := (sh_rep m.T m.I m.J)) rfl rfl rfl ?_
    refine sh_pI1 (x := 0) (pc2 := 5) rfl rfl (sh_s66 hT.st) rfl rfl rfl rfl ?_
    exact kk
  obtain rfl := Option.some.inj e
  obtain ⟨rfl, rfl⟩ := tg
  exact sh_Lk_ret (i := .return_) rfl rfl rfl (Nat.le_of_ble_eq_true rfl) (Nat.le_of_ble_eq_true rfl)
theorem sl_339_89 {x1 : Int32} {y1 : Int32} {y2 : Bool} {m m2 : sh_X} {o : Outcome} {z : ((Int32 × sh_X) ⊕ (Unit × sh_X))} (e : sf_339_89 x1 y1 y2 m = some z) (tg : (sh_el (fun q => sh_Lk 339 2 [(0, .ref 67), (1, .int q.1)] [] q.2 o m2 8 200) (sh_tV o m2)) z) : sh_Lk 339 89 [(0, .ref 67), (1, .int x1)] [.int (sh_b2 y2), .int y1, .ref 123] m o m2 8 200 := by
  unfold sf_339_89 at e
  obtain ⟨c, e⟩ := sh_gd e
  refine sh_Lk_lift (T := m.T) (I := m.I) (J := m.J) (s := m.s) (pc2 := 2) (lv2 := [(1, .int (x1 + 1)), (0, .ref 67)]) (st2 := []) (I2 := sh_u2 m.I 122 (Int32.toNatClampNeg y1) (vp_nar .boolean (sh_b2 y2))) (J2 := m.J) (fun hT v kk => ?_) ?_
  · refine sh_zs1 (x := sh_b2 y2) (y := vp_nar .boolean (sh_b2 y2)) (i := y1) (pc2 := 90) rfl (sh_s122 hT.st) (sh_okb1 c) (sh_okb2 c) rfl rfl ?_
    refine sh_w (i := (.iinc 1 1)) (len := 3) (pc2 := 93) (lv2 := [(1, .int (x1 + 1)), (0, .ref 67)]) (st2 := []) (h2 := (sh_rep m.T (sh_u2 m.I 122 (Int32.toNatClampNeg y1) (vp_nar .boolean (sh_b2 y2))) m.J)) rfl rfl rfl ?_
    refine sh_w (i := (.goto (-91))) (len := 3) (pc2 := 2) (lv2 := [(1, .int (x1 + 1)), (0, .ref 67)]) (st2 := []) (h2 := (sh_rep m.T (sh_u2 m.I 122 (Int32.toNatClampNeg y1) (vp_nar .boolean (sh_b2 y2))) m.J)) rfl rfl rfl ?_
    exact kk
  obtain rfl := Option.some.inj e
  exact sh_Lk_sub (sh_sub_c rfl (sh_sub_c rfl (sh_sub_n))) tg
theorem sl_339_51 {x1 : Int32} {x2 : Bool} {y0 : Int32} {m m2 : sh_X} {o : Outcome} {z : ((Int32 × sh_X) ⊕ (Unit × sh_X))} (e : sf_339_51 x1 x2 y0 m = some z) (tg : (sh_el (fun q => sh_Lk 339 2 [(0, .ref 67), (1, .int q.1)] [] q.2 o m2 8 200) (sh_tV o m2)) z) : sh_Lk 339 51 [(0, .ref 67), (1, .int x1), (2, .int (sh_b2 x2))] [.int y0] m o m2 8 200 := by
  unfold sf_339_51 at e
  refine sh_Lk_lift (T := m.T) (I := m.I) (J := m.J) (s := m.s) (pc2 := 71) (lv2 := [(3, .int y0), (0, .ref 67), (1, .int x1), (2, .int (sh_b2 x2))]) (st2 := [.int ((256 * (sh_b2 x2)) + (y0 / 64)), .ref 104, .int x1, .ref 123]) (I2 := m.I) (J2 := m.J) (fun hT v kk => ?_) ?_
  · refine sh_w (i := (.istore_n 3)) (len := 1) (pc2 := 52) (lv2 := [(3, .int y0), (0, .ref 67), (1, .int x1), (2, .int (sh_b2 x2))]) (st2 := []) (h2 := (sh_rep m.T m.I m.J)) rfl rfl rfl ?_
    refine sh_w (i := (.aload_n 0)) (len := 1) (pc2 := 53) (lv2 := [(3, .int y0), (0, .ref 67), (1, .int x1), (2, .int (sh_b2 x2))]) (st2 := [.ref 67]) (h2 := (sh_rep m.T m.I m.J)) rfl rfl rfl ?_
    refine sh_gR1 (len := 3) (x := .ref 123) (pc2 := 56) rfl rfl (sh_s66 hT.st) rfl rfl ?_
    refine sh_w (i := (.iload_n 1)) (len := 1) (pc2 := 57) (lv2 := [(3, .int y0), (0, .ref 67), (1, .int x1), (2, .int (sh_b2 x2))]) (st2 := [.int x1, .ref 123]) (h2 := (sh_rep m.T m.I m.J)) rfl rfl rfl ?_
    refine sh_w (i := (.aload_n 0)) (len := 1) (pc2 := 58) (lv2 := [(3, .int y0), (0, .ref 67), (1, .int x1), (2, .int (sh_b2 x2))]) (st2 := [.ref 67, .int x1, .ref 123]) (h2 := (sh_rep m.T m.I m.J)) rfl rfl rfl ?_
    refine sh_gR1 (len := 3) (x := .ref 104) (pc2 := 61) rfl rfl (sh_s66 hT.st) rfl rfl ?_
    refine sh_w (i := (.sipush 256)) (len := 3) (pc2 := 64) (lv2 := [(3, .int y0), (0, .ref 67), (1, .int x1), (2, .int (sh_b2 x2))]) (st2 := [.int 256, .ref 104, .int x1, .ref 123]) (h2 := (sh_rep m.T m.I m.J)) rfl rfl rfl ?_
    refine sh_w (i := (.iload_n 2)) (len := 1) (pc2 := 65) (lv2 := [(3, .int y0), (0, .ref 67), (1, .int x1), (2, .int (sh_b2 x2))]) (st2 := [.int (sh_b2 x2), .int 256, .ref 104, .int x1, .ref 123]) (h2 := (sh_rep m.T m.I m.J)) rfl rfl rfl ?_
    refine sh_w (i := .imul) (len := 1) (pc2 := 66) (lv2 := [(3, .int y0), (0, .ref 67), (1, .int x1), (2, .int (sh_b2 x2))]) (st2 := [.int (256 * (sh_b2 x2)), .ref 104, .int x1, .ref 123]) (h2 := (sh_rep m.T m.I m.J)) rfl rfl rfl ?_
    refine sh_w (i := (.iload_n 3)) (len := 1) (pc2 := 67) (lv2 := [(3, .int y0), (0, .ref 67), (1, .int x1), (2, .int (sh_b2 x2))]) (st2 := [.int y0, .int (256 * (sh_b2 x2)), .ref 104, .int x1, .ref 123]) (h2 := (sh_rep m.T m.I m.J)) rfl rfl rfl ?_
    refine sh_w (i := (.bipush 64)) (len := 2) (pc2 := 69) (lv2 := [(3, .int y0), (0, .ref 67), (1, .int x1), (2, .int (sh_b2 x2))]) (st2 := [.int 64, .int y0, .int (256 * (sh_b2 x2)), .ref 104, .int x1, .ref 123]) (h2 := (sh_rep m.T m.I m.J)) rfl rfl rfl ?_
    refine sh_w (i := .idiv) (len := 1) (pc2 := 70) (lv2 := [(3, .int y0), (0, .ref 67), (1, .int x1), (2, .int (sh_b2 x2))]) (st2 := [.int (y0 / 64), .int (256 * (sh_b2 x2)), .ref 104, .int x1, .ref 123]) (h2 := (sh_rep m.T m.I m.J)) rfl rfl rfl ?_
    refine sh_w (i := .iadd) (len := 1) (pc2 := 71) (lv2 := [(3, .int y0), (0, .ref 67), (1, .int x1), (2, .int (sh_b2 x2))]) (st2 := [.int ((256 * (sh_b2 x2)) + (y0 / 64)), .ref 104, .int x1, .ref 123]) (h2 := (sh_rep m.T m.I m.J)) rfl rfl rfl ?_
    exact kk
  obtain ⟨c, e⟩ := sh_gd e
  refine sh_Lk_lift (T := m.T) (I := m.I) (J := m.J) (s := m.s) (pc2 := 81) (lv2 := [(3, .int y0), (0, .ref 67), (1, .int x1), (2, .int (sh_b2 x2))]) (st2 := [.int (lg_cmp ((((m.J 103 (Int32.toNatClampNeg ((256 * (sh_b2 x2)) + (y0 / 64)))).toUInt64 >>> ((Int32.toInt64 (y0 - y0 / 64 * 64)).toUInt64 &&& Int64.toUInt64 63)).toInt64) &&& (1 : Int64)) 1), .int x1, .ref 123]) (I2 := m.I) (J2 := m.J) (fun hT v kk => ?_) ?_
  · refine sh_la1 (x := m.J 103 (Int32.toNatClampNeg ((256 * (sh_b2 x2)) + (y0 / 64)))) (pc2 := 72) rfl (sh_s103 hT.st) (sh_okb1 c) (sh_okb2 c) rfl rfl ?_
    refine sh_w (i := (.iload_n 3)) (len := 1) (pc2 := 73) (lv2 := [(3, .int y0), (0, .ref 67), (1, .int x1), (2, .int (sh_b2 x2))]) (st2 := [.int y0, .long (m.J 103 (Int32.toNatClampNeg ((256 * (sh_b2 x2)) + (y0 / 64)))), .int x1, .ref 123]) (h2 := (sh_rep m.T m.I m.J)) rfl rfl rfl ?_
    refine sh_w (i := (.bipush 64)) (len := 2) (pc2 := 75) (lv2 := [(3, .int y0), (0, .ref 67), (1, .int x1), (2, .int (sh_b2 x2))]) (st2 := [.int 64, .int y0, .long (m.J 103 (Int32.toNatClampNeg ((256 * (sh_b2 x2)) + (y0 / 64)))), .int x1, .ref 123]) (h2 := (sh_rep m.T m.I m.J)) rfl rfl rfl ?_
    refine sh_w (i := .irem) (len := 1) (pc2 := 76) (lv2 := [(3, .int y0), (0, .ref 67), (1, .int x1), (2, .int (sh_b2 x2))]) (st2 := [.int (y0 - y0 / 64 * 64), .long (m.J 103 (Int32.toNatClampNeg ((256 * (sh_b2 x2)) + (y0 / 64)))), .int x1, .ref 123]) (h2 := (sh_rep m.T m.I m.J)) rfl rfl rfl ?_
    refine sh_w (i := .lushr) (len := 1) (pc2 := 77) (lv2 := [(3, .int y0), (0, .ref 67), (1, .int x1), (2, .int (sh_b2 x2))]) (st2 := [.long (((m.J 103 (Int32.toNatClampNeg ((256 * (sh_b2 x2)) + (y0 / 64)))).toUInt64 >>> ((Int32.toInt64 (y0 - y0 / 64 * 64)).toUInt64 &&& Int64.toUInt64 63)).toInt64), .int x1, .ref 123]) (h2 := (sh_rep m.T m.I m.J)) rfl rfl rfl ?_
    refine sh_w (i := (.lconst 1)) (len := 1) (pc2 := 78) (lv2 := [(3, .int y0), (0, .ref 67), (1, .int x1), (2, .int (sh_b2 x2))]) (st2 := [.long 1, .long (((m.J 103 (Int32.toNatClampNeg ((256 * (sh_b2 x2)) + (y0 / 64)))).toUInt64 >>> ((Int32.toInt64 (y0 - y0 / 64 * 64)).toUInt64 &&& Int64.toUInt64 63)).toInt64), .int x1, .ref 123]) (h2 := (sh_rep m.T m.I m.J)) rfl rfl rfl ?_
    refine sh_w (i := .land) (len := 1) (pc2 := 79) (lv2 := [(3, .int y0), (0, .ref 67), (1, .int x1), (2, .int (sh_b2 x2))]) (st2 := [.long ((((m.J 103 (Int32.toNatClampNeg ((256 * (sh_b2 x2)) + (y0 / 64)))).toUInt64 >>> ((Int32.toInt64 (y0 - y0 / 64 * 64)).toUInt64 &&& Int64.toUInt64 63)).toInt64) &&& (1 : Int64)), .int x1, .ref 123]) (h2 := (sh_rep m.T m.I m.J)) rfl rfl rfl ?_
    refine sh_w (i := (.lconst 1)) (len := 1) (pc2 := 80) (lv2 := [(3, .int y0), (0, .ref 67), (1, .int x1), (2, .int (sh_b2 x2))]) (st2 := [.long 1, .long ((((m.J 103 (Int32.toNatClampNeg ((256 * (sh_b2 x2)) + (y0 / 64)))).toUInt64 >>> ((Int32.toInt64 (y0 - y0 / 64 * 64)).toUInt64 &&& Int64.toUInt64 63)).toInt64) &&& (1 : Int64)), .int x1, .ref 123]) (h2 := (sh_rep m.T m.I m.J)) rfl rfl rfl ?_
    refine sh_w (i := .lcmp) (len := 1) (pc2 := 81) (lv2 := [(3, .int y0), (0, .ref 67), (1, .int x1), (2, .int (sh_b2 x2))]) (st2 := [.int (lg_cmp ((((m.J 103 (Int32.toNatClampNeg ((256 * (sh_b2 x2)) + (y0 / 64)))).toUInt64 >>> ((Int32.toInt64 (y0 - y0 / 64 * 64)).toUInt64 &&& Int64.toUInt64 63)).toInt64) &&& (1 : Int64)) 1), .int x1, .ref 123]) (h2 := (sh_rep m.T m.I m.J)) rfl rfl rfl ?_
    exact kk
  rcases sh_ite e with ⟨c, e⟩ | ⟨c, e⟩
  · refine sh_Lk_lift (T := m.T) (I := m.I) (J := m.J) (s := m.s) (pc2 := 89) (lv2 := [(3, .int y0), (0, .ref 67), (1, .int x1), (2, .int (sh_b2 x2))]) (st2 := [.int 1, .int x1, .ref 123]) (I2 := m.I) (J2 := m.J) (fun hT v kk => ?_) ?_
    · refine sh_j0 (c := .ne) (off := (7)) (pc2 := 84) false rfl (sh_Cnef c) rfl ?_
      refine sh_w (i := (.iconst 1)) (len := 1) (pc2 := 85) (lv2 := [(3, .int y0), (0, .ref 67), (1, .int x1), (2, .int (sh_b2 x2))]) (st2 := [.int 1, .int x1, .ref 123]) (h2 := (sh_rep m.T m.I m.J)) rfl rfl rfl ?_
      refine sh_w (i := (.goto 4)) (len := 3) (pc2 := 89) (lv2 := [(3, .int y0), (0, .ref 67), (1, .int x1), (2, .int (sh_b2 x2))]) (st2 := [.int 1, .int x1, .ref 123]) (h2 := (sh_rep m.T m.I m.J)) rfl rfl rfl ?_
      exact kk
    exact sh_Lk_sub (sh_sub_c rfl (sh_sub_c rfl (sh_sub_n))) (sl_339_89 e tg)
  · refine sh_Lk_lift (T := m.T) (I := m.I) (J := m.J) (s := m.s) (pc2 := 89) (lv2 := [(3, .int y0), (0, .ref 67), (1, .int x1), (2, .int (sh_b2 x2))]) (st2 := [.int 0, .int x1, .ref 123]) (I2 := m.I) (J2 := m.J) (fun hT v kk => ?_) ?_
    · refine sh_j0 (c := .ne) (off := (7)) (pc2 := 88) true rfl (sh_Cnet c) rfl ?_
      refine sh_w (i := (.iconst 0)) (len := 1) (pc2 := 89) (lv2 := [(3, .int y0), (0, .ref 67), (1, .int x1), (2, .int (sh_b2 x2))]) (st2 := [.int 0, .int x1, .ref 123]) (h2 := (sh_rep m.T m.I m.J)) rfl rfl rfl ?_
      exact kk
    exact sh_Lk_sub (sh_sub_c rfl (sh_sub_c rfl (sh_sub_n))) (sl_339_89 e tg)
theorem sl_339_34 {x1 : Int32} {y0 : Bool} {m m2 : sh_X} {o : Outcome} {z : ((Int32 × sh_X) ⊕ (Unit × sh_X))} (e : sf_339_34 x1 y0 m = some z) (tg : (sh_el (fun q => sh_Lk 339 2 [(0, .ref 67), (1, .int q.1)] [] q.2 o m2 8 200) (sh_tV o m2)) z) : sh_Lk 339 34 [(0, .ref 67), (1, .int x1)] [.int (sh_b2 y0)] m o m2 8 200 := by
  unfold sf_339_34 at e
  refine sh_Lk_lift (T := m.T) (I := m.I) (J := m.J) (s := m.s) (pc2 := 36) (lv2 := [(2, .int (sh_b2 y0)), (0, .ref 67), (1, .int x1)]) (st2 := [.int (sh_b2 y0)]) (I2 := m.I) (J2 := m.J) (fun hT v kk => ?_) ?_
  · refine sh_w (i := (.istore_n 2)) (len := 1) (pc2 := 35) (lv2 := [(2, .int (sh_b2 y0)), (0, .ref 67), (1, .int x1)]) (st2 := []) (h2 := (sh_rep m.T m.I m.J)) rfl rfl rfl ?_
    refine sh_w (i := (.iload_n 2)) (len := 1) (pc2 := 36) (lv2 := [(2, .int (sh_b2 y0)), (0, .ref 67), (1, .int x1)]) (st2 := [.int (sh_b2 y0)]) (h2 := (sh_rep m.T m.I m.J)) rfl rfl rfl ?_
    exact kk
  rcases sh_ite e with ⟨c, e⟩ | ⟨c, e⟩
  · refine sh_Lk_lift (T := m.T) (I := m.I) (J := m.J) (s := m.s) (pc2 := 51) (lv2 := [(2, .int (sh_b2 y0)), (0, .ref 67), (1, .int x1)]) (st2 := [.int (x1 - (m.I 121 0))]) (I2 := m.I) (J2 := m.J) (fun hT v kk => ?_) ?_
    · refine sh_j0 (c := .ne) (off := (7)) (pc2 := 43) true rfl (sh_Znet c) rfl ?_
      refine sh_w (i := (.iload_n 1)) (len := 1) (pc2 := 44) (lv2 := [(2, .int (sh_b2 y0)), (0, .ref 67), (1, .int x1)]) (st2 := [.int x1]) (h2 := (sh_rep m.T m.I m.J)) rfl rfl rfl ?_
      refine sh_w (i := (.aload_n 0)) (len := 1) (pc2 := 45) (lv2 := [(2, .int (sh_b2 y0)), (0, .ref 67), (1, .int x1)]) (st2 := [.ref 67, .int x1]) (h2 := (sh_rep m.T m.I m.J)) rfl rfl rfl ?_
      refine sh_gR1 (len := 3) (x := .ref 122) (pc2 := 48) rfl rfl (sh_s66 hT.st) rfl rfl ?_
      refine sh_w (i := (.iconst 0)) (len := 1) (pc2 := 49) (lv2 := [(2, .int (sh_b2 y0)), (0, .ref 67), (1, .int x1)]) (st2 := [.int 0, .ref 122, .int x1]) (h2 := (sh_rep m.T m.I m.J)) rfl rfl rfl ?_
      refine sh_ia1 (x := m.I 121 0) (pc2 := 50) rfl (sh_s121 hT.st) (by decide) (by decide) rfl rfl ?_
      refine sh_w (i := .isub) (len := 1) (pc2 := 51) (lv2 := [(2, .int (sh_b2 y0)), (0, .ref 67), (1, .int x1)]) (st2 := [.int (x1 - (m.I 121 0))]) (h2 := (sh_rep m.T m.I m.J)) rfl rfl rfl ?_
      exact kk
    exact sh_Lk_sub (sh_sub_c rfl (sh_sub_c rfl (sh_sub_c rfl (sh_sub_n)))) (sl_339_51 e tg)
  · refine sh_Lk_lift (T := m.T) (I := m.I) (J := m.J) (s := m.s) (pc2 := 51) (lv2 := [(2, .int (sh_b2 y0)), (0, .ref 67), (1, .int x1)]) (st2 := [.int x1]) (I2 := m.I) (J2 := m.J) (fun hT v kk => ?_) ?_
    · refine sh_j0 (c := .ne) (off := (7)) (pc2 := 39) false rfl (sh_Znef c) rfl ?_
      refine sh_w (i := (.iload_n 1)) (len := 1) (pc2 := 40) (lv2 := [(2, .int (sh_b2 y0)), (0, .ref 67), (1, .int x1)]) (st2 := [.int x1]) (h2 := (sh_rep m.T m.I m.J)) rfl rfl rfl ?_
      refine sh_w (i := (.goto 11)) (len := 3) (pc2 := 51) (lv2 := [(2, .int (sh_b2 y0)), (0, .ref 67), (1, .int x1)]) (st2 := [.int x1]) (h2 := (sh_rep m.T m.I m.J)) rfl rfl rfl ?_
      exact kk
    exact sh_Lk_sub (sh_sub_c rfl (sh_sub_c rfl (sh_sub_c rfl (sh_sub_n)))) (sl_339_51 e tg)
theorem sl_339_211 {x1 : Int32} {y1 : Int32} {y2 : Int32} {m m2 : sh_X} {o : Outcome} {z : ((Int32 × sh_X) ⊕ (Unit × sh_X))} (e : sf_339_211 x1 y1 y2 m = some z) (tg : (sh_el (fun q => sh_Lk 339 98 [(0, .ref 67), (1, .int q.1)] [] q.2 o m2 8 200) (sh_tV o m2)) z) : sh_Lk 339 211 [(0, .ref 67), (1, .int x1)] [.int y2, .int y1, .ref 123] m o m2 8 200 := by
  unfold sf_339_211 at e
  obtain ⟨c, e⟩ := sh_gd e
  refine sh_Lk_lift (T := m.T) (I := m.I) (J := m.J) (s := m.s) (pc2 := 98) (lv2 := [(1, .int (x1 + 1)), (0, .ref 67)]) (st2 := []) (I2 := sh_u2 m.I 122 (Int32.toNatClampNeg y1) (vp_nar .boolean y2)) (J2 := m.J) (fun hT v kk => ?_) ?_
  · refine sh_zs1 (x := y2) (y := vp_nar .boolean y2) (i := y1) (pc2 := 212) rfl (sh_s122 hT.st) (sh_okb1 c) (sh_okb2 c) rfl rfl ?_
    refine sh_w (i := (.iinc 1 1)) (len := 3) (pc2 := 215) (lv2 := [(1, .int (x1 + 1)), (0, .ref 67)]) (st2 := []) (h2 := (sh_rep m.T (sh_u2 m.I 122 (Int32.toNatClampNeg y1) (vp_nar .boolean y2)) m.J)) rfl rfl rfl ?_
    refine sh_w (i := (.goto (-117))) (len := 3) (pc2 := 98) (lv2 := [(1, .int (x1 + 1)), (0, .ref 67)]) (st2 := []) (h2 := (sh_rep m.T (sh_u2 m.I 122 (Int32.toNatClampNeg y1) (vp_nar .boolean y2)) m.J)) rfl rfl rfl ?_
    exact kk
  obtain rfl := Option.some.inj e
  exact sh_Lk_sub (sh_sub_c rfl (sh_sub_c rfl (sh_sub_n))) tg
theorem sl_339_184 {x1 : Int32} {y1 : Int32} {m m2 : sh_X} {o : Outcome} {z : ((Int32 × sh_X) ⊕ (Unit × sh_X))} (e : sf_339_184 x1 y1 m = some z) (tg : (sh_el (fun q => sh_Lk 339 98 [(0, .ref 67), (1, .int q.1)] [] q.2 o m2 8 200) (sh_tV o m2)) z) : sh_Lk 339 184 [(0, .ref 67), (1, .int x1)] [.int y1, .ref 123] m o m2 8 200 := by
  unfold sf_339_184 at e
  refine sh_Lk_lift (T := m.T) (I := m.I) (J := m.J) (s := m.s) (pc2 := 211) (lv2 := [(0, .ref 67), (1, .int x1)]) (st2 := [.int 0, .int y1, .ref 123]) (I2 := m.I) (J2 := m.J) (fun hT v kk => ?_) ?_
  · refine sh_w (i := (.iconst 0)) (len := 1) (pc2 := 185) (lv2 := [(0, .ref 67), (1, .int x1)]) (st2 := [.int 0, .int y1, .ref 123]) (h2 := (sh_rep m.T m.I m.J)) rfl rfl rfl ?_
    refine sh_w (i := (.goto 26)) (len := 3) (pc2 := 211) (lv2 := [(0, .ref 67), (1, .int x1)]) (st2 := [.int 0, .int y1, .ref 123]) (h2 := (sh_rep m.T m.I m.J)) rfl rfl rfl ?_
    exact kk
  exact sh_Lk_sub (sh_sub_c rfl (sh_sub_c rfl (sh_sub_n))) (sl_339_211 e tg)
theorem sl_339_294 {x1 : Int32} {m m2 : sh_X} {o : Outcome} {z : ((Int32 × sh_X) ⊕ (Unit × sh_X))} (e : sf_339_294 x1 m = some z) (tg : (sh_el (fun q => sh_Lk 339 245 [(0, .ref 67), (1, .int q.1)] [] q.2 o m2 8 200) (sh_tV o m2)) z) : sh_Lk 339 294 [(0, .ref 67), (1, .int x1)] [] m o m2 8 200 := by
  unfold sf_339_294 at e
  refine sh_Lk_lift (T := m.T) (I := m.I) (J := m.J) (s := m.s) (pc2 := 245) (lv2 := [(1, .int (x1 + 1)), (0, .ref 67)]) (st2 := []) (I2 := m.I) (J2 := m.J) (fun hT v kk => ?_) ?_
  · refine sh_w (i := (.iinc 1 1)) (len := 3) (pc2 := 297) (lv2 := [(1, .int (x1 + 1)), (0, .ref 67)]) (st2 := []) (h2 := (sh_rep m.T m.I m.J)) rfl rfl rfl ?_
    refine sh_w (i := (.goto (-52))) (len := 3) (pc2 := 245) (lv2 := [(1, .int (x1 + 1)), (0, .ref 67)]) (st2 := []) (h2 := (sh_rep m.T m.I m.J)) rfl rfl rfl ?_
    exact kk
  obtain rfl := Option.some.inj e
  exact sh_Lk_sub (sh_sub_c rfl (sh_sub_c rfl (sh_sub_n))) tg
theorem sl_339_245s {x1 : Int32} {m m2 : sh_X} {o : Outcome} {z : ((Int32 × sh_X) ⊕ (Unit × sh_X))} (e : sf_339_245s x1 m = some z) (tg : (sh_el (fun q => sh_Lk 339 245 [(0, .ref 67), (1, .int q.1)] [] q.2 o m2 8 200) (sh_tV o m2)) z) : sh_Lk 339 245 [(0, .ref 67), (1, .int x1)] [] m o m2 8 200 := by
  unfold sf_339_245s at e
  refine sh_Lk_lift (T := m.T) (I := m.I) (J := m.J) (s := m.s) (pc2 := 252) (lv2 := [(0, .ref 67), (1, .int x1)]) (st2 := [.int (m.I 121 2), .int x1]) (I2 := m.I) (J2 := m.J) (fun hT v kk => ?_) ?_
  · refine sh_w (i := (.iload_n 1)) (len := 1) (pc2 := 246) (lv2 := [(0, .ref 67), (1, .int x1)]) (st2 := [.int x1]) (h2 := (sh_rep m.T m.I m.J)) rfl rfl rfl ?_
    refine sh_w (i := (.aload_n 0)) (len := 1) (pc2 := 247) (lv2 := [(0, .ref 67), (1, .int x1)]) (st2 := [.ref 67, .int x1]) (h2 := (sh_rep m.T m.I m.J)) rfl rfl rfl ?_
    refine sh_gR1 (len := 3) (x := .ref 122) (pc2 := 250) rfl rfl (sh_s66 hT.st) rfl rfl ?_
    refine sh_w (i := (.iconst 2)) (len := 1) (pc2 := 251) (lv2 := [(0, .ref 67), (1, .int x1)]) (st2 := [.int 2, .ref 122, .int x1]) (h2 := (sh_rep m.T m.I m.J)) rfl rfl rfl ?_
    refine sh_ia1 (x := m.I 121 2) (pc2 := 252) rfl (sh_s121 hT.st) (by decide) (by decide) rfl rfl ?_
    exact kk
  rcases sh_ite e with ⟨c, e⟩ | ⟨c, e⟩
  · refine sh_Lk_lift (T := m.T) (I := m.I) (J := m.J) (s := m.s) (pc2 := 272) (lv2 := [(0, .ref 67), (1, .int x1)]) (st2 := [.int (((m.I 66 86) - (m.I 121 2)) + x1), .ref 123]) (I2 := m.I) (J2 := m.J) (fun hT v kk => ?_) ?_
    · refine sh_jc (c := .ge) (off := (48)) (pc2 := 255) false rfl (sh_Bgef c) rfl ?_
      refine sh_w (i := (.aload_n 0)) (len := 1) (pc2 := 256) (lv2 := [(0, .ref 67), (1, .int x1)]) (st2 := [.ref 67]) (h2 := (sh_rep m.T m.I m.J)) rfl rfl rfl ?_
      refine sh_gR1 (len := 3) (x := .ref 123) (pc2 := 259) rfl rfl (sh_s66 hT.st) rfl rfl ?_
      refine sh_w (i := (.aload_n 0)) (len := 1) (pc2 := 260) (lv2 := [(0, .ref 67), (1, .int x1)]) (st2 := [.ref 67, .ref 123]) (h2 := (sh_rep m.T m.I m.J)) rfl rfl rfl ?_
      refine sh_gI1 (len := 3) (x := m.I 66 86) (pc2 := 263) rfl rfl (sh_s66 hT.st) rfl rfl rfl ?_
      refine sh_w (i := (.aload_n 0)) (len := 1) (pc2 := 264) (lv2 := [(0, .ref 67), (1, .int x1)]) (st2 := [.ref 67, .int (m.I 66 86), .ref 123]) (h2 := (sh_rep m.T m.I m.J)) rfl rfl rfl ?_
      refine sh_gR1 (len := 3) (x := .ref 122) (pc2 := 267) rfl rfl (sh_s66 hT.st) rfl rfl ?_
      refine sh_w (i := (.iconst 2)) (len := 1) (pc2 := 268) (lv2 := [(0, .ref 67), (1, .int x1)]) (st2 := [.int 2, .ref 122, .int (m.I 66 86), .ref 123]) (h2 := (sh_rep m.T m.I m.J)) rfl rfl rfl ?_
      refine sh_ia1 (x := m.I 121 2) (pc2 := 269) rfl (sh_s121 hT.st) (by decide) (by decide) rfl rfl ?_
      refine sh_w (i := .isub) (len := 1) (pc2 := 270) (lv2 := [(0, .ref 67), (1, .int x1)]) (st2 := [.int ((m.I 66 86) - (m.I 121 2)), .ref 123]) (h2 := (sh_rep m.T m.I m.J)) rfl rfl rfl ?_
      refine sh_w (i := (.iload_n 1)) (len := 1) (pc2 := 271) (lv2 := [(0, .ref 67), (1, .int x1)]) (st2 := [.int x1, .int ((m.I 66 86) - (m.I 121 2)), .ref 123]) (h2 := (sh_rep m.T m.I m.J)) rfl rfl rfl ?_
      refine sh_w (i := .iadd) (len := 1) (pc2 := 272) (lv2 := [(0, .ref 67), (1, .int x1)]) (st2 := [.int (((m.I 66 86) - (m.I 121 2)) + x1), .ref 123]) (h2 := (sh_rep m.T m.I m.J)) rfl rfl rfl ?_
      exact kk
    obtain ⟨c, e⟩ := sh_gd e
    refine sh_Lk_lift (T := m.T) (I := m.I) (J := m.J) (s := m.s) (pc2 := 273) (lv2 := [(0, .ref 67), (1, .int x1)]) (st2 := [.int (m.I 122 (Int32.toNatClampNeg (((m.I 66 86) - (m.I 121 2)) + x1)))]) (I2 := m.I) (J2 := m.J) (fun hT v kk => ?_) ?_
    · refine sh_ba1 (x := m.I 122 (Int32.toNatClampNeg (((m.I 66 86) - (m.I 121 2)) + x1))) (pc2 := 273) rfl (sh_s122 hT.st) (Or.inr rfl) (sh_okb1 c) (sh_okb2 c) rfl rfl ?_
      exact kk
    rcases sh_ite e with ⟨c, e⟩ | ⟨c, e⟩
    · refine sh_Lk_lift (T := m.T) (I := m.I) (J := m.J) (s := m.s) (pc2 := 294) (lv2 := [(0, .ref 67), (1, .int x1)]) (st2 := []) (I2 := m.I) (J2 := m.J) (fun hT v kk => ?_) ?_
      · refine sh_j0 (c := .eq) (off := (21)) (pc2 := 294) true rfl (sh_Beqt c) rfl ?_
        exact kk
      exact sh_Lk_sub (sh_sub_c rfl (sh_sub_c rfl (sh_sub_n))) (sl_339_294 e tg)
    · refine sh_Lk_lift (T := m.T) (I := m.I) (J := m.J) (s := m.s) (pc2 := 285) (lv2 := [(0, .ref 67), (1, .int x1)]) (st2 := [.int (x1 / 64), .ref 105, .int (x1 / 64), .ref 105]) (I2 := m.I) (J2 := m.J) (fun hT v kk => ?_) ?_
      · refine sh_j0 (c := .eq) (off := (21)) (pc2 := 276) false rfl (sh_Beqf c) rfl ?_
        refine sh_w (i := (.aload_n 0)) (len := 1) (pc2 := 277) (lv2 := [(0, .ref 67), (1, .int x1)]) (st2 := [.ref 67]) (h2 := (sh_rep m.T m.I m.J)) rfl rfl rfl ?_
        refine sh_gR1 (len := 3) (x := .ref 105) (pc2 := 280) rfl rfl (sh_s66 hT.st) rfl rfl ?_
        refine sh_w (i := (.iload_n 1)) (len := 1) (pc2 := 281) (lv2 := [(0, .ref 67), (1, .int x1)]) (st2 := [.int x1, .ref 105]) (h2 := (sh_rep m.T m.I m.J)) rfl rfl rfl ?_
        refine sh_w (i := (.bipush 64)) (len := 2) (pc2 := 283) (lv2 := [(0, .ref 67), (1, .int x1)]) (st2 := [.int 64, .int x1, .ref 105]) (h2 := (sh_rep m.T m.I m.J)) rfl rfl rfl ?_
        refine sh_w (i := .idiv) (len := 1) (pc2 := 284) (lv2 := [(0, .ref 67), (1, .int x1)]) (st2 := [.int (x1 / 64), .ref 105]) (h2 := (sh_rep m.T m.I m.J)) rfl rfl rfl ?_
        refine sh_w (i := .dup2) (len := 1) (pc2 := 285) (lv2 := [(0, .ref 67), (1, .int x1)]) (st2 := [.int (x1 / 64), .ref 105, .int (x1 / 64), .ref 105]) (h2 := (sh_rep m.T m.I m.J)) rfl rfl rfl ?_
        exact kk
      obtain ⟨c, e⟩ := sh_gd e
      refine sh_Lk_lift (T := m.T) (I := m.I) (J := m.J) (s := m.s) (pc2 := 293) (lv2 := [(0, .ref 67), (1, .int x1)]) (st2 := [.long ((m.J 104 (Int32.toNatClampNeg (x1 / 64))) ||| ((1 : Int64) <<< (Int32.toInt64 (x1 - x1 / 64 * 64) &&& 63))), .int (x1 / 64), .ref 105]) (I2 := m.I) (J2 := m.J) (fun hT v kk => ?_) ?_
      · refine sh_la1 (x := m.J 104 (Int32.toNatClampNeg (x1 / 64))) (pc2 := 286) rfl (sh_s104 hT.st) (sh_okb1 c) (sh_okb2 c) rfl rfl ?_
        refine sh_w (i := (.lconst 1)) (len := 1) (pc2 := 287) (lv2 := [(0, .ref 67), (1, .int x1)]) (st2 := [.long 1, .long (m.J 104 (Int32.toNatClampNeg (x1 / 64))), .int (x1 / 64), .ref 105]) (h2 := (sh_rep m.T m.I m.J)) rfl rfl rfl ?_
        refine sh_w (i := (.iload_n 1)) (len := 1) (pc2 := 288) (lv2 := [(0, .ref 67), (1, .int x1)]) (st2 := [.int x1, .long 1, .long (m.J 104 (Int32.toNatClampNeg (x1 / 64))), .int (x1 / 64), .ref 105]) (h2 := (sh_rep m.T m.I m.J)) rfl rfl rfl ?_
        refine sh_w (i := (.bipush 64)) (len := 2) (pc2 := 290) (lv2 := [(0, .ref 67), (1, .int x1)]) (st2 := [.int 64, .int x1, .long 1, .long (m.J 104 (Int32.toNatClampNeg (x1 / 64))), .int (x1 / 64), .ref 105]) (h2 := (sh_rep m.T m.I m.J)) rfl rfl rfl ?_
        refine sh_w (i := .irem) (len := 1) (pc2 := 291) (lv2 := [(0, .ref 67), (1, .int x1)]) (st2 := [.int (x1 - x1 / 64 * 64), .long 1, .long (m.J 104 (Int32.toNatClampNeg (x1 / 64))), .int (x1 / 64), .ref 105]) (h2 := (sh_rep m.T m.I m.J)) rfl rfl rfl ?_
        refine sh_w (i := .lshl) (len := 1) (pc2 := 292) (lv2 := [(0, .ref 67), (1, .int x1)]) (st2 := [.long ((1 : Int64) <<< (Int32.toInt64 (x1 - x1 / 64 * 64) &&& 63)), .long (m.J 104 (Int32.toNatClampNeg (x1 / 64))), .int (x1 / 64), .ref 105]) (h2 := (sh_rep m.T m.I m.J)) rfl rfl rfl ?_
        refine sh_w (i := .lor) (len := 1) (pc2 := 293) (lv2 := [(0, .ref 67), (1, .int x1)]) (st2 := [.long ((m.J 104 (Int32.toNatClampNeg (x1 / 64))) ||| ((1 : Int64) <<< (Int32.toInt64 (x1 - x1 / 64 * 64) &&& 63))), .int (x1 / 64), .ref 105]) (h2 := (sh_rep m.T m.I m.J)) rfl rfl rfl ?_
        exact kk
      obtain ⟨c, e⟩ := sh_gd e
      refine sh_Lk_lift (T := m.T) (I := m.I) (J := m.J) (s := m.s) (pc2 := 294) (lv2 := [(0, .ref 67), (1, .int x1)]) (st2 := []) (I2 := m.I) (J2 := sh_u2 m.J 104 (Int32.toNatClampNeg (x1 / 64)) ((m.J 104 (Int32.toNatClampNeg (x1 / 64))) ||| ((1 : Int64) <<< (Int32.toInt64 (x1 - x1 / 64 * 64) &&& 63)))) (fun hT v kk => ?_) ?_
      · refine sh_ls1 (x := (m.J 104 (Int32.toNatClampNeg (x1 / 64))) ||| ((1 : Int64) <<< (Int32.toInt64 (x1 - x1 / 64 * 64) &&& 63))) (i := x1 / 64) (pc2 := 294) rfl (sh_s104 hT.st) (sh_okb1 c) (sh_okb2 c) rfl ?_
        exact kk
      exact sh_Lk_sub (sh_sub_c rfl (sh_sub_c rfl (sh_sub_n))) (sl_339_294 e tg)
  · refine sh_Lk_lift (T := m.T) (I := m.I) (J := m.J) (s := m.s) (pc2 := 300) (lv2 := [(0, .ref 67), (1, .int x1)]) (st2 := []) (I2 := m.I) (J2 := m.J) (fun hT v kk => ?_) ?_
    · refine sh_jc (c := .ge) (off := (48)) (pc2 := 300) true rfl (sh_Bget c) rfl ?_
      exact kk
    obtain rfl := Option.some.inj e
    obtain ⟨rfl, rfl⟩ := tg
    exact sh_Lk_ret (i := .return_) rfl rfl rfl (Nat.le_of_ble_eq_true rfl) (Nat.le_of_ble_eq_true rfl)
theorem sl_339_245 {x1 : Int32} {m m2 : sh_X} {o : Outcome} {z : (Unit × sh_X)} (e : sf_339_245 x1 m = some z) (tg : (sh_tV o m2) z) : sh_Lk 339 245 [(0, .ref 67), (1, .int x1)] [] m o m2 8 200 := by
  unfold sf_339_245 at e
  exact sh_while_lk (P := fun q => sh_Lk 339 245 [(0, .ref 67), (1, .int q.1)] [] q.2 o m2 8 200) (Q := (sh_tV o m2)) (fun q z e tg => sl_339_245s (x1 := q.1) (m := q.2) e tg) (s := (x1, m)) e tg
theorem sl_339_220s {x1 : Int32} {m m2 : sh_X} {o : Outcome} {z : ((Int32 × sh_X) ⊕ (Unit × sh_X))} (e : sf_339_220s x1 m = some z) (tg : (sh_el (fun q => sh_Lk 339 220 [(0, .ref 67), (1, .int q.1)] [] q.2 o m2 8 200) (sh_tV o m2)) z) : sh_Lk 339 220 [(0, .ref 67), (1, .int x1)] [] m o m2 8 200 := by
  unfold sf_339_220s at e
  refine sh_Lk_lift (T := m.T) (I := m.I) (J := m.J) (s := m.s) (pc2 := 227) (lv2 := [(0, .ref 67), (1, .int x1)]) (st2 := [.int (m.I 99 2), .int x1]) (I2 := m.I) (J2 := m.J) (fun hT v kk => ?_) ?_
  · refine sh_w (i := (.iload_n 1)) (len := 1) (pc2 := 221) (lv2 := [(0, .ref 67), (1, .int x1)]) (st2 := [.int x1]) (h2 := (sh_rep m.T m.I m.J)) rfl rfl rfl ?_
    refine sh_w (i := (.aload_n 0)) (len := 1) (pc2 := 222) (lv2 := [(0, .ref 67), (1, .int x1)]) (st2 := [.ref 67, .int x1]) (h2 := (sh_rep m.T m.I m.J)) rfl rfl rfl ?_
    refine sh_gR1 (len := 3) (x := .ref 100) (pc2 := 225) rfl rfl (sh_s66 hT.st) rfl rfl ?_
    refine sh_w (i := (.iconst 2)) (len := 1) (pc2 := 226) (lv2 := [(0, .ref 67), (1, .int x1)]) (st2 := [.int 2, .ref 100, .int x1]) (h2 := (sh_rep m.T m.I m.J)) rfl rfl rfl ?_
    refine sh_ia1 (x := m.I 99 2) (pc2 := 227) rfl (sh_s99 hT.st) (by decide) (by decide) rfl rfl ?_
    exact kk
  rcases sh_ite e with ⟨c, e⟩ | ⟨c, e⟩
  · refine sh_Lk_lift (T := m.T) (I := m.I) (J := m.J) (s := m.s) (pc2 := 236) (lv2 := [(0, .ref 67), (1, .int x1)]) (st2 := [.long 0, .int x1, .ref 105]) (I2 := m.I) (J2 := m.J) (fun hT v kk => ?_) ?_
    · refine sh_jc (c := .ge) (off := (16)) (pc2 := 230) false rfl (sh_Bgef c) rfl ?_
      refine sh_w (i := (.aload_n 0)) (len := 1) (pc2 := 231) (lv2 := [(0, .ref 67), (1, .int x1)]) (st2 := [.ref 67]) (h2 := (sh_rep m.T m.I m.J)) rfl rfl rfl ?_
      refine sh_gR1 (len := 3) (x := .ref 105) (pc2 := 234) rfl rfl (sh_s66 hT.st) rfl rfl ?_
      refine sh_w (i := (.iload_n 1)) (len := 1) (pc2 := 235) (lv2 := [(0, .ref 67), (1, .int x1)]) (st2 := [.int x1, .ref 105]) (h2 := (sh_rep m.T m.I m.J)) rfl rfl rfl ?_
      refine sh_w (i := (.lconst 0)) (len := 1) (pc2 := 236) (lv2 := [(0, .ref 67), (1, .int x1)]) (st2 := [.long 0, .int x1, .ref 105]) (h2 := (sh_rep m.T m.I m.J)) rfl rfl rfl ?_
      exact kk
    obtain ⟨c, e⟩ := sh_gd e
    refine sh_Lk_lift (T := m.T) (I := m.I) (J := m.J) (s := m.s) (pc2 := 220) (lv2 := [(1, .int (x1 + 1)), (0, .ref 67)]) (st2 := []) (I2 := m.I) (J2 := sh_u2 m.J 104 (Int32.toNatClampNeg x1) 0) (fun hT v kk => ?_) ?_
    · refine sh_ls1 (x := 0) (i := x1) (pc2 := 237) rfl (sh_s104 hT.st) (sh_okb1 c) (sh_okb2 c) rfl ?_
      refine sh_w (i := (.iinc 1 1)) (len := 3) (pc2 := 240) (lv2 := [(1, .int (x1 + 1)), (0, .ref 67)]) (st2 := []) (h2 := (sh_rep m.T m.I (sh_u2 m.J 104 (Int32.toNatClampNeg x1) 0))) rfl rfl rfl ?_
      refine sh_w (i := (.goto (-20))) (len := 3) (pc2 := 220) (lv2 := [(1, .int (x1 + 1)), (0, .ref 67)]) (st2 := []) (h2 := (sh_rep m.T m.I (sh_u2 m.J 104 (Int32.toNatClampNeg x1) 0))) rfl rfl rfl ?_
      exact kk
    obtain rfl := Option.some.inj e
    exact sh_Lk_sub (sh_sub_c rfl (sh_sub_c rfl (sh_sub_n))) tg
  · refine sh_Lk_lift (T := m.T) (I := m.I) (J := m.J) (s := m.s) (pc2 := 245) (lv2 := [(1, .int 0), (0, .ref 67)]) (st2 := []) (I2 := m.I) (J2 := m.J) (fun hT v kk => ?_) ?_
    · refine sh_jc (c := .ge) (off := (16)) (pc2 := 243) true rfl (sh_Bget c) rfl ?_
      refine sh_w (i := (.iconst 0)) (len := 1) (pc2 := 244) (lv2 := [(0, .ref 67), (1, .int x1)]) (st2 := [.int 0]) (h2 := (sh_rep m.T m.I m.J)) rfl rfl rfl ?_
      refine sh_w (i := (.istore_n 1)) (len := 1) (pc2 := 245) (lv2 := [(1, .int 0), (0, .ref 67)]) (st2 := []) (h2 := (sh_rep m.T m.I m.J)) rfl rfl rfl ?_
      exact kk
    obtain ⟨_, eu, rfl⟩ := sh_up_e e
    exact sh_Lk_sub (sh_sub_c rfl (sh_sub_c rfl (sh_sub_n))) (sl_339_245 eu tg)
theorem sl_339_220 {x1 : Int32} {m m2 : sh_X} {o : Outcome} {z : (Unit × sh_X)} (e : sf_339_220 x1 m = some z) (tg : (sh_tV o m2) z) : sh_Lk 339 220 [(0, .ref 67), (1, .int x1)] [] m o m2 8 200 := by
  unfold sf_339_220 at e
  exact sh_while_lk (P := fun q => sh_Lk 339 220 [(0, .ref 67), (1, .int q.1)] [] q.2 o m2 8 200) (Q := (sh_tV o m2)) (fun q z e tg => sl_339_220s (x1 := q.1) (m := q.2) e tg) (s := (x1, m)) e tg
theorem sl_339_98s {x1 : Int32} {m m2 : sh_X} {o : Outcome} {z : ((Int32 × sh_X) ⊕ (Unit × sh_X))} (e : sf_339_98s x1 m = some z) (tg : (sh_el (fun q => sh_Lk 339 98 [(0, .ref 67), (1, .int q.1)] [] q.2 o m2 8 200) (sh_tV o m2)) z) : sh_Lk 339 98 [(0, .ref 67), (1, .int x1)] [] m o m2 8 200 := by
  unfold sf_339_98s at e
  refine sh_Lk_lift (T := m.T) (I := m.I) (J := m.J) (s := m.s) (pc2 := 103) (lv2 := [(0, .ref 67), (1, .int x1)]) (st2 := [.int (m.I 66 85), .int x1]) (I2 := m.I) (J2 := m.J) (fun hT v kk => ?_) ?_
  · refine sh_w (i := (.iload_n 1)) (len := 1) (pc2 := 99) (lv2 := [(0, .ref 67), (1, .int x1)]) (st2 := [.int x1]) (h2 := (sh_rep m.T m.I m.J)) rfl rfl rfl ?_
    refine sh_w (i := (.aload_n 0)) (len := 1) (pc2 := 100) (lv2 := [(0, .ref 67), (1, .int x1)]) (st2 := [.ref 67, .int x1]) (h2 := (sh_rep m.T m.I m.J)) rfl rfl rfl ?_
    refine sh_gI1 (len := 3) (x := m.I 66 85) (pc2 := 103) rfl rfl (sh_s66 hT.st) rfl rfl rfl ?_
    exact kk
  rcases sh_ite e with ⟨c, e⟩ | ⟨c, e⟩
  · refine sh_Lk_lift (T := m.T) (I := m.I) (J := m.J) (s := m.s) (pc2 := 115) (lv2 := [(0, .ref 67), (1, .int x1)]) (st2 := [.int x1, .ref 119, .ref 123]) (I2 := m.I) (J2 := m.J) (fun hT v kk => ?_) ?_
    · refine sh_jc (c := .ge) (off := (115)) (pc2 := 106) false rfl (sh_Bgef c) rfl ?_
      refine sh_w (i := (.aload_n 0)) (len := 1) (pc2 := 107) (lv2 := [(0, .ref 67), (1, .int x1)]) (st2 := [.ref 67]) (h2 := (sh_rep m.T m.I m.J)) rfl rfl rfl ?_
      refine sh_gR1 (len := 3) (x := .ref 123) (pc2 := 110) rfl rfl (sh_s66 hT.st) rfl rfl ?_
      refine sh_w (i := (.aload_n 0)) (len := 1) (pc2 := 111) (lv2 := [(0, .ref 67), (1, .int x1)]) (st2 := [.ref 67, .ref 123]) (h2 := (sh_rep m.T m.I m.J)) rfl rfl rfl ?_
      refine sh_gR1 (len := 3) (x := .ref 119) (pc2 := 114) rfl rfl (sh_s66 hT.st) rfl rfl ?_
      refine sh_w (i := (.iload_n 1)) (len := 1) (pc2 := 115) (lv2 := [(0, .ref 67), (1, .int x1)]) (st2 := [.int x1, .ref 119, .ref 123]) (h2 := (sh_rep m.T m.I m.J)) rfl rfl rfl ?_
      exact kk
    obtain ⟨c, e⟩ := sh_gd e
    refine sh_Lk_lift (T := m.T) (I := m.I) (J := m.J) (s := m.s) (pc2 := 116) (lv2 := [(0, .ref 67), (1, .int x1)]) (st2 := [.int (m.I 118 (Int32.toNatClampNeg x1)), .ref 123]) (I2 := m.I) (J2 := m.J) (fun hT v kk => ?_) ?_
    · refine sh_ia1 (x := m.I 118 (Int32.toNatClampNeg x1)) (pc2 := 116) rfl (sh_s118 hT.st) (sh_okb1 c) (sh_okb2 c) rfl rfl ?_
      exact kk
    obtain ⟨c, e⟩ := sh_gd e
    refine sh_Lk_lift (T := m.T) (I := m.I) (J := m.J) (s := m.s) (pc2 := 127) (lv2 := [(2, .int (m.I 122 (Int32.toNatClampNeg (m.I 118 (Int32.toNatClampNeg x1))))), (0, .ref 67), (1, .int x1)]) (st2 := [.int x1, .ref 120, .ref 123]) (I2 := m.I) (J2 := m.J) (fun hT v kk => ?_) ?_
    · refine sh_ba1 (x := m.I 122 (Int32.toNatClampNeg (m.I 118 (Int32.toNatClampNeg x1)))) (pc2 := 117) rfl (sh_s122 hT.st) (Or.inr rfl) (sh_okb1 c) (sh_okb2 c) rfl rfl ?_
      refine sh_w (i := (.istore_n 2)) (len := 1) (pc2 := 118) (lv2 := [(2, .int (m.I 122 (Int32.toNatClampNeg (m.I 118 (Int32.toNatClampNeg x1))))), (0, .ref 67), (1, .int x1)]) (st2 := []) (h2 := (sh_rep m.T m.I m.J)) rfl rfl rfl ?_
      refine sh_w (i := (.aload_n 0)) (len := 1) (pc2 := 119) (lv2 := [(2, .int (m.I 122 (Int32.toNatClampNeg (m.I 118 (Int32.toNatClampNeg x1))))), (0, .ref 67), (1, .int x1)]) (st2 := [.ref 67]) (h2 := (sh_rep m.T m.I m.J)) rfl rfl rfl ?_
      refine sh_gR1 (len := 3) (x := .ref 123) (pc2 := 122) rfl rfl (sh_s66 hT.st) rfl rfl ?_
      refine sh_w (i := (.aload_n 0)) (len := 1) (pc2 := 123) (lv2 := [(2, .int (m.I 122 (Int32.toNatClampNeg (m.I 118 (Int32.toNatClampNeg x1))))), (0, .ref 67), (1, .int x1)]) (st2 := [.ref 67, .ref 123]) (h2 := (sh_rep m.T m.I m.J)) rfl rfl rfl ?_
      refine sh_gR1 (len := 3) (x := .ref 120) (pc2 := 126) rfl rfl (sh_s66 hT.st) rfl rfl ?_
      refine sh_w (i := (.iload_n 1)) (len := 1) (pc2 := 127) (lv2 := [(2, .int (m.I 122 (Int32.toNatClampNeg (m.I 118 (Int32.toNatClampNeg x1))))), (0, .ref 67), (1, .int x1)]) (st2 := [.int x1, .ref 120, .ref 123]) (h2 := (sh_rep m.T m.I m.J)) rfl rfl rfl ?_
      exact kk
    obtain ⟨c, e⟩ := sh_gd e
    refine sh_Lk_lift (T := m.T) (I := m.I) (J := m.J) (s := m.s) (pc2 := 128) (lv2 := [(2, .int (m.I 122 (Int32.toNatClampNeg (m.I 118 (Int32.toNatClampNeg x1))))), (0, .ref 67), (1, .int x1)]) (st2 := [.int (m.I 119 (Int32.toNatClampNeg x1)), .ref 123]) (I2 := m.I) (J2 := m.J) (fun hT v kk => ?_) ?_
    · refine sh_ia1 (x := m.I 119 (Int32.toNatClampNeg x1)) (pc2 := 128) rfl (sh_s119 hT.st) (sh_okb1 c) (sh_okb2 c) rfl rfl ?_
      exact kk
    obtain ⟨c, e⟩ := sh_gd e
    refine sh_Lk_lift (T := m.T) (I := m.I) (J := m.J) (s := m.s) (pc2 := 139) (lv2 := [(3, .int (m.I 122 (Int32.toNatClampNeg (m.I 119 (Int32.toNatClampNeg x1))))), (2, .int (m.I 122 (Int32.toNatClampNeg (m.I 118 (Int32.toNatClampNeg x1))))), (0, .ref 67), (1, .int x1)]) (st2 := [.int x1, .ref 121, .ref 123]) (I2 := m.I) (J2 := m.J) (fun hT v kk => ?_) ?_
    · refine sh_ba1 (x := m.I 122 (Int32.toNatClampNeg (m.I 119 (Int32.toNatClampNeg x1)))) (pc2 := 129) rfl (sh_s122 hT.st) (Or.inr rfl) (sh_okb1 c) (sh_okb2 c) rfl rfl ?_
      refine sh_w (i := (.istore_n 3)) (len := 1) (pc2 := 130) (lv2 := [(3, .int (m.I 122 (Int32.toNatClampNeg (m.I 119 (Int32.toNatClampNeg x1))))), (2, .int (m.I 122 (Int32.toNatClampNeg (m.I 118 (Int32.toNatClampNeg x1))))), (0, .ref 67), (1, .int x1)]) (st2 := []) (h2 := (sh_rep m.T m.I m.J)) rfl rfl rfl ?_
      refine sh_w (i := (.aload_n 0)) (len := 1) (pc2 := 131) (lv2 := [(3, .int (m.I 122 (Int32.toNatClampNeg (m.I 119 (Int32.toNatClampNeg x1))))), (2, .int (m.I 122 (Int32.toNatClampNeg (m.I 118 (Int32.toNatClampNeg x1))))), (0, .ref 67), (1, .int x1)]) (st2 := [.ref 67]) (h2 := (sh_rep m.T m.I m.J)) rfl rfl rfl ?_
      refine sh_gR1 (len := 3) (x := .ref 123) (pc2 := 134) rfl rfl (sh_s66 hT.st) rfl rfl ?_
      refine sh_w (i := (.aload_n 0)) (len := 1) (pc2 := 135) (lv2 := [(3, .int (m.I 122 (Int32.toNatClampNeg (m.I 119 (Int32.toNatClampNeg x1))))), (2, .int (m.I 122 (Int32.toNatClampNeg (m.I 118 (Int32.toNatClampNeg x1))))), (0, .ref 67), (1, .int x1)]) (st2 := [.ref 67, .ref 123]) (h2 := (sh_rep m.T m.I m.J)) rfl rfl rfl ?_
      refine sh_gR1 (len := 3) (x := .ref 121) (pc2 := 138) rfl rfl (sh_s66 hT.st) rfl rfl ?_
      refine sh_w (i := (.iload_n 1)) (len := 1) (pc2 := 139) (lv2 := [(3, .int (m.I 122 (Int32.toNatClampNeg (m.I 119 (Int32.toNatClampNeg x1))))), (2, .int (m.I 122 (Int32.toNatClampNeg (m.I 118 (Int32.toNatClampNeg x1))))), (0, .ref 67), (1, .int x1)]) (st2 := [.int x1, .ref 121, .ref 123]) (h2 := (sh_rep m.T m.I m.J)) rfl rfl rfl ?_
      exact kk
    obtain ⟨c, e⟩ := sh_gd e
    refine sh_Lk_lift (T := m.T) (I := m.I) (J := m.J) (s := m.s) (pc2 := 145) (lv2 := [(3, .int (m.I 122 (Int32.toNatClampNeg (m.I 119 (Int32.toNatClampNeg x1))))), (2, .int (m.I 122 (Int32.toNatClampNeg (m.I 118 (Int32.toNatClampNeg x1))))), (0, .ref 67), (1, .int x1)]) (st2 := [.int x1, .ref 118, .int (m.I 120 (Int32.toNatClampNeg x1)), .ref 123]) (I2 := m.I) (J2 := m.J) (fun hT v kk => ?_) ?_
    · refine sh_ia1 (x := m.I 120 (Int32.toNatClampNeg x1)) (pc2 := 140) rfl (sh_s120 hT.st) (sh_okb1 c) (sh_okb2 c) rfl rfl ?_
      refine sh_w (i := (.aload_n 0)) (len := 1) (pc2 := 141) (lv2 := [(3, .int (m.I 122 (Int32.toNatClampNeg (m.I 119 (Int32.toNatClampNeg x1))))), (2, .int (m.I 122 (Int32.toNatClampNeg (m.I 118 (Int32.toNatClampNeg x1))))), (0, .ref 67), (1, .int x1)]) (st2 := [.ref 67, .int (m.I 120 (Int32.toNatClampNeg x1)), .ref 123]) (h2 := (sh_rep m.T m.I m.J)) rfl rfl rfl ?_
      refine sh_gR1 (len := 3) (x := .ref 118) (pc2 := 144) rfl rfl (sh_s66 hT.st) rfl rfl ?_
      refine sh_w (i := (.iload_n 1)) (len := 1) (pc2 := 145) (lv2 := [(3, .int (m.I 122 (Int32.toNatClampNeg (m.I 119 (Int32.toNatClampNeg x1))))), (2, .int (m.I 122 (Int32.toNatClampNeg (m.I 118 (Int32.toNatClampNeg x1))))), (0, .ref 67), (1, .int x1)]) (st2 := [.int x1, .ref 118, .int (m.I 120 (Int32.toNatClampNeg x1)), .ref 123]) (h2 := (sh_rep m.T m.I m.J)) rfl rfl rfl ?_
      exact kk
    obtain ⟨c, e⟩ := sh_gd e
    refine sh_Lk_lift (T := m.T) (I := m.I) (J := m.J) (s := m.s) (pc2 := 146) (lv2 := [(3, .int (m.I 122 (Int32.toNatClampNeg (m.I 119 (Int32.toNatClampNeg x1))))), (2, .int (m.I 122 (Int32.toNatClampNeg (m.I 118 (Int32.toNatClampNeg x1))))), (0, .ref 67), (1, .int x1)]) (st2 := [.int (m.I 117 (Int32.toNatClampNeg x1)), .int (m.I 120 (Int32.toNatClampNeg x1)), .ref 123]) (I2 := m.I) (J2 := m.J) (fun hT v kk => ?_) ?_
    · refine sh_ia1 (x := m.I 117 (Int32.toNatClampNeg x1)) (pc2 := 146) rfl (sh_s117 hT.st) (sh_okb1 c) (sh_okb2 c) rfl rfl ?_
      exact kk
    rcases sh_ite e with ⟨c, e⟩ | ⟨c, e⟩
    · refine sh_Lk_lift (T := m.T) (I := m.I) (J := m.J) (s := m.s) (pc2 := 151) (lv2 := [(3, .int (m.I 122 (Int32.toNatClampNeg (m.I 119 (Int32.toNatClampNeg x1))))), (2, .int (m.I 122 (Int32.toNatClampNeg (m.I 118 (Int32.toNatClampNeg x1))))), (0, .ref 67), (1, .int x1)]) (st2 := [.int (m.I 122 (Int32.toNatClampNeg (m.I 119 (Int32.toNatClampNeg x1)))), .int (m.I 122 (Int32.toNatClampNeg (m.I 118 (Int32.toNatClampNeg x1)))), .int (m.I 120 (Int32.toNatClampNeg x1)), .ref 123]) (I2 := m.I) (J2 := m.J) (fun hT v kk => ?_) ?_
      · refine sh_j0 (c := .ne) (off := (16)) (pc2 := 149) false rfl (sh_Bnef c) rfl ?_
        refine sh_w (i := (.iload_n 2)) (len := 1) (pc2 := 150) (lv2 := [(3, .int (m.I 122 (Int32.toNatClampNeg (m.I 119 (Int32.toNatClampNeg x1))))), (2, .int (m.I 122 (Int32.toNatClampNeg (m.I 118 (Int32.toNatClampNeg x1))))), (0, .ref 67), (1, .int x1)]) (st2 := [.int (m.I 122 (Int32.toNatClampNeg (m.I 118 (Int32.toNatClampNeg x1)))), .int (m.I 120 (Int32.toNatClampNeg x1)), .ref 123]) (h2 := (sh_rep m.T m.I m.J)) rfl rfl rfl ?_
        refine sh_w (i := (.iload_n 3)) (len := 1) (pc2 := 151) (lv2 := [(3, .int (m.I 122 (Int32.toNatClampNeg (m.I 119 (Int32.toNatClampNeg x1))))), (2, .int (m.I 122 (Int32.toNatClampNeg (m.I 118 (Int32.toNatClampNeg x1))))), (0, .ref 67), (1, .int x1)]) (st2 := [.int (m.I 122 (Int32.toNatClampNeg (m.I 119 (Int32.toNatClampNeg x1)))), .int (m.I 122 (Int32.toNatClampNeg (m.I 118 (Int32.toNatClampNeg x1)))), .int (m.I 120 (Int32.toNatClampNeg x1)), .ref 123]) (h2 := (sh_rep m.T m.I m.J)) rfl rfl rfl ?_
        exact kk
      rcases sh_ite e with ⟨c, e⟩ | ⟨c, e⟩
      · refine sh_Lk_lift (T := m.T) (I := m.I) (J := m.J) (s := m.s) (pc2 := 211) (lv2 := [(3, .int (m.I 122 (Int32.toNatClampNeg (m.I 119 (Int32.toNatClampNeg x1))))), (2, .int (m.I 122 (Int32.toNatClampNeg (m.I 118 (Int32.toNatClampNeg x1))))), (0, .ref 67), (1, .int x1)]) (st2 := [.int 0, .int (m.I 120 (Int32.toNatClampNeg x1)), .ref 123]) (I2 := m.I) (J2 := m.J) (fun hT v kk => ?_) ?_
        · refine sh_jc (c := .eq) (off := (7)) (pc2 := 158) true rfl (sh_Beqt c) rfl ?_
          refine sh_w (i := (.iconst 0)) (len := 1) (pc2 := 159) (lv2 := [(3, .int (m.I 122 (Int32.toNatClampNeg (m.I 119 (Int32.toNatClampNeg x1))))), (2, .int (m.I 122 (Int32.toNatClampNeg (m.I 118 (Int32.toNatClampNeg x1))))), (0, .ref 67), (1, .int x1)]) (st2 := [.int 0, .int (m.I 120 (Int32.toNatClampNeg x1)), .ref 123]) (h2 := (sh_rep m.T m.I m.J)) rfl rfl rfl ?_
          refine sh_w (i := (.goto 52)) (len := 3) (pc2 := 211) (lv2 := [(3, .int (m.I 122 (Int32.toNatClampNeg (m.I 119 (Int32.toNatClampNeg x1))))), (2, .int (m.I 122 (Int32.toNatClampNeg (m.I 118 (Int32.toNatClampNeg x1))))), (0, .ref 67), (1, .int x1)]) (st2 := [.int 0, .int (m.I 120 (Int32.toNatClampNeg x1)), .ref 123]) (h2 := (sh_rep m.T m.I m.J)) rfl rfl rfl ?_
          exact kk
        exact sh_Lk_sub (sh_sub_c rfl (sh_sub_c rfl (sh_sub_n))) (sl_339_211 e tg)
      · refine sh_Lk_lift (T := m.T) (I := m.I) (J := m.J) (s := m.s) (pc2 := 211) (lv2 := [(3, .int (m.I 122 (Int32.toNatClampNeg (m.I 119 (Int32.toNatClampNeg x1))))), (2, .int (m.I 122 (Int32.toNatClampNeg (m.I 118 (Int32.toNatClampNeg x1))))), (0, .ref 67), (1, .int x1)]) (st2 := [.int 1, .int (m.I 120 (Int32.toNatClampNeg x1)), .ref 123]) (I2 := m.I) (J2 := m.J) (fun hT v kk => ?_) ?_
        · refine sh_jc (c := .eq) (off := (7)) (pc2 := 154) false rfl (sh_Beqf c) rfl ?_
          refine sh_w (i := (.iconst 1)) (len := 1) (pc2 := 155) (lv2 := [(3, .int (m.I 122 (Int32.toNatClampNeg (m.I 119 (Int32.toNatClampNeg x1))))), (2, .int (m.I 122 (Int32.toNatClampNeg (m.I 118 (Int32.toNatClampNeg x1))))), (0, .ref 67), (1, .int x1)]) (st2 := [.int 1, .int (m.I 120 (Int32.toNatClampNeg x1)), .ref 123]) (h2 := (sh_rep m.T m.I m.J)) rfl rfl rfl ?_
          refine sh_w (i := (.goto 56)) (len := 3) (pc2 := 211) (lv2 := [(3, .int (m.I 122 (Int32.toNatClampNeg (m.I 119 (Int32.toNatClampNeg x1))))), (2, .int (m.I 122 (Int32.toNatClampNeg (m.I 118 (Int32.toNatClampNeg x1))))), (0, .ref 67), (1, .int x1)]) (st2 := [.int 1, .int (m.I 120 (Int32.toNatClampNeg x1)), .ref 123]) (h2 := (sh_rep m.T m.I m.J)) rfl rfl rfl ?_
          exact kk
        exact sh_Lk_sub (sh_sub_c rfl (sh_sub_c rfl (sh_sub_n))) (sl_339_211 e tg)
    · refine sh_Lk_lift (T := m.T) (I := m.I) (J := m.J) (s := m.s) (pc2 := 167) (lv2 := [(3, .int (m.I 122 (Int32.toNatClampNeg (m.I 119 (Int32.toNatClampNeg x1))))), (2, .int (m.I 122 (Int32.toNatClampNeg (m.I 118 (Int32.toNatClampNeg x1))))), (0, .ref 67), (1, .int x1)]) (st2 := [.int x1, .ref 118, .int (m.I 120 (Int32.toNatClampNeg x1)), .ref 123]) (I2 := m.I) (J2 := m.J) (fun hT v kk => ?_) ?_
      · refine sh_j0 (c := .ne) (off := (16)) (pc2 := 162) true rfl (sh_Bnet c) rfl ?_
        refine sh_w (i := (.aload_n 0)) (len := 1) (pc2 := 163) (lv2 := [(3, .int (m.I 122 (Int32.toNatClampNeg (m.I 119 (Int32.toNatClampNeg x1))))), (2, .int (m.I 122 (Int32.toNatClampNeg (m.I 118 (Int32.toNatClampNeg x1))))), (0, .ref 67), (1, .int x1)]) (st2 := [.ref 67, .int (m.I 120 (Int32.toNatClampNeg x1)), .ref 123]) (h2 := (sh_rep m.T m.I m.J)) rfl rfl rfl ?_
        refine sh_gR1 (len := 3) (x := .ref 118) (pc2 := 166) rfl rfl (sh_s66 hT.st) rfl rfl ?_
        refine sh_w (i := (.iload_n 1)) (len := 1) (pc2 := 167) (lv2 := [(3, .int (m.I 122 (Int32.toNatClampNeg (m.I 119 (Int32.toNatClampNeg x1))))), (2, .int (m.I 122 (Int32.toNatClampNeg (m.I 118 (Int32.toNatClampNeg x1))))), (0, .ref 67), (1, .int x1)]) (st2 := [.int x1, .ref 118, .int (m.I 120 (Int32.toNatClampNeg x1)), .ref 123]) (h2 := (sh_rep m.T m.I m.J)) rfl rfl rfl ?_
        exact kk
      obtain ⟨c, e⟩ := sh_gd e
      refine sh_Lk_lift (T := m.T) (I := m.I) (J := m.J) (s := m.s) (pc2 := 169) (lv2 := [(3, .int (m.I 122 (Int32.toNatClampNeg (m.I 119 (Int32.toNatClampNeg x1))))), (2, .int (m.I 122 (Int32.toNatClampNeg (m.I 118 (Int32.toNatClampNeg x1))))), (0, .ref 67), (1, .int x1)]) (st2 := [.int 1, .int (m.I 117 (Int32.toNatClampNeg x1)), .int (m.I 120 (Int32.toNatClampNeg x1)), .ref 123]) (I2 := m.I) (J2 := m.J) (fun hT v kk => ?_) ?_
      · refine sh_ia1 (x := m.I 117 (Int32.toNatClampNeg x1)) (pc2 := 168) rfl (sh_s117 hT.st) (sh_okb1 c) (sh_okb2 c) rfl rfl ?_
        refine sh_w (i := (.iconst 1)) (len := 1) (pc2 := 169) (lv2 := [(3, .int (m.I 122 (Int32.toNatClampNeg (m.I 119 (Int32.toNatClampNeg x1))))), (2, .int (m.I 122 (Int32.toNatClampNeg (m.I 118 (Int32.toNatClampNeg x1))))), (0, .ref 67), (1, .int x1)]) (st2 := [.int 1, .int (m.I 117 (Int32.toNatClampNeg x1)), .int (m.I 120 (Int32.toNatClampNeg x1)), .ref 123]) (h2 := (sh_rep m.T m.I m.J)) rfl rfl rfl ?_
        exact kk
      rcases sh_ite e with ⟨c, e⟩ | ⟨c, e⟩
      · refine sh_Lk_lift (T := m.T) (I := m.I) (J := m.J) (s := m.s) (pc2 := 173) (lv2 := [(3, .int (m.I 122 (Int32.toNatClampNeg (m.I 119 (Int32.toNatClampNeg x1))))), (2, .int (m.I 122 (Int32.toNatClampNeg (m.I 118 (Int32.toNatClampNeg x1))))), (0, .ref 67), (1, .int x1)]) (st2 := [.int (m.I 122 (Int32.toNatClampNeg (m.I 118 (Int32.toNatClampNeg x1)))), .int (m.I 120 (Int32.toNatClampNeg x1)), .ref 123]) (I2 := m.I) (J2 := m.J) (fun hT v kk => ?_) ?_
        · refine sh_jc (c := .ne) (off := (19)) (pc2 := 172) false rfl (sh_Bnef c) rfl ?_
          refine sh_w (i := (.iload_n 2)) (len := 1) (pc2 := 173) (lv2 := [(3, .int (m.I 122 (Int32.toNatClampNeg (m.I 119 (Int32.toNatClampNeg x1))))), (2, .int (m.I 122 (Int32.toNatClampNeg (m.I 118 (Int32.toNatClampNeg x1))))), (0, .ref 67), (1, .int x1)]) (st2 := [.int (m.I 122 (Int32.toNatClampNeg (m.I 118 (Int32.toNatClampNeg x1)))), .int (m.I 120 (Int32.toNatClampNeg x1)), .ref 123]) (h2 := (sh_rep m.T m.I m.J)) rfl rfl rfl ?_
          exact kk
        rcases sh_ite e with ⟨c, e⟩ | ⟨c, e⟩
        · refine sh_Lk_lift (T := m.T) (I := m.I) (J := m.J) (s := m.s) (pc2 := 184) (lv2 := [(3, .int (m.I 122 (Int32.toNatClampNeg (m.I 119 (Int32.toNatClampNeg x1))))), (2, .int (m.I 122 (Int32.toNatClampNeg (m.I 118 (Int32.toNatClampNeg x1))))), (0, .ref 67), (1, .int x1)]) (st2 := [.int (m.I 120 (Int32.toNatClampNeg x1)), .ref 123]) (I2 := m.I) (J2 := m.J) (fun hT v kk => ?_) ?_
          · refine sh_j0 (c := .eq) (off := (11)) (pc2 := 184) true rfl (sh_Beqt c) rfl ?_
            exact kk
          exact sh_Lk_sub (sh_sub_c rfl (sh_sub_c rfl (sh_sub_n))) (sl_339_184 e tg)
        · refine sh_Lk_lift (T := m.T) (I := m.I) (J := m.J) (s := m.s) (pc2 := 177) (lv2 := [(3, .int (m.I 122 (Int32.toNatClampNeg (m.I 119 (Int32.toNatClampNeg x1))))), (2, .int (m.I 122 (Int32.toNatClampNeg (m.I 118 (Int32.toNatClampNeg x1))))), (0, .ref 67), (1, .int x1)]) (st2 := [.int (m.I 122 (Int32.toNatClampNeg (m.I 119 (Int32.toNatClampNeg x1)))), .int (m.I 120 (Int32.toNatClampNeg x1)), .ref 123]) (I2 := m.I) (J2 := m.J) (fun hT v kk => ?_) ?_
          · refine sh_j0 (c := .eq) (off := (11)) (pc2 := 176) false rfl (sh_Beqf c) rfl ?_
            refine sh_w (i := (.iload_n 3)) (len := 1) (pc2 := 177) (lv2 := [(3, .int (m.I 122 (Int32.toNatClampNeg (m.I 119 (Int32.toNatClampNeg x1))))), (2, .int (m.I 122 (Int32.toNatClampNeg (m.I 118 (Int32.toNatClampNeg x1))))), (0, .ref 67), (1, .int x1)]) (st2 := [.int (m.I 122 (Int32.toNatClampNeg (m.I 119 (Int32.toNatClampNeg x1)))), .int (m.I 120 (Int32.toNatClampNeg x1)), .ref 123]) (h2 := (sh_rep m.T m.I m.J)) rfl rfl rfl ?_
            exact kk
          rcases sh_ite e with ⟨c, e⟩ | ⟨c, e⟩
          · refine sh_Lk_lift (T := m.T) (I := m.I) (J := m.J) (s := m.s) (pc2 := 184) (lv2 := [(3, .int (m.I 122 (Int32.toNatClampNeg (m.I 119 (Int32.toNatClampNeg x1))))), (2, .int (m.I 122 (Int32.toNatClampNeg (m.I 118 (Int32.toNatClampNeg x1))))), (0, .ref 67), (1, .int x1)]) (st2 := [.int (m.I 120 (Int32.toNatClampNeg x1)), .ref 123]) (I2 := m.I) (J2 := m.J) (fun hT v kk => ?_) ?_
            · refine sh_j0 (c := .eq) (off := (7)) (pc2 := 184) true rfl (sh_Beqt c) rfl ?_
              exact kk
            exact sh_Lk_sub (sh_sub_c rfl (sh_sub_c rfl (sh_sub_n))) (sl_339_184 e tg)
          · refine sh_Lk_lift (T := m.T) (I := m.I) (J := m.J) (s := m.s) (pc2 := 211) (lv2 := [(3, .int (m.I 122 (Int32.toNatClampNeg (m.I 119 (Int32.toNatClampNeg x1))))), (2, .int (m.I 122 (Int32.toNatClampNeg (m.I 118 (Int32.toNatClampNeg x1))))), (0, .ref 67), (1, .int x1)]) (st2 := [.int 1, .int (m.I 120 (Int32.toNatClampNeg x1)), .ref 123]) (I2 := m.I) (J2 := m.J) (fun hT v kk => ?_) ?_
            · refine sh_j0 (c := .eq) (off := (7)) (pc2 := 180) false rfl (sh_Beqf c) rfl ?_
              refine sh_w (i := (.iconst 1)) (len := 1) (pc2 := 181) (lv2 := [(3, .int (m.I 122 (Int32.toNatClampNeg (m.I 119 (Int32.toNatClampNeg x1))))), (2, .int (m.I 122 (Int32.toNatClampNeg (m.I 118 (Int32.toNatClampNeg x1))))), (0, .ref 67), (1, .int x1)]) (st2 := [.int 1, .int (m.I 120 (Int32.toNatClampNeg x1)), .ref 123]) (h2 := (sh_rep m.T m.I m.J)) rfl rfl rfl ?_
              refine sh_w (i := (.goto 30)) (len := 3) (pc2 := 211) (lv2 := [(3, .int (m.I 122 (Int32.toNatClampNeg (m.I 119 (Int32.toNatClampNeg x1))))), (2, .int (m.I 122 (Int32.toNatClampNeg (m.I 118 (Int32.toNatClampNeg x1))))), (0, .ref 67), (1, .int x1)]) (st2 := [.int 1, .int (m.I 120 (Int32.toNatClampNeg x1)), .ref 123]) (h2 := (sh_rep m.T m.I m.J)) rfl rfl rfl ?_
              exact kk
            exact sh_Lk_sub (sh_sub_c rfl (sh_sub_c rfl (sh_sub_n))) (sl_339_211 e tg)
      · refine sh_Lk_lift (T := m.T) (I := m.I) (J := m.J) (s := m.s) (pc2 := 193) (lv2 := [(3, .int (m.I 122 (Int32.toNatClampNeg (m.I 119 (Int32.toNatClampNeg x1))))), (2, .int (m.I 122 (Int32.toNatClampNeg (m.I 118 (Int32.toNatClampNeg x1))))), (0, .ref 67), (1, .int x1)]) (st2 := [.int x1, .ref 118, .int (m.I 120 (Int32.toNatClampNeg x1)), .ref 123]) (I2 := m.I) (J2 := m.J) (fun hT v kk => ?_) ?_
        · refine sh_jc (c := .ne) (off := (19)) (pc2 := 188) true rfl (sh_Bnet c) rfl ?_
          refine sh_w (i := (.aload_n 0)) (len := 1) (pc2 := 189) (lv2 := [(3, .int (m.I 122 (Int32.toNatClampNeg (m.I 119 (Int32.toNatClampNeg x1))))), (2, .int (m.I 122 (Int32.toNatClampNeg (m.I 118 (Int32.toNatClampNeg x1))))), (0, .ref 67), (1, .int x1)]) (st2 := [.ref 67, .int (m.I 120 (Int32.toNatClampNeg x1)), .ref 123]) (h2 := (sh_rep m.T m.I m.J)) rfl rfl rfl ?_
          refine sh_gR1 (len := 3) (x := .ref 118) (pc2 := 192) rfl rfl (sh_s66 hT.st) rfl rfl ?_
          refine sh_w (i := (.iload_n 1)) (len := 1) (pc2 := 193) (lv2 := [(3, .int (m.I 122 (Int32.toNatClampNeg (m.I 119 (Int32.toNatClampNeg x1))))), (2, .int (m.I 122 (Int32.toNatClampNeg (m.I 118 (Int32.toNatClampNeg x1))))), (0, .ref 67), (1, .int x1)]) (st2 := [.int x1, .ref 118, .int (m.I 120 (Int32.toNatClampNeg x1)), .ref 123]) (h2 := (sh_rep m.T m.I m.J)) rfl rfl rfl ?_
          exact kk
        obtain ⟨c, e⟩ := sh_gd e
        refine sh_Lk_lift (T := m.T) (I := m.I) (J := m.J) (s := m.s) (pc2 := 195) (lv2 := [(3, .int (m.I 122 (Int32.toNatClampNeg (m.I 119 (Int32.toNatClampNeg x1))))), (2, .int (m.I 122 (Int32.toNatClampNeg (m.I 118 (Int32.toNatClampNeg x1))))), (0, .ref 67), (1, .int x1)]) (st2 := [.int 2, .int (m.I 117 (Int32.toNatClampNeg x1)), .int (m.I 120 (Int32.toNatClampNeg x1)), .ref 123]) (I2 := m.I) (J2 := m.J) (fun hT v kk => ?_) ?_
        · refine sh_ia1 (x := m.I 117 (Int32.toNatClampNeg x1)) (pc2 := 194) rfl (sh_s117 hT.st) (sh_okb1 c) (sh_okb2 c) rfl rfl ?_
          refine sh_w (i := (.iconst 2)) (len := 1) (pc2 := 195) (lv2 := [(3, .int (m.I 122 (Int32.toNatClampNeg (m.I 119 (Int32.toNatClampNeg x1))))), (2, .int (m.I 122 (Int32.toNatClampNeg (m.I 118 (Int32.toNatClampNeg x1))))), (0, .ref 67), (1, .int x1)]) (st2 := [.int 2, .int (m.I 117 (Int32.toNatClampNeg x1)), .int (m.I 120 (Int32.toNatClampNeg x1)), .ref 123]) (h2 := (sh_rep m.T m.I m.J)) rfl rfl rfl ?_
          exact kk
        rcases sh_ite e with ⟨c, e⟩ | ⟨c, e⟩
        · refine sh_Lk_lift (T := m.T) (I := m.I) (J := m.J) (s := m.s) (pc2 := 199) (lv2 := [(3, .int (m.I 122 (Int32.toNatClampNeg (m.I 119 (Int32.toNatClampNeg x1))))), (2, .int (m.I 122 (Int32.toNatClampNeg (m.I 118 (Int32.toNatClampNeg x1))))), (0, .ref 67), (1, .int x1)]) (st2 := [.int (m.I 122 (Int32.toNatClampNeg (m.I 118 (Int32.toNatClampNeg x1)))), .int (m.I 120 (Int32.toNatClampNeg x1)), .ref 123]) (I2 := m.I) (J2 := m.J) (fun hT v kk => ?_) ?_
          · refine sh_jc (c := .ne) (off := (15)) (pc2 := 198) false rfl (sh_Bnef c) rfl ?_
            refine sh_w (i := (.iload_n 2)) (len := 1) (pc2 := 199) (lv2 := [(3, .int (m.I 122 (Int32.toNatClampNeg (m.I 119 (Int32.toNatClampNeg x1))))), (2, .int (m.I 122 (Int32.toNatClampNeg (m.I 118 (Int32.toNatClampNeg x1))))), (0, .ref 67), (1, .int x1)]) (st2 := [.int (m.I 122 (Int32.toNatClampNeg (m.I 118 (Int32.toNatClampNeg x1)))), .int (m.I 120 (Int32.toNatClampNeg x1)), .ref 123]) (h2 := (sh_rep m.T m.I m.J)) rfl rfl rfl ?_
            exact kk
          rcases sh_ite e with ⟨c, e⟩ | ⟨c, e⟩
          · refine sh_Lk_lift (T := m.T) (I := m.I) (J := m.J) (s := m.s) (pc2 := 211) (lv2 := [(3, .int (m.I 122 (Int32.toNatClampNeg (m.I 119 (Int32.toNatClampNeg x1))))), (2, .int (m.I 122 (Int32.toNatClampNeg (m.I 118 (Int32.toNatClampNeg x1))))), (0, .ref 67), (1, .int x1)]) (st2 := [.int 1, .int (m.I 120 (Int32.toNatClampNeg x1)), .ref 123]) (I2 := m.I) (J2 := m.J) (fun hT v kk => ?_) ?_
            · refine sh_j0 (c := .ne) (off := (7)) (pc2 := 202) false rfl (sh_Bnef c) rfl ?_
              refine sh_w (i := (.iconst 1)) (len := 1) (pc2 := 203) (lv2 := [(3, .int (m.I 122 (Int32.toNatClampNeg (m.I 119 (Int32.toNatClampNeg x1))))), (2, .int (m.I 122 (Int32.toNatClampNeg (m.I 118 (Int32.toNatClampNeg x1))))), (0, .ref 67), (1, .int x1)]) (st2 := [.int 1, .int (m.I 120 (Int32.toNatClampNeg x1)), .ref 123]) (h2 := (sh_rep m.T m.I m.J)) rfl rfl rfl ?_
              refine sh_w (i := (.goto 8)) (len := 3) (pc2 := 211) (lv2 := [(3, .int (m.I 122 (Int32.toNatClampNeg (m.I 119 (Int32.toNatClampNeg x1))))), (2, .int (m.I 122 (Int32.toNatClampNeg (m.I 118 (Int32.toNatClampNeg x1))))), (0, .ref 67), (1, .int x1)]) (st2 := [.int 1, .int (m.I 120 (Int32.toNatClampNeg x1)), .ref 123]) (h2 := (sh_rep m.T m.I m.J)) rfl rfl rfl ?_
              exact kk
            exact sh_Lk_sub (sh_sub_c rfl (sh_sub_c rfl (sh_sub_n))) (sl_339_211 e tg)
          · refine sh_Lk_lift (T := m.T) (I := m.I) (J := m.J) (s := m.s) (pc2 := 211) (lv2 := [(3, .int (m.I 122 (Int32.toNatClampNeg (m.I 119 (Int32.toNatClampNeg x1))))), (2, .int (m.I 122 (Int32.toNatClampNeg (m.I 118 (Int32.toNatClampNeg x1))))), (0, .ref 67), (1, .int x1)]) (st2 := [.int 0, .int (m.I 120 (Int32.toNatClampNeg x1)), .ref 123]) (I2 := m.I) (J2 := m.J) (fun hT v kk => ?_) ?_
            · refine sh_j0 (c := .ne) (off := (7)) (pc2 := 206) true rfl (sh_Bnet c) rfl ?_
              refine sh_w (i := (.iconst 0)) (len := 1) (pc2 := 207) (lv2 := [(3, .int (m.I 122 (Int32.toNatClampNeg (m.I 119 (Int32.toNatClampNeg x1))))), (2, .int (m.I 122 (Int32.toNatClampNeg (m.I 118 (Int32.toNatClampNeg x1))))), (0, .ref 67), (1, .int x1)]) (st2 := [.int 0, .int (m.I 120 (Int32.toNatClampNeg x1)), .ref 123]) (h2 := (sh_rep m.T m.I m.J)) rfl rfl rfl ?_
              refine sh_w (i := (.goto 4)) (len := 3) (pc2 := 211) (lv2 := [(3, .int (m.I 122 (Int32.toNatClampNeg (m.I 119 (Int32.toNatClampNeg x1))))), (2, .int (m.I 122 (Int32.toNatClampNeg (m.I 118 (Int32.toNatClampNeg x1))))), (0, .ref 67), (1, .int x1)]) (st2 := [.int 0, .int (m.I 120 (Int32.toNatClampNeg x1)), .ref 123]) (h2 := (sh_rep m.T m.I m.J)) rfl rfl rfl ?_
              exact kk
            exact sh_Lk_sub (sh_sub_c rfl (sh_sub_c rfl (sh_sub_n))) (sl_339_211 e tg)
        · refine sh_Lk_lift (T := m.T) (I := m.I) (J := m.J) (s := m.s) (pc2 := 211) (lv2 := [(3, .int (m.I 122 (Int32.toNatClampNeg (m.I 119 (Int32.toNatClampNeg x1))))), (2, .int (m.I 122 (Int32.toNatClampNeg (m.I 118 (Int32.toNatClampNeg x1))))), (0, .ref 67), (1, .int x1)]) (st2 := [.int (m.I 122 (Int32.toNatClampNeg (m.I 118 (Int32.toNatClampNeg x1)))), .int (m.I 120 (Int32.toNatClampNeg x1)), .ref 123]) (I2 := m.I) (J2 := m.J) (fun hT v kk => ?_) ?_
          · refine sh_jc (c := .ne) (off := (15)) (pc2 := 210) true rfl (sh_Bnet c) rfl ?_
            refine sh_w (i := (.iload_n 2)) (len := 1) (pc2 := 211) (lv2 := [(3, .int (m.I 122 (Int32.toNatClampNeg (m.I 119 (Int32.toNatClampNeg x1))))), (2, .int (m.I 122 (Int32.toNatClampNeg (m.I 118 (Int32.toNatClampNeg x1))))), (0, .ref 67), (1, .int x1)]) (st2 := [.int (m.I 122 (Int32.toNatClampNeg (m.I 118 (Int32.toNatClampNeg x1)))), .int (m.I 120 (Int32.toNatClampNeg x1)), .ref 123]) (h2 := (sh_rep m.T m.I m.J)) rfl rfl rfl ?_
            exact kk
          exact sh_Lk_sub (sh_sub_c rfl (sh_sub_c rfl (sh_sub_n))) (sl_339_211 e tg)
  · refine sh_Lk_lift (T := m.T) (I := m.I) (J := m.J) (s := m.s) (pc2 := 220) (lv2 := [(1, .int 0), (0, .ref 67)]) (st2 := []) (I2 := m.I) (J2 := m.J) (fun hT v kk => ?_) ?_
    · refine sh_jc (c := .ge) (off := (115)) (pc2 := 218) true rfl (sh_Bget c) rfl ?_
      refine sh_w (i := (.iconst 0)) (len := 1) (pc2 := 219) (lv2 := [(0, .ref 67), (1, .int x1)]) (st2 := [.int 0]) (h2 := (sh_rep m.T m.I m.J)) rfl rfl rfl ?_
      refine sh_w (i := (.istore_n 1)) (len := 1) (pc2 := 220) (lv2 := [(1, .int 0), (0, .ref 67)]) (st2 := []) (h2 := (sh_rep m.T m.I m.J)) rfl rfl rfl ?_
      exact kk
    obtain ⟨_, eu, rfl⟩ := sh_up_e e
    exact sh_Lk_sub (sh_sub_c rfl (sh_sub_c rfl (sh_sub_n))) (sl_339_220 eu tg)
theorem sl_339_98 {x1 : Int32} {m m2 : sh_X} {o : Outcome} {z : (Unit × sh_X)} (e : sf_339_98 x1 m = some z) (tg : (sh_tV o m2) z) : sh_Lk 339 98 [(0, .ref 67), (1, .int x1)] [] m o m2 8 200 := by
  unfold sf_339_98 at e
  exact sh_while_lk (P := fun q => sh_Lk 339 98 [(0, .ref 67), (1, .int q.1)] [] q.2 o m2 8 200) (Q := (sh_tV o m2)) (fun q z e tg => sl_339_98s (x1 := q.1) (m := q.2) e tg) (s := (x1, m)) e tg
theorem sl_339_2s {x1 : Int32} {m m2 : sh_X} {o : Outcome} {z : ((Int32 × sh_X) ⊕ (Unit × sh_X))} (e : sf_339_2s x1 m = some z) (tg : (sh_el (fun q => sh_Lk 339 2 [(0, .ref 67), (1, .int q.1)] [] q.2 o m2 8 200) (sh_tV o m2)) z) : sh_Lk 339 2 [(0, .ref 67), (1, .int x1)] [] m o m2 8 200 := by
  unfold sf_339_2s at e
  refine sh_Lk_lift (T := m.T) (I := m.I) (J := m.J) (s := m.s) (pc2 := 16) (lv2 := [(0, .ref 67), (1, .int x1)]) (st2 := [.int ((m.I 121 0) + (m.I 121 1)), .int x1]) (I2 := m.I) (J2 := m.J) (fun hT v kk => ?_) ?_
  · refine sh_w (i := (.iload_n 1)) (len := 1) (pc2 := 3) (lv2 := [(0, .ref 67), (1, .int x1)]) (st2 := [.int x1]) (h2 := (sh_rep m.T m.I m.J)) rfl rfl rfl ?_
    refine sh_w (i := (.aload_n 0)) (len := 1) (pc2 := 4) (lv2 := [(0, .ref 67), (1, .int x1)]) (st2 := [.ref 67, .int x1]) (h2 := (sh_rep m.T m.I m.J)) rfl rfl rfl ?_
    refine sh_gR1 (len := 3) (x := .ref 122) (pc2 := 7) rfl rfl (sh_s66 hT.st) rfl rfl ?_
    refine sh_w (i := (.iconst 0)) (len := 1) (pc2 := 8) (lv2 := [(0, .ref 67), (1, .int x1)]) (st2 := [.int 0, .ref 122, .int x1]) (h2 := (sh_rep m.T m.I m.J)) rfl rfl rfl ?_
    refine sh_ia1 (x := m.I 121 0) (pc2 := 9) rfl (sh_s121 hT.st) (by decide) (by decide) rfl rfl ?_
    refine sh_w (i := (.aload_n 0)) (len := 1) (pc2 := 10) (lv2 := [(0, .ref 67), (1, .int x1)]) (st2 := [.ref 67, .int (m.I 121 0), .int x1]) (h2 := (sh_rep m.T m.I m.J)) rfl rfl rfl ?_
    refine sh_gR1 (len := 3) (x := .ref 122) (pc2 := 13) rfl rfl (sh_s66 hT.st) rfl rfl ?_
    refine sh_w (i := (.iconst 1)) (len := 1) (pc2 := 14) (lv2 := [(0, .ref 67), (1, .int x1)]) (st2 := [.int 1, .ref 122, .int (m.I 121 0), .int x1]) (h2 := (sh_rep m.T m.I m.J)) rfl rfl rfl ?_
    refine sh_ia1 (x := m.I 121 1) (pc2 := 15) rfl (sh_s121 hT.st) (by decide) (by decide) rfl rfl ?_
    refine sh_w (i := .iadd) (len := 1) (pc2 := 16) (lv2 := [(0, .ref 67), (1, .int x1)]) (st2 := [.int ((m.I 121 0) + (m.I 121 1)), .int x1]) (h2 := (sh_rep m.T m.I m.J)) rfl rfl rfl ?_
    exact kk
  rcases sh_ite e with ⟨c, e⟩ | ⟨c, e⟩
  · refine sh_Lk_lift (T := m.T) (I := m.I) (J := m.J) (s := m.s) (pc2 := 26) (lv2 := [(0, .ref 67), (1, .int x1)]) (st2 := [.int (m.I 121 0), .int x1]) (I2 := m.I) (J2 := m.J) (fun hT v kk => ?_) ?_
    · refine sh_jc (c := .ge) (off := (80)) (pc2 := 19) false rfl (sh_Bgef c) rfl ?_
      refine sh_w (i := (.iload_n 1)) (len := 1) (pc2 := 20) (lv2 := [(0, .ref 67), (1, .int x1)]) (st2 := [.int x1]) (h2 := (sh_rep m.T m.I m.J)) rfl rfl rfl ?_
      refine sh_w (i := (.aload_n 0)) (len := 1) (pc2 := 21) (lv2 := [(0, .ref 67), (1, .int x1)]) (st2 := [.ref 67, .int x1]) (h2 := (sh_rep m.T m.I m.J)) rfl rfl rfl ?_
      refine sh_gR1 (len := 3) (x := .ref 122) (pc2 := 24) rfl rfl (sh_s66 hT.st) rfl rfl ?_
      refine sh_w (i := (.iconst 0)) (len := 1) (pc2 := 25) (lv2 := [(0, .ref 67), (1, .int x1)]) (st2 := [.int 0, .ref 122, .int x1]) (h2 := (sh_rep m.T m.I m.J)) rfl rfl rfl ?_
      refine sh_ia1 (x := m.I 121 0) (pc2 := 26) rfl (sh_s121 hT.st) (by decide) (by decide) rfl rfl ?_
      exact kk
    rcases sh_ite e with ⟨c, e⟩ | ⟨c, e⟩
    · refine sh_Lk_lift (T := m.T) (I := m.I) (J := m.J) (s := m.s) (pc2 := 34) (lv2 := [(0, .ref 67), (1, .int x1)]) (st2 := [.int 0]) (I2 := m.I) (J2 := m.J) (fun hT v kk => ?_) ?_
      · refine sh_jc (c := .ge) (off := (7)) (pc2 := 29) false rfl (sh_Bgef c) rfl ?_
        refine sh_w (i := (.iconst 0)) (len := 1) (pc2 := 30) (lv2 := [(0, .ref 67), (1, .int x1)]) (st2 := [.int 0]) (h2 := (sh_rep m.T m.I m.J)) rfl rfl rfl ?_
        refine sh_w (i := (.goto 4)) (len := 3) (pc2 := 34) (lv2 := [(0, .ref 67), (1, .int x1)]) (st2 := [.int 0]) (h2 := (sh_rep m.T m.I m.J)) rfl rfl rfl ?_
        exact kk
      exact sh_Lk_sub (sh_sub_c rfl (sh_sub_c rfl (sh_sub_n))) (sl_339_34 e tg)
    · refine sh_Lk_lift (T := m.T) (I := m.I) (J := m.J) (s := m.s) (pc2 := 34) (lv2 := [(0, .ref 67), (1, .int x1)]) (st2 := [.int 1]) (I2 := m.I) (J2 := m.J) (fun hT v kk => ?_) ?_
      · refine sh_jc (c := .ge) (off := (7)) (pc2 := 33) true rfl (sh_Bget c) rfl ?_
        refine sh_w (i := (.iconst 1)) (len := 1) (pc2 := 34) (lv2 := [(0, .ref 67), (1, .int x1)]) (st2 := [.int 1]) (h2 := (sh_rep m.T m.I m.J)) rfl rfl rfl ?_
        exact kk
      exact sh_Lk_sub (sh_sub_c rfl (sh_sub_c rfl (sh_sub_n))) (sl_339_34 e tg)
  · refine sh_Lk_lift (T := m.T) (I := m.I) (J := m.J) (s := m.s) (pc2 := 98) (lv2 := [(1, .int 0), (0, .ref 67)]) (st2 := []) (I2 := m.I) (J2 := m.J) (fun hT v kk => ?_) ?_
    · refine sh_jc (c := .ge) (off := (80)) (pc2 := 96) true rfl (sh_Bget c) rfl ?_
      refine sh_w (i := (.iconst 0)) (len := 1) (pc2 := 97) (lv2 := [(0, .ref 67), (1, .int x1)]) (st2 := [.int 0]) (h2 := (sh_rep m.T m.I m.J)) rfl rfl rfl ?_
      refine sh_w (i := (.istore_n 1)) (len := 1) (pc2 := 98) (lv2 := [(1, .int 0), (0, .ref 67)]) (st2 := []) (h2 := (sh_rep m.T m.I m.J)) rfl rfl rfl ?_
      exact kk
    obtain ⟨_, eu, rfl⟩ := sh_up_e e
    exact sh_Lk_sub (sh_sub_c rfl (sh_sub_c rfl (sh_sub_n))) (sl_339_98 eu tg)
theorem sl_339_2 {x1 : Int32} {m m2 : sh_X} {o : Outcome} {z : (Unit × sh_X)} (e : sf_339_2 x1 m = some z) (tg : (sh_tV o m2) z) : sh_Lk 339 2 [(0, .ref 67), (1, .int x1)] [] m o m2 8 200 := by
  unfold sf_339_2 at e
  exact sh_while_lk (P := fun q => sh_Lk 339 2 [(0, .ref 67), (1, .int q.1)] [] q.2 o m2 8 200) (Q := (sh_tV o m2)) (fun q z e tg => sl_339_2s (x1 := q.1) (m := q.2) e tg) (s := (x1, m)) e tg
theorem sl_339 {m m2 : sh_X} {o : Outcome} {z : (Unit × sh_X)} (e : sf_339 m = some z) (tg : (sh_tV o m2) z) : sh_Lk 339 0 [(0, .ref 67)] [] m o m2 8 200 := by
  unfold sf_339 at e
  refine sh_Lk_lift (T := m.T) (I := m.I) (J := m.J) (s := m.s) (pc2 := 2) (lv2 := [(1, .int 0), (0, .ref 67)]) (st2 := []) (I2 := m.I) (J2 := m.J) (fun hT v kk => ?_) ?_
  · refine sh_w (i := (.iconst 0)) (len := 1) (pc2 := 1) (lv2 := [(0, .ref 67)]) (st2 := [.int 0]) (h2 := (sh_rep m.T m.I m.J)) rfl rfl rfl ?_
    refine sh_w (i := (.istore_n 1)) (len := 1) (pc2 := 2) (lv2 := [(1, .int 0), (0, .ref 67)]) (st2 := []) (h2 := (sh_rep m.T m.I m.J)) rfl rfl rfl ?_
    exact kk
  exact sh_Lk_sub (sh_sub_c rfl (sh_sub_c rfl (sh_sub_n))) (sl_339_2 e tg)
theorem sl_338_34 {m m2 : sh_X} {o : Outcome} {z : (Bool × sh_X)} (e : sf_338_34 m = some z) (tg : (sh_tZ o m2) z) : sh_Lk 338 34 [(0, .ref 67)] [] m o m2 1017 40428 := by
  unfold sf_338_34 at e
  refine sh_Lk_lift (T := m.T) (I := m.I) (J := m.J) (s := m.s) (pc2 := 40) (lv2 := [(0, .ref 67)]) (st2 := [.int 1]) (I2 := sh_u2 m.I 66 5 1) (J2 := m.J) (fun hT v kk => ?_) ?_
  · refine sh_w (i := (.aload_n 0)) (len := 1) (pc2 := 35) (lv2 := [(0, .ref 67)]) (st2 := [.ref 67]) (h2 := (sh_rep m.T m.I m.J)) rfl rfl rfl ?_
    refine sh_w (i := (.iconst 1)) (len := 1) (pc2 := 36) (lv2 := [(0, .ref 67)]) (st2 := [.int 1, .ref 67]) (h2 := (sh_rep m.T m.I m.J)) rfl rfl rfl ?_
    refine sh_pI1 (x := 1) (pc2 := 39) rfl rfl (sh_s66 hT.st) rfl rfl rfl rfl ?_
    refine sh_w (i := (.iconst 1)) (len := 1) (pc2 := 40) (lv2 := [(0, .ref 67)]) (st2 := [.int 1]) (h2 := (sh_rep m.T (sh_u2 m.I 66 5 1) m.J)) rfl rfl rfl ?_
    exact kk
  obtain rfl := Option.some.inj e
  obtain ⟨rfl, rfl⟩ := tg
  exact sh_Lk_ret (i := .ireturn) rfl rfl rfl (Nat.le_of_ble_eq_true rfl) (Nat.le_of_ble_eq_true rfl)
theorem sl_338 {m m2 : sh_X} {o : Outcome} {z : (Bool × sh_X)} (e : sf_338 m = some z) (tg : (sh_tZ o m2) z) : sh_Lk 338 0 [(0, .ref 67)] [] m o m2 1017 40428 := by
  unfold sf_338 at e
  refine sh_Lk_lift (T := m.T) (I := m.I) (J := m.J) (s := m.s) (pc2 := 9) (lv2 := [(0, .ref 67)]) (st2 := [.int (m.I 66 4)]) (I2 := sh_u2 m.I 66 0 0) (J2 := m.J) (fun hT v kk => ?_) ?_
  · refine sh_w (i := (.aload_n 0)) (len := 1) (pc2 := 1) (lv2 := [(0, .ref 67)]) (st2 := [.ref 67]) (h2 := (sh_rep m.T m.I m.J)) rfl rfl rfl ?_
    refine sh_w (i := (.iconst 0)) (len := 1) (pc2 := 2) (lv2 := [(0, .ref 67)]) (st2 := [.int 0, .ref 67]) (h2 := (sh_rep m.T m.I m.J)) rfl rfl rfl ?_
    refine sh_pI1 (x := 0) (pc2 := 5) rfl rfl (sh_s66 hT.st) rfl rfl rfl rfl ?_
    refine sh_w (i := (.aload_n 0)) (len := 1) (pc2 := 6) (lv2 := [(0, .ref 67)]) (st2 := [.ref 67]) (h2 := (sh_rep m.T (sh_u2 m.I 66 0 0) m.J)) rfl rfl rfl ?_
    refine sh_gI1 (len := 3) (x := m.I 66 4) (pc2 := 9) rfl rfl (sh_s66 hT.st) rfl rfl rfl ?_
    exact kk
  rcases sh_ite e with ⟨c, e⟩ | ⟨c, e⟩
  · refine sh_Lk_lift (T := m.T) (I := sh_u2 m.I 66 0 0) (J := m.J) (s := m.s) (pc2 := 13) (lv2 := [(0, .ref 67)]) (st2 := [.int 0]) (I2 := sh_u2 m.I 66 0 0) (J2 := m.J) (fun hT v kk => ?_) ?_
    · refine sh_j0 (c := .ne) (off := (5)) (pc2 := 12) false rfl (sh_Bnef c) rfl ?_
      refine sh_w (i := (.iconst 0)) (len := 1) (pc2 := 13) (lv2 := [(0, .ref 67)]) (st2 := [.int 0]) (h2 := (sh_rep m.T (sh_u2 m.I 66 0 0) m.J)) rfl rfl rfl ?_
      exact kk
    obtain rfl := Option.some.inj e
    obtain ⟨rfl, rfl⟩ := tg
    exact sh_Lk_ret (i := .ireturn) rfl rfl rfl (Nat.le_of_ble_eq_true rfl) (Nat.le_of_ble_eq_true rfl)
  · refine sh_Lk_lift (T := m.T) (I := sh_u2 m.I 66 0 0) (J := m.J) (s := m.s) (pc2 := 19) (lv2 := [(0, .ref 67)]) (st2 := [.int 2, .int (m.I 66 4)]) (I2 := sh_u2 m.I 66 0 0) (J2 := m.J) (fun hT v kk => ?_) ?_
    · refine sh_j0 (c := .ne) (off := (5)) (pc2 := 14) true rfl (sh_Bnet c) rfl ?_
      refine sh_w (i := (.aload_n 0)) (len := 1) (pc2 := 15) (lv2 := [(0, .ref 67)]) (st2 := [.ref 67]) (h2 := (sh_rep m.T (sh_u2 m.I 66 0 0) m.J)) rfl rfl rfl ?_
      refine sh_gI1 (len := 3) (x := m.I 66 4) (pc2 := 18) rfl rfl (sh_s66 hT.st) rfl rfl rfl ?_
      refine sh_w (i := (.iconst 2)) (len := 1) (pc2 := 19) (lv2 := [(0, .ref 67)]) (st2 := [.int 2, .int (m.I 66 4)]) (h2 := (sh_rep m.T (sh_u2 m.I 66 0 0) m.J)) rfl rfl rfl ?_
      exact kk
    rcases sh_ite e with ⟨c, e⟩ | ⟨c, e⟩
    · refine sh_Lk_lift (T := m.T) (I := sh_u2 m.I 66 0 0) (J := m.J) (s := m.s) (pc2 := 23) (lv2 := [(0, .ref 67)]) (st2 := [.ref 67]) (I2 := sh_u2 m.I 66 0 0) (J2 := m.J) (fun hT v kk => ?_) ?_
      · refine sh_jc (c := .ne) (off := (10)) (pc2 := 22) false rfl (sh_Bnef c) rfl ?_
        refine sh_w (i := (.aload_n 0)) (len := 1) (pc2 := 23) (lv2 := [(0, .ref 67)]) (st2 := [.ref 67]) (h2 := (sh_rep m.T (sh_u2 m.I 66 0 0) m.J)) rfl rfl rfl ?_
        exact kk
      obtain ⟨r1, m11, e1, e⟩ := sh_bn_e e
      refine sh_Lk_cV (r := none) (st2 := []) (pc2 := 26) (k2 := 339) (a := 66) (as := [.ref 67]) (rest := []) rfl rfl rfl (fun hT => (sh_s66 hT.st)) rfl rfl ⟨Nat.le_of_ble_eq_true rfl, Nat.le_of_ble_eq_true rfl⟩ (sl_339 e1 ⟨rfl, rfl⟩) rfl rfl (Nat.le_of_ble_eq_true rfl) (Nat.le_of_ble_eq_true rfl) ?_
      refine sh_Lk_lift (T := m11.T) (I := m11.I) (J := m11.J) (s := m11.s) (pc2 := 34) (lv2 := [(0, .ref 67)]) (st2 := []) (I2 := m11.I) (J2 := m11.J) (fun hT v kk => ?_) ?_
      · refine sh_w (i := (.goto 8)) (len := 3) (pc2 := 34) (lv2 := [(0, .ref 67)]) (st2 := []) (h2 := (sh_rep m11.T m11.I m11.J)) rfl rfl rfl ?_
        exact kk
      exact sh_Lk_sub (sh_sub_c rfl (sh_sub_n)) (sl_338_34 e tg)
    · refine sh_Lk_lift (T := m.T) (I := sh_u2 m.I 66 0 0) (J := m.J) (s := m.s) (pc2 := 30) (lv2 := [(0, .ref 67)]) (st2 := [.ref 67]) (I2 := sh_u2 m.I 66 0 0) (J2 := m.J) (fun hT v kk => ?_) ?_
      · refine sh_jc (c := .ne) (off := (10)) (pc2 := 29) true rfl (sh_Bnet c) rfl ?_
        refine sh_w (i := (.aload_n 0)) (len := 1) (pc2 := 30) (lv2 := [(0, .ref 67)]) (st2 := [.ref 67]) (h2 := (sh_rep m.T (sh_u2 m.I 66 0 0) m.J)) rfl rfl rfl ?_
        exact kk
      obtain ⟨r2, m12, e2, e⟩ := sh_bn_e e
      refine sh_Lk_cV (r := (some (.int (sh_b2 r2)))) (st2 := [.int (sh_b2 r2)]) (pc2 := 33) (k2 := 282) (a := 66) (as := [.ref 67]) (rest := []) rfl rfl rfl (fun hT => (sh_s66 hT.st)) rfl rfl ⟨Nat.le_of_ble_eq_true rfl, Nat.le_of_ble_eq_true rfl⟩ (sl_282 e2 ⟨rfl, rfl⟩) rfl rfl (Nat.le_of_ble_eq_true rfl) (Nat.le_of_ble_eq_true rfl) ?_
      refine sh_Lk_lift (T := m12.T) (I := m12.I) (J := m12.J) (s := m12.s) (pc2 := 34) (lv2 := [(1, .int (sh_b2 r2)), (0, .ref 67)]) (st2 := []) (I2 := m12.I) (J2 := m12.J) (fun hT v kk => ?_) ?_
      · refine sh_w (i := (.istore_n 1)) (len := 1) (pc2 := 34) (lv2 := [(1, .int (sh_b2 r2)), (0, .ref 67)]) (st2 := []) (h2 := (sh_rep m12.T m12.I m12.J)) rfl rfl rfl ?_
        exact kk
      exact sh_Lk_sub (sh_sub_c rfl (sh_sub_n)) (sl_338_34 e tg)
theorem sl_340_34 {x1 : Int32} {y1 : Bool} {m m2 : sh_X} {o : Outcome} {z : (Int64 × sh_X)} (e : sf_340_34 x1 y1 m = some z) (tg : (sh_tJ o m2) z) : sh_Lk 340 34 [(0, .ref 67), (1, .int x1)] [.int (sh_b2 y1), .ref 67] m o m2 8 200 := by
  unfold sf_340_34 at e
  refine sh_Lk_lift (T := m.T) (I := m.I) (J := m.J) (s := m.s) (pc2 := 41) (lv2 := [(0, .ref 67), (1, .int x1)]) (st2 := [.int (sh_b2 y1)]) (I2 := sh_u2 m.I 66 0 (sh_b2 y1)) (J2 := m.J) (fun hT v kk => ?_) ?_
  · refine sh_pI1 (x := sh_b2 y1) (pc2 := 37) rfl rfl (sh_s66 hT.st) rfl rfl rfl rfl ?_
    refine sh_w (i := (.aload_n 0)) (len := 1) (pc2 := 38) (lv2 := [(0, .ref 67), (1, .int x1)]) (st2 := [.ref 67]) (h2 := (sh_rep m.T (sh_u2 m.I 66 0 (sh_b2 y1)) m.J)) rfl rfl rfl ?_
    refine sh_gI1 (len := 3) (x := sh_b2 y1) (pc2 := 41) rfl rfl (sh_s66 hT.st) rfl rfl rfl ?_
    exact kk
  rcases sh_ite e with ⟨c, e⟩ | ⟨c, e⟩
  · refine sh_Lk_lift (T := m.T) (I := sh_u2 m.I 66 0 (sh_b2 y1)) (J := m.J) (s := m.s) (pc2 := 49) (lv2 := [(0, .ref 67), (1, .int x1)]) (st2 := [.int x1, .ref 105]) (I2 := sh_u2 m.I 66 0 (sh_b2 y1)) (J2 := m.J) (fun hT v kk => ?_) ?_
    · refine sh_j0 (c := .ne) (off := (12)) (pc2 := 44) false rfl (sh_Bnef c) rfl ?_
      refine sh_w (i := (.aload_n 0)) (len := 1) (pc2 := 45) (lv2 := [(0, .ref 67), (1, .int x1)]) (st2 := [.ref 67]) (h2 := (sh_rep m.T (sh_u2 m.I 66 0 (sh_b2 y1)) m.J)) rfl rfl rfl ?_
      refine sh_gR1 (len := 3) (x := .ref 105) (pc2 := 48) rfl rfl (sh_s66 hT.st) rfl rfl ?_
      refine sh_w (i := (.iload_n 1)) (len := 1) (pc2 := 49) (lv2 := [(0, .ref 67), (1, .int x1)]) (st2 := [.int x1, .ref 105]) (h2 := (sh_rep m.T (sh_u2 m.I 66 0 (sh_b2 y1)) m.J)) rfl rfl rfl ?_
      exact kk
    obtain ⟨c, e⟩ := sh_gd e
    refine sh_Lk_lift (T := m.T) (I := sh_u2 m.I 66 0 (sh_b2 y1)) (J := m.J) (s := m.s) (pc2 := 54) (lv2 := [(0, .ref 67), (1, .int x1)]) (st2 := [.long (m.J 104 (Int32.toNatClampNeg x1))]) (I2 := sh_u2 m.I 66 0 (sh_b2 y1)) (J2 := m.J) (fun hT v kk => ?_) ?_
    · refine sh_la1 (x := m.J 104 (Int32.toNatClampNeg x1)) (pc2 := 50) rfl (sh_s104 hT.st) (sh_okb1 c) (sh_okb2 c) rfl rfl ?_
      refine sh_w (i := (.goto 4)) (len := 3) (pc2 := 54) (lv2 := [(0, .ref 67), (1, .int x1)]) (st2 := [.long (m.J 104 (Int32.toNatClampNeg x1))]) (h2 := (sh_rep m.T (sh_u2 m.I 66 0 (sh_b2 y1)) m.J)) rfl rfl rfl ?_
      exact kk
    obtain rfl := Option.some.inj e
    obtain ⟨rfl, rfl⟩ := tg
    exact sh_Lk_ret (i := .lreturn) rfl rfl rfl (Nat.le_of_ble_eq_true rfl) (Nat.le_of_ble_eq_true rfl)
  · refine sh_Lk_lift (T := m.T) (I := sh_u2 m.I 66 0 (sh_b2 y1)) (J := m.J) (s := m.s) (pc2 := 54) (lv2 := [(0, .ref 67), (1, .int x1)]) (st2 := [.long 0]) (I2 := sh_u2 m.I 66 0 (sh_b2 y1)) (J2 := m.J) (fun hT v kk => ?_) ?_
    · refine sh_j0 (c := .ne) (off := (12)) (pc2 := 53) true rfl (sh_Bnet c) rfl ?_
      refine sh_w (i := (.lconst 0)) (len := 1) (pc2 := 54) (lv2 := [(0, .ref 67), (1, .int x1)]) (st2 := [.long 0]) (h2 := (sh_rep m.T (sh_u2 m.I 66 0 (sh_b2 y1)) m.J)) rfl rfl rfl ?_
      exact kk
    obtain rfl := Option.some.inj e
    obtain ⟨rfl, rfl⟩ := tg
    exact sh_Lk_ret (i := .lreturn) rfl rfl rfl (Nat.le_of_ble_eq_true rfl) (Nat.le_of_ble_eq_true rfl)
theorem sl_340_33 {x1 : Int32} {m m2 : sh_X} {o : Outcome} {z : (Int64 × sh_X)} (e : sf_340_33 x1 m = some z) (tg : (sh_tJ o m2) z) : sh_Lk 340 33 [(0, .ref 67), (1, .int x1)] [.ref 67] m o m2 8 200 := by
  unfold sf_340_33 at e
  refine sh_Lk_lift (T := m.T) (I := m.I) (J := m.J) (s := m.s) (pc2 := 34) (lv2 := [(0, .ref 67), (1, .int x1)]) (st2 := [.int 1, .ref 67]) (I2 := m.I) (J2 := m.J) (fun hT v kk => ?_) ?_
  · refine sh_w (i := (.iconst 1)) (len := 1) (pc2 := 34) (lv2 := [(0, .ref 67), (1, .int x1)]) (st2 := [.int 1, .ref 67]) (h2 := (sh_rep m.T m.I m.J)) rfl rfl rfl ?_
    exact kk
  exact sh_Lk_sub (sh_sub_c rfl (sh_sub_c rfl (sh_sub_n))) (sl_340_34 e tg)
theorem sl_340 {x1 : Int32} {m m2 : sh_X} {o : Outcome} {z : (Int64 × sh_X)} (e : sf_340 x1 m = some z) (tg : (sh_tJ o m2) z) : sh_Lk 340 0 [(0, .ref 67), (1, .int x1)] [] m o m2 8 200 := by
  unfold sf_340 at e
  refine sh_Lk_lift (T := m.T) (I := m.I) (J := m.J) (s := m.s) (pc2 := 5) (lv2 := [(0, .ref 67), (1, .int x1)]) (st2 := [.int (m.I 66 5), .ref 67]) (I2 := m.I) (J2 := m.J) (fun hT v kk => ?_) ?_
  · refine sh_w (i := (.aload_n 0)) (len := 1) (pc2 := 1) (lv2 := [(0, .ref 67), (1, .int x1)]) (st2 := [.ref 67]) (h2 := (sh_rep m.T m.I m.J)) rfl rfl rfl ?_
    refine sh_w (i := (.aload_n 0)) (len := 1) (pc2 := 2) (lv2 := [(0, .ref 67), (1, .int x1)]) (st2 := [.ref 67, .ref 67]) (h2 := (sh_rep m.T m.I m.J)) rfl rfl rfl ?_
    refine sh_gI1 (len := 3) (x := m.I 66 5) (pc2 := 5) rfl rfl (sh_s66 hT.st) rfl rfl rfl ?_
    exact kk
  rcases sh_ite e with ⟨c, e⟩ | ⟨c, e⟩
  · refine sh_Lk_lift (T := m.T) (I := m.I) (J := m.J) (s := m.s) (pc2 := 33) (lv2 := [(0, .ref 67), (1, .int x1)]) (st2 := [.ref 67]) (I2 := m.I) (J2 := m.J) (fun hT v kk => ?_) ?_
    · refine sh_j0 (c := .eq) (off := (28)) (pc2 := 33) true rfl (sh_Beqt c) rfl ?_
      exact kk
    exact sh_Lk_sub (sh_sub_c rfl (sh_sub_c rfl (sh_sub_n))) (sl_340_33 e tg)
  · refine sh_Lk_lift (T := m.T) (I := m.I) (J := m.J) (s := m.s) (pc2 := 12) (lv2 := [(0, .ref 67), (1, .int x1)]) (st2 := [.int (m.I 66 4), .ref 67]) (I2 := m.I) (J2 := m.J) (fun hT v kk => ?_) ?_
    · refine sh_j0 (c := .eq) (off := (28)) (pc2 := 8) false rfl (sh_Beqf c) rfl ?_
      refine sh_w (i := (.aload_n 0)) (len := 1) (pc2 := 9) (lv2 := [(0, .ref 67), (1, .int x1)]) (st2 := [.ref 67, .ref 67]) (h2 := (sh_rep m.T m.I m.J)) rfl rfl rfl ?_
      refine sh_gI1 (len := 3) (x := m.I 66 4) (pc2 := 12) rfl rfl (sh_s66 hT.st) rfl rfl rfl ?_
      exact kk
    rcases sh_ite e with ⟨c, e⟩ | ⟨c, e⟩
    · refine sh_Lk_lift (T := m.T) (I := m.I) (J := m.J) (s := m.s) (pc2 := 16) (lv2 := [(0, .ref 67), (1, .int x1)]) (st2 := [.int x1, .ref 67]) (I2 := m.I) (J2 := m.J) (fun hT v kk => ?_) ?_
      · refine sh_j0 (c := .le) (off := (21)) (pc2 := 15) false rfl (sh_Blef c) rfl ?_
        refine sh_w (i := (.iload_n 1)) (len := 1) (pc2 := 16) (lv2 := [(0, .ref 67), (1, .int x1)]) (st2 := [.int x1, .ref 67]) (h2 := (sh_rep m.T m.I m.J)) rfl rfl rfl ?_
        exact kk
      rcases sh_ite e with ⟨c, e⟩ | ⟨c, e⟩
      · refine sh_Lk_lift (T := m.T) (I := m.I) (J := m.J) (s := m.s) (pc2 := 33) (lv2 := [(0, .ref 67), (1, .int x1)]) (st2 := [.ref 67]) (I2 := m.I) (J2 := m.J) (fun hT v kk => ?_) ?_
        · refine sh_j0 (c := .lt) (off := (17)) (pc2 := 33) true rfl (sh_Bltt c) rfl ?_
          exact kk
        exact sh_Lk_sub (sh_sub_c rfl (sh_sub_c rfl (sh_sub_n))) (sl_340_33 e tg)
      · refine sh_Lk_lift (T := m.T) (I := m.I) (J := m.J) (s := m.s) (pc2 := 26) (lv2 := [(0, .ref 67), (1, .int x1)]) (st2 := [.int (m.I 99 2), .int x1, .ref 67]) (I2 := m.I) (J2 := m.J) (fun hT v kk => ?_) ?_
        · refine sh_j0 (c := .lt) (off := (17)) (pc2 := 19) false rfl (sh_Bltf c) rfl ?_
          refine sh_w (i := (.iload_n 1)) (len := 1) (pc2 := 20) (lv2 := [(0, .ref 67), (1, .int x1)]) (st2 := [.int x1, .ref 67]) (h2 := (sh_rep m.T m.I m.J)) rfl rfl rfl ?_
          refine sh_w (i := (.aload_n 0)) (len := 1) (pc2 := 21) (lv2 := [(0, .ref 67), (1, .int x1)]) (st2 := [.ref 67, .int x1, .ref 67]) (h2 := (sh_rep m.T m.I m.J)) rfl rfl rfl ?_
          refine sh_gR1 (len := 3) (x := .ref 100) (pc2 := 24) rfl rfl (sh_s66 hT.st) rfl rfl ?_
          refine sh_w (i := (.iconst 2)) (len := 1) (pc2 := 25) (lv2 := [(0, .ref 67), (1, .int x1)]) (st2 := [.int 2, .ref 100, .int x1, .ref 67]) (h2 := (sh_rep m.T m.I m.J)) rfl rfl rfl ?_
          refine sh_ia1 (x := m.I 99 2) (pc2 := 26) rfl (sh_s99 hT.st) (by decide) (by decide) rfl rfl ?_
          exact kk
        rcases sh_ite e with ⟨c, e⟩ | ⟨c, e⟩
        · refine sh_Lk_lift (T := m.T) (I := m.I) (J := m.J) (s := m.s) (pc2 := 34) (lv2 := [(0, .ref 67), (1, .int x1)]) (st2 := [.int 0, .ref 67]) (I2 := m.I) (J2 := m.J) (fun hT v kk => ?_) ?_
          · refine sh_jc (c := .ge) (off := (7)) (pc2 := 29) false rfl (sh_Bgef c) rfl ?_
            refine sh_w (i := (.iconst 0)) (len := 1) (pc2 := 30) (lv2 := [(0, .ref 67), (1, .int x1)]) (st2 := [.int 0, .ref 67]) (h2 := (sh_rep m.T m.I m.J)) rfl rfl rfl ?_
            refine sh_w (i := (.goto 4)) (len := 3) (pc2 := 34) (lv2 := [(0, .ref 67), (1, .int x1)]) (st2 := [.int 0, .ref 67]) (h2 := (sh_rep m.T m.I m.J)) rfl rfl rfl ?_
            exact kk
          exact sh_Lk_sub (sh_sub_c rfl (sh_sub_c rfl (sh_sub_n))) (sl_340_34 e tg)
        · refine sh_Lk_lift (T := m.T) (I := m.I) (J := m.J) (s := m.s) (pc2 := 33) (lv2 := [(0, .ref 67), (1, .int x1)]) (st2 := [.ref 67]) (I2 := m.I) (J2 := m.J) (fun hT v kk => ?_) ?_
          · refine sh_jc (c := .ge) (off := (7)) (pc2 := 33) true rfl (sh_Bget c) rfl ?_
            exact kk
          exact sh_Lk_sub (sh_sub_c rfl (sh_sub_c rfl (sh_sub_n))) (sl_340_33 e tg)
    · refine sh_Lk_lift (T := m.T) (I := m.I) (J := m.J) (s := m.s) (pc2 := 33) (lv2 := [(0, .ref 67), (1, .int x1)]) (st2 := [.ref 67]) (I2 := m.I) (J2 := m.J) (fun hT v kk => ?_) ?_
      · refine sh_j0 (c := .le) (off := (21)) (pc2 := 33) true rfl (sh_Blet c) rfl ?_
        exact kk
      exact sh_Lk_sub (sh_sub_c rfl (sh_sub_c rfl (sh_sub_n))) (sl_340_33 e tg)
