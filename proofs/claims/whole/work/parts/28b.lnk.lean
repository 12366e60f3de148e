/-! LINKS, printed by gen27.py -/
theorem sl_65 {Q : sh_Q44} {d : Nat} {x1 : Int32} {m m2 : sh_X} {o : Outcome} {z : (Option Unit × sh_X)} (hQ : sh_QL44 Q d) (e : sf_65 Q x1 m = some z) (tg : (sh_tVt o m2) z) : sh_Lk 65 0 [(0, .ref 40), (1, .int x1)] [] m o m2 (d + 1 + 11) (40 * (d + 1) + 263) := by
  unfold sf_65 at e
  refine sh_Lk_lift (T := m.T) (I := m.I) (J := m.J) (s := m.s) (pc2 := 8) (lv2 := [(0, .ref 40), (1, .int x1)]) (st2 := [.int (m.I 39 4), .ref 3]) (I2 := m.I) (J2 := m.J) (fun hT v kk => ?_) ?_
  · refine sh_w (i := (.aload_n 0)) (len := 1) (pc2 := 1) (lv2 := [(0, .ref 40), (1, .int x1)]) (st2 := [.ref 40]) (h2 := (sh_rep m.T m.I m.J)) rfl rfl rfl ?_
    refine sh_gR1 (len := 3) (x := .ref 3) (pc2 := 4) rfl rfl (sh_s39 hT.st) rfl rfl ?_
    refine sh_w (i := (.aload_n 0)) (len := 1) (pc2 := 5) (lv2 := [(0, .ref 40), (1, .int x1)]) (st2 := [.ref 40, .ref 3]) (h2 := (sh_rep m.T m.I m.J)) rfl rfl rfl ?_
    refine sh_gI1 (len := 3) (x := m.I 39 4) (pc2 := 8) rfl rfl (sh_s39 hT.st) rfl rfl rfl ?_
    exact kk
  obtain ⟨r1, e1, e⟩ := sh_bc_e e
  refine sh_Lk_cV (r := (some (.long r1))) (st2 := [.long r1]) (pc2 := 11) (k2 := 66) (a := 2) (as := [.ref 3, .int (m.I 39 4)]) (rest := []) rfl rfl rfl (fun hT => hT.t2) rfl rfl ⟨Nat.le_of_ble_eq_true rfl, Nat.le_of_ble_eq_true rfl⟩ (sl_66 e1 ⟨rfl, rfl⟩) rfl rfl (show 8 + 1 ≤ d + 1 + 11 by omega) (show 8 + (2 + 11) + (200) ≤ 40 * (d + 1) + 263 by omega) ?_
  refine sh_Lk_lift (T := m.T) (I := m.I) (J := m.J) (s := m.s) (pc2 := 31) (lv2 := [(3, .int ((m.I 39 4) + 1)), (2, .int (Int64.toInt32 r1)), (0, .ref 40), (1, .int x1)]) (st2 := [.int 40, .ref 40]) (I2 := sh_u2 m.I 39 4 ((m.I 39 4) + 1)) (J2 := m.J) (fun hT v kk => ?_) ?_
  · refine sh_w (i := .l2i) (len := 1) (pc2 := 12) (lv2 := [(0, .ref 40), (1, .int x1)]) (st2 := [.int (Int64.toInt32 r1)]) (h2 := (sh_rep m.T m.I m.J)) rfl rfl rfl ?_
    refine sh_w (i := (.istore_n 2)) (len := 1) (pc2 := 13) (lv2 := [(2, .int (Int64.toInt32 r1)), (0, .ref 40), (1, .int x1)]) (st2 := []) (h2 := (sh_rep m.T m.I m.J)) rfl rfl rfl ?_
    refine sh_w (i := (.aload_n 0)) (len := 1) (pc2 := 14) (lv2 := [(2, .int (Int64.toInt32 r1)), (0, .ref 40), (1, .int x1)]) (st2 := [.ref 40]) (h2 := (sh_rep m.T m.I m.J)) rfl rfl rfl ?_
    refine sh_w (i := .dup) (len := 1) (pc2 := 15) (lv2 := [(2, .int (Int64.toInt32 r1)), (0, .ref 40), (1, .int x1)]) (st2 := [.ref 40, .ref 40]) (h2 := (sh_rep m.T m.I m.J)) rfl rfl rfl ?_
    refine sh_gI1 (len := 3) (x := m.I 39 4) (pc2 := 18) rfl rfl (sh_s39 hT.st) rfl rfl rfl ?_
    refine sh_w (i := (.iconst 1)) (len := 1) (pc2 := 19) (lv2 := [(2, .int (Int64.toInt32 r1)), (0, .ref 40), (1, .int x1)]) (st2 := [.int 1, .int (m.I 39 4), .ref 40]) (h2 := (sh_rep m.T m.I m.J)) rfl rfl rfl ?_
    refine sh_w (i := .iadd) (len := 1) (pc2 := 20) (lv2 := [(2, .int (Int64.toInt32 r1)), (0, .ref 40), (1, .int x1)]) (st2 := [.int ((m.I 39 4) + 1), .ref 40]) (h2 := (sh_rep m.T m.I m.J)) rfl rfl rfl ?_
    refine sh_pI1 (x := (m.I 39 4) + 1) (pc2 := 23) rfl rfl (sh_s39 hT.st) rfl rfl rfl rfl ?_
    refine sh_w (i := (.aload_n 0)) (len := 1) (pc2 := 24) (lv2 := [(2, .int (Int64.toInt32 r1)), (0, .ref 40), (1, .int x1)]) (st2 := [.ref 40]) (h2 := (sh_rep m.T (sh_u2 m.I 39 4 ((m.I 39 4) + 1)) m.J)) rfl rfl rfl ?_
    refine sh_gI1 (len := 3) (x := (m.I 39 4) + 1) (pc2 := 27) rfl rfl (sh_s39 hT.st) rfl rfl rfl ?_
    refine sh_w (i := (.istore_n 3)) (len := 1) (pc2 := 28) (lv2 := [(3, .int ((m.I 39 4) + 1)), (2, .int (Int64.toInt32 r1)), (0, .ref 40), (1, .int x1)]) (st2 := []) (h2 := (sh_rep m.T (sh_u2 m.I 39 4 ((m.I 39 4) + 1)) m.J)) rfl rfl rfl ?_
    refine sh_w (i := (.aload_n 0)) (len := 1) (pc2 := 29) (lv2 := [(3, .int ((m.I 39 4) + 1)), (2, .int (Int64.toInt32 r1)), (0, .ref 40), (1, .int x1)]) (st2 := [.ref 40]) (h2 := (sh_rep m.T (sh_u2 m.I 39 4 ((m.I 39 4) + 1)) m.J)) rfl rfl rfl ?_
    refine sh_w (i := (.bipush 40)) (len := 2) (pc2 := 31) (lv2 := [(3, .int ((m.I 39 4) + 1)), (2, .int (Int64.toInt32 r1)), (0, .ref 40), (1, .int x1)]) (st2 := [.int 40, .ref 40]) (h2 := (sh_rep m.T (sh_u2 m.I 39 4 ((m.I 39 4) + 1)) m.J)) rfl rfl rfl ?_
    exact kk
  rcases sh_bt_e e with ⟨m12, e2, rfl⟩ | ⟨r2, m12, e2, e⟩
  · obtain ⟨rfl, rfl⟩ := tg
    exact sh_Lk_tV (k2 := 48) (a := 39) (as := [.ref 40, .int 40]) (rest := []) rfl rfl rfl (fun hT => (sh_s39 hT.st)) rfl rfl ⟨Nat.le_of_ble_eq_true rfl, Nat.le_of_ble_eq_true rfl⟩ (sl_48 e2 ⟨rfl, rfl⟩) rfl (show 10 + 1 ≤ d + 1 + 11 by omega) (show 8 + (2 + 11) + (242) ≤ 40 * (d + 1) + 263 by omega) (by omega) (by omega) rfl
  refine sh_Lk_cV (r := none) (st2 := []) (pc2 := 34) (k2 := 48) (a := 39) (as := [.ref 40, .int 40]) (rest := []) rfl rfl rfl (fun hT => (sh_s39 hT.st)) rfl rfl ⟨Nat.le_of_ble_eq_true rfl, Nat.le_of_ble_eq_true rfl⟩ (sl_48 e2 ⟨rfl, rfl⟩) rfl rfl (show 10 + 1 ≤ d + 1 + 11 by omega) (show 8 + (2 + 11) + (242) ≤ 40 * (d + 1) + 263 by omega) ?_
  refine sh_Lk_lift (T := m12.T) (I := m12.I) (J := m12.J) (s := m12.s) (pc2 := 38) (lv2 := [(3, .int ((m.I 39 4) + 1)), (2, .int (Int64.toInt32 r1)), (0, .ref 40), (1, .int x1)]) (st2 := [.int (x1 + 1), .ref 40]) (I2 := m12.I) (J2 := m12.J) (fun hT v kk => ?_) ?_
  · refine sh_w (i := (.aload_n 0)) (len := 1) (pc2 := 35) (lv2 := [(3, .int ((m.I 39 4) + 1)), (2, .int (Int64.toInt32 r1)), (0, .ref 40), (1, .int x1)]) (st2 := [.ref 40]) (h2 := (sh_rep m12.T m12.I m12.J)) rfl rfl rfl ?_
    refine sh_w (i := (.iload_n 1)) (len := 1) (pc2 := 36) (lv2 := [(3, .int ((m.I 39 4) + 1)), (2, .int (Int64.toInt32 r1)), (0, .ref 40), (1, .int x1)]) (st2 := [.int x1, .ref 40]) (h2 := (sh_rep m12.T m12.I m12.J)) rfl rfl rfl ?_
    refine sh_w (i := (.iconst 1)) (len := 1) (pc2 := 37) (lv2 := [(3, .int ((m.I 39 4) + 1)), (2, .int (Int64.toInt32 r1)), (0, .ref 40), (1, .int x1)]) (st2 := [.int 1, .int x1, .ref 40]) (h2 := (sh_rep m12.T m12.I m12.J)) rfl rfl rfl ?_
    refine sh_w (i := .iadd) (len := 1) (pc2 := 38) (lv2 := [(3, .int ((m.I 39 4) + 1)), (2, .int (Int64.toInt32 r1)), (0, .ref 40), (1, .int x1)]) (st2 := [.int (x1 + 1), .ref 40]) (h2 := (sh_rep m12.T m12.I m12.J)) rfl rfl rfl ?_
    exact kk
  rcases sh_bt_e e with ⟨m13, e3, rfl⟩ | ⟨r3, m13, e3, e⟩
  · obtain ⟨rfl, rfl⟩ := tg
    exact sh_Lk_tV (k2 := 58) (a := 39) (as := [.ref 40, .int (x1 + 1)]) (rest := []) rfl rfl rfl (fun hT => (sh_s39 hT.st)) rfl rfl ⟨Nat.le_of_ble_eq_true rfl, Nat.le_of_ble_eq_true rfl⟩ (hQ.f58 e3 ⟨rfl, rfl⟩) rfl (show d + 11 + 1 ≤ d + 1 + 11 by omega) (show 8 + (4 + 11) + (40 * d + 263) ≤ 40 * (d + 1) + 263 by omega) (by omega) (by omega) rfl
  refine sh_Lk_cV (r := none) (st2 := []) (pc2 := 41) (k2 := 58) (a := 39) (as := [.ref 40, .int (x1 + 1)]) (rest := []) rfl rfl rfl (fun hT => (sh_s39 hT.st)) rfl rfl ⟨Nat.le_of_ble_eq_true rfl, Nat.le_of_ble_eq_true rfl⟩ (hQ.f58 e3 ⟨rfl, rfl⟩) rfl rfl (show d + 11 + 1 ≤ d + 1 + 11 by omega) (show 8 + (4 + 11) + (40 * d + 263) ≤ 40 * (d + 1) + 263 by omega) ?_
  refine sh_Lk_lift (T := m13.T) (I := m13.I) (J := m13.J) (s := m13.s) (pc2 := 44) (lv2 := [(3, .int ((m.I 39 4) + 1)), (2, .int (Int64.toInt32 r1)), (0, .ref 40), (1, .int x1)]) (st2 := [.int 41, .ref 40]) (I2 := m13.I) (J2 := m13.J) (fun hT v kk => ?_) ?_
  · refine sh_w (i := (.aload_n 0)) (len := 1) (pc2 := 42) (lv2 := [(3, .int ((m.I 39 4) + 1)), (2, .int (Int64.toInt32 r1)), (0, .ref 40), (1, .int x1)]) (st2 := [.ref 40]) (h2 := (sh_rep m13.T m13.I m13.J)) rfl rfl rfl ?_
    refine sh_w (i := (.bipush 41)) (len := 2) (pc2 := 44) (lv2 := [(3, .int ((m.I 39 4) + 1)), (2, .int (Int64.toInt32 r1)), (0, .ref 40), (1, .int x1)]) (st2 := [.int 41, .ref 40]) (h2 := (sh_rep m13.T m13.I m13.J)) rfl rfl rfl ?_
    exact kk
  rcases sh_bt_e e with ⟨m14, e4, rfl⟩ | ⟨r4, m14, e4, e⟩
  · obtain ⟨rfl, rfl⟩ := tg
    exact sh_Lk_tV (k2 := 48) (a := 39) (as := [.ref 40, .int 41]) (rest := []) rfl rfl rfl (fun hT => (sh_s39 hT.st)) rfl rfl ⟨Nat.le_of_ble_eq_true rfl, Nat.le_of_ble_eq_true rfl⟩ (sl_48 e4 ⟨rfl, rfl⟩) rfl (show 10 + 1 ≤ d + 1 + 11 by omega) (show 8 + (2 + 11) + (242) ≤ 40 * (d + 1) + 263 by omega) (by omega) (by omega) rfl
  refine sh_Lk_cV (r := none) (st2 := []) (pc2 := 47) (k2 := 48) (a := 39) (as := [.ref 40, .int 41]) (rest := []) rfl rfl rfl (fun hT => (sh_s39 hT.st)) rfl rfl ⟨Nat.le_of_ble_eq_true rfl, Nat.le_of_ble_eq_true rfl⟩ (sl_48 e4 ⟨rfl, rfl⟩) rfl rfl (show 10 + 1 ≤ d + 1 + 11 by omega) (show 8 + (2 + 11) + (242) ≤ 40 * (d + 1) + 263 by omega) ?_
  refine sh_Lk_lift (T := m14.T) (I := m14.I) (J := m14.J) (s := m14.s) (pc2 := 55) (lv2 := [(3, .int ((m.I 39 4) + 1)), (2, .int (Int64.toInt32 r1)), (0, .ref 40), (1, .int x1)]) (st2 := [.int (Int64.toInt32 r1), .int ((m.I 39 4) + 1), .int 26, .ref 29]) (I2 := m14.I) (J2 := m14.J) (fun hT v kk => ?_) ?_
  · refine sh_w (i := (.aload_n 0)) (len := 1) (pc2 := 48) (lv2 := [(3, .int ((m.I 39 4) + 1)), (2, .int (Int64.toInt32 r1)), (0, .ref 40), (1, .int x1)]) (st2 := [.ref 40]) (h2 := (sh_rep m14.T m14.I m14.J)) rfl rfl rfl ?_
    refine sh_gR1 (len := 3) (x := .ref 29) (pc2 := 51) rfl rfl (sh_s39 hT.st) rfl rfl ?_
    refine sh_w (i := (.bipush 26)) (len := 2) (pc2 := 53) (lv2 := [(3, .int ((m.I 39 4) + 1)), (2, .int (Int64.toInt32 r1)), (0, .ref 40), (1, .int x1)]) (st2 := [.int 26, .ref 29]) (h2 := (sh_rep m14.T m14.I m14.J)) rfl rfl rfl ?_
    refine sh_w (i := (.iload_n 3)) (len := 1) (pc2 := 54) (lv2 := [(3, .int ((m.I 39 4) + 1)), (2, .int (Int64.toInt32 r1)), (0, .ref 40), (1, .int x1)]) (st2 := [.int ((m.I 39 4) + 1), .int 26, .ref 29]) (h2 := (sh_rep m14.T m14.I m14.J)) rfl rfl rfl ?_
    refine sh_w (i := (.iload_n 2)) (len := 1) (pc2 := 55) (lv2 := [(3, .int ((m.I 39 4) + 1)), (2, .int (Int64.toInt32 r1)), (0, .ref 40), (1, .int x1)]) (st2 := [.int (Int64.toInt32 r1), .int ((m.I 39 4) + 1), .int 26, .ref 29]) (h2 := (sh_rep m14.T m14.I m14.J)) rfl rfl rfl ?_
    exact kk
  obtain ⟨r5, m15, e5, e⟩ := sh_bn_e e
  refine sh_Lk_cV (r := (some (.int r5))) (st2 := [.int r5]) (pc2 := 58) (k2 := 56) (a := 28) (as := [.ref 29, .int 26, .int ((m.I 39 4) + 1), .int (Int64.toInt32 r1)]) (rest := []) rfl rfl rfl (fun hT => (sh_s28 hT.st)) rfl rfl ⟨Nat.le_of_ble_eq_true rfl, Nat.le_of_ble_eq_true rfl⟩ (sl_56 e5 ⟨rfl, rfl⟩) rfl rfl (show 8 + 1 ≤ d + 1 + 11 by omega) (show 8 + (4 + 11) + (200) ≤ 40 * (d + 1) + 263 by omega) ?_
  refine sh_Lk_lift (T := m15.T) (I := m15.I) (J := m15.J) (s := m15.s) (pc2 := 59) (lv2 := [(3, .int ((m.I 39 4) + 1)), (2, .int (Int64.toInt32 r1)), (0, .ref 40), (1, .int x1)]) (st2 := []) (I2 := m15.I) (J2 := m15.J) (fun hT v kk => ?_) ?_
  · refine sh_w (i := .pop) (len := 1) (pc2 := 59) (lv2 := [(3, .int ((m.I 39 4) + 1)), (2, .int (Int64.toInt32 r1)), (0, .ref 40), (1, .int x1)]) (st2 := []) (h2 := (sh_rep m15.T m15.I m15.J)) rfl rfl rfl ?_
    exact kk
  obtain rfl := Option.some.inj e
  obtain ⟨rfl, rfl⟩ := tg
  exact sh_Lk_ret (i := .return_) rfl rfl rfl (by omega) (by omega)
theorem sl_67_77 {Q : sh_Q44} {d : Nat} {x1 : Int32} {x2 : Int32} {x3 : Int32} {x4 : Bool} {x5 : Int32} {y1 : Int32} {y2 : Bool} {m m2 : sh_X} {o : Outcome} {z : ((Int32 × Bool × Int32 × sh_X) ⊕ (Option Unit × sh_X))} (hQ : sh_QL44 Q d) (e : sf_67_77 Q x1 x2 x3 x4 x5 y1 y2 m = some z) (tg : (sh_el (fun q => sh_Lk 67 23 [(0, .ref 40), (1, .int x1), (2, .int x2), (3, .int q.1), (4, .int (sh_b2 q.2.1)), (5, .int q.2.2.1)] [] q.2.2.2 o m2 (d + 1 + 11) (40 * (d + 1) + 263)) (sh_tVt o m2)) z) : sh_Lk 67 77 [(0, .ref 40), (1, .int x1), (2, .int x2), (3, .int x3), (4, .int (sh_b2 x4)), (5, .int x5)] [.int (sh_b2 y2), .int y1, .ref 40] m o m2 (d + 1 + 11) (40 * (d + 1) + 263) := by
  unfold sf_67_77 at e
  refine sh_Lk_lift (T := m.T) (I := m.I) (J := m.J) (s := m.s) (pc2 := 23) (lv2 := [(5, .int (x5 + 1)), (0, .ref 40), (1, .int x1), (2, .int x2), (3, .int x3), (4, .int (sh_b2 x4))]) (st2 := []) (I2 := sh_u2 m.I 39 4 (y1 + (sh_b2 y2))) (J2 := m.J) (fun hT v kk => ?_) ?_
  · refine sh_w (i := .iadd) (len := 1) (pc2 := 78) (lv2 := [(0, .ref 40), (1, .int x1), (2, .int x2), (3, .int x3), (4, .int (sh_b2 x4)), (5, .int x5)]) (st2 := [.int (y1 + (sh_b2 y2)), .ref 40]) (h2 := (sh_rep m.T m.I m.J)) rfl rfl rfl ?_
    refine sh_pI1 (x := y1 + (sh_b2 y2)) (pc2 := 81) rfl rfl (sh_s39 hT.st) rfl rfl rfl rfl ?_
    refine sh_w (i := (.iinc 5 1)) (len := 3) (pc2 := 84) (lv2 := [(5, .int (x5 + 1)), (0, .ref 40), (1, .int x1), (2, .int x2), (3, .int x3), (4, .int (sh_b2 x4))]) (st2 := []) (h2 := (sh_rep m.T (sh_u2 m.I 39 4 (y1 + (sh_b2 y2))) m.J)) rfl rfl rfl ?_
    refine sh_w (i := (.goto (-61))) (len := 3) (pc2 := 23) (lv2 := [(5, .int (x5 + 1)), (0, .ref 40), (1, .int x1), (2, .int x2), (3, .int x3), (4, .int (sh_b2 x4))]) (st2 := []) (h2 := (sh_rep m.T (sh_u2 m.I 39 4 (y1 + (sh_b2 y2))) m.J)) rfl rfl rfl ?_
    exact kk
  obtain rfl := Option.some.inj e
  exact sh_Lk_sub (sh_sub_c rfl (sh_sub_c rfl (sh_sub_c rfl (sh_sub_c rfl (sh_sub_c rfl (sh_sub_c rfl (sh_sub_n))))))) tg
theorem sl_67_60 {Q : sh_Q44} {d : Nat} {x1 : Int32} {x2 : Int32} {x3 : Int32} {x5 : Int32} {y0 : Bool} {m m2 : sh_X} {o : Outcome} {z : ((Int32 × Bool × Int32 × sh_X) ⊕ (Option Unit × sh_X))} (hQ : sh_QL44 Q d) (e : sf_67_60 Q x1 x2 x3 x5 y0 m = some z) (tg : (sh_el (fun q => sh_Lk 67 23 [(0, .ref 40), (1, .int x1), (2, .int x2), (3, .int q.1), (4, .int (sh_b2 q.2.1)), (5, .int q.2.2.1)] [] q.2.2.2 o m2 (d + 1 + 11) (40 * (d + 1) + 263)) (sh_tVt o m2)) z) : sh_Lk 67 60 [(0, .ref 40), (1, .int x1), (2, .int x2), (3, .int x3), (5, .int x5)] [.int (sh_b2 y0)] m o m2 (d + 1 + 11) (40 * (d + 1) + 263) := by
  unfold sf_67_60 at e
  refine sh_Lk_lift (T := m.T) (I := m.I) (J := m.J) (s := m.s) (pc2 := 69) (lv2 := [(4, .int (sh_b2 y0)), (0, .ref 40), (1, .int x1), (2, .int x2), (3, .int x3), (5, .int x5)]) (st2 := [.int (sh_b2 y0), .int (m.I 39 4), .ref 40]) (I2 := m.I) (J2 := m.J) (fun hT v kk => ?_) ?_
  · refine sh_w (i := (.istore 4)) (len := 2) (pc2 := 62) (lv2 := [(4, .int (sh_b2 y0)), (0, .ref 40), (1, .int x1), (2, .int x2), (3, .int x3), (5, .int x5)]) (st2 := []) (h2 := (sh_rep m.T m.I m.J)) rfl rfl rfl ?_
    refine sh_w (i := (.aload_n 0)) (len := 1) (pc2 := 63) (lv2 := [(4, .int (sh_b2 y0)), (0, .ref 40), (1, .int x1), (2, .int x2), (3, .int x3), (5, .int x5)]) (st2 := [.ref 40]) (h2 := (sh_rep m.T m.I m.J)) rfl rfl rfl ?_
    refine sh_w (i := .dup) (len := 1) (pc2 := 64) (lv2 := [(4, .int (sh_b2 y0)), (0, .ref 40), (1, .int x1), (2, .int x2), (3, .int x3), (5, .int x5)]) (st2 := [.ref 40, .ref 40]) (h2 := (sh_rep m.T m.I m.J)) rfl rfl rfl ?_
    refine sh_gI1 (len := 3) (x := m.I 39 4) (pc2 := 67) rfl rfl (sh_s39 hT.st) rfl rfl rfl ?_
    refine sh_w (i := (.iload 4)) (len := 2) (pc2 := 69) (lv2 := [(4, .int (sh_b2 y0)), (0, .ref 40), (1, .int x1), (2, .int x2), (3, .int x3), (5, .int x5)]) (st2 := [.int (sh_b2 y0), .int (m.I 39 4), .ref 40]) (h2 := (sh_rep m.T m.I m.J)) rfl rfl rfl ?_
    exact kk
  rcases sh_ite e with ⟨c, e⟩ | ⟨c, e⟩
  · refine sh_Lk_lift (T := m.T) (I := m.I) (J := m.J) (s := m.s) (pc2 := 77) (lv2 := [(4, .int (sh_b2 y0)), (0, .ref 40), (1, .int x1), (2, .int x2), (3, .int x3), (5, .int x5)]) (st2 := [.int 1, .int (m.I 39 4), .ref 40]) (I2 := m.I) (J2 := m.J) (fun hT v kk => ?_) ?_
    · refine sh_j0 (c := .eq) (off := (7)) (pc2 := 72) false rfl (sh_Zeqf c) rfl ?_
      refine sh_w (i := (.iconst 1)) (len := 1) (pc2 := 73) (lv2 := [(4, .int (sh_b2 y0)), (0, .ref 40), (1, .int x1), (2, .int x2), (3, .int x3), (5, .int x5)]) (st2 := [.int 1, .int (m.I 39 4), .ref 40]) (h2 := (sh_rep m.T m.I m.J)) rfl rfl rfl ?_
      refine sh_w (i := (.goto 4)) (len := 3) (pc2 := 77) (lv2 := [(4, .int (sh_b2 y0)), (0, .ref 40), (1, .int x1), (2, .int x2), (3, .int x3), (5, .int x5)]) (st2 := [.int 1, .int (m.I 39 4), .ref 40]) (h2 := (sh_rep m.T m.I m.J)) rfl rfl rfl ?_
      exact kk
    exact sh_Lk_sub (sh_sub_c rfl (sh_sub_c rfl (sh_sub_c rfl (sh_sub_c rfl (sh_sub_c rfl (sh_sub_c rfl (sh_sub_n))))))) (sl_67_77 hQ e tg)
  · refine sh_Lk_lift (T := m.T) (I := m.I) (J := m.J) (s := m.s) (pc2 := 77) (lv2 := [(4, .int (sh_b2 y0)), (0, .ref 40), (1, .int x1), (2, .int x2), (3, .int x3), (5, .int x5)]) (st2 := [.int 0, .int (m.I 39 4), .ref 40]) (I2 := m.I) (J2 := m.J) (fun hT v kk => ?_) ?_
    · refine sh_j0 (c := .eq) (off := (7)) (pc2 := 76) true rfl (sh_Zeqt c) rfl ?_
      refine sh_w (i := (.iconst 0)) (len := 1) (pc2 := 77) (lv2 := [(4, .int (sh_b2 y0)), (0, .ref 40), (1, .int x1), (2, .int x2), (3, .int x3), (5, .int x5)]) (st2 := [.int 0, .int (m.I 39 4), .ref 40]) (h2 := (sh_rep m.T m.I m.J)) rfl rfl rfl ?_
      exact kk
    exact sh_Lk_sub (sh_sub_c rfl (sh_sub_c rfl (sh_sub_c rfl (sh_sub_c rfl (sh_sub_c rfl (sh_sub_c rfl (sh_sub_n))))))) (sl_67_77 hQ e tg)
theorem sl_67_87 {Q : sh_Q44} {d : Nat} {x2 : Int32} {x3 : Int32} {m m2 : sh_X} {o : Outcome} {z : (Option Unit × sh_X)} (hQ : sh_QL44 Q d) (e : sf_67_87 Q x2 x3 m = some z) (tg : (sh_tVt o m2) z) : sh_Lk 67 87 [(0, .ref 40), (2, .int x2), (3, .int x3)] [] m o m2 (d + 1 + 11) (40 * (d + 1) + 263) := by
  unfold sf_67_87 at e
  refine sh_Lk_lift (T := m.T) (I := m.I) (J := m.J) (s := m.s) (pc2 := 90) (lv2 := [(0, .ref 40), (2, .int x2), (3, .int x3)]) (st2 := [.int 93, .ref 40]) (I2 := m.I) (J2 := m.J) (fun hT v kk => ?_) ?_
  · refine sh_w (i := (.aload_n 0)) (len := 1) (pc2 := 88) (lv2 := [(0, .ref 40), (2, .int x2), (3, .int x3)]) (st2 := [.ref 40]) (h2 := (sh_rep m.T m.I m.J)) rfl rfl rfl ?_
    refine sh_w (i := (.bipush 93)) (len := 2) (pc2 := 90) (lv2 := [(0, .ref 40), (2, .int x2), (3, .int x3)]) (st2 := [.int 93, .ref 40]) (h2 := (sh_rep m.T m.I m.J)) rfl rfl rfl ?_
    exact kk
  rcases sh_bt_e e with ⟨m11, e1, rfl⟩ | ⟨r1, m11, e1, e⟩
  · obtain ⟨rfl, rfl⟩ := tg
    exact sh_Lk_tV (k2 := 48) (a := 39) (as := [.ref 40, .int 93]) (rest := []) rfl rfl rfl (fun hT => (sh_s39 hT.st)) rfl rfl ⟨Nat.le_of_ble_eq_true rfl, Nat.le_of_ble_eq_true rfl⟩ (sl_48 e1 ⟨rfl, rfl⟩) rfl (show 10 + 1 ≤ d + 1 + 11 by omega) (show 8 + (2 + 11) + (242) ≤ 40 * (d + 1) + 263 by omega) (by omega) (by omega) rfl
  refine sh_Lk_cV (r := none) (st2 := []) (pc2 := 93) (k2 := 48) (a := 39) (as := [.ref 40, .int 93]) (rest := []) rfl rfl rfl (fun hT => (sh_s39 hT.st)) rfl rfl ⟨Nat.le_of_ble_eq_true rfl, Nat.le_of_ble_eq_true rfl⟩ (sl_48 e1 ⟨rfl, rfl⟩) rfl rfl (show 10 + 1 ≤ d + 1 + 11 by omega) (show 8 + (2 + 11) + (242) ≤ 40 * (d + 1) + 263 by omega) ?_
  refine sh_Lk_lift (T := m11.T) (I := m11.I) (J := m11.J) (s := m11.s) (pc2 := 101) (lv2 := [(0, .ref 40), (2, .int x2), (3, .int x3)]) (st2 := [.int x3, .int x2, .int 27, .ref 29]) (I2 := m11.I) (J2 := m11.J) (fun hT v kk => ?_) ?_
  · refine sh_w (i := (.aload_n 0)) (len := 1) (pc2 := 94) (lv2 := [(0, .ref 40), (2, .int x2), (3, .int x3)]) (st2 := [.ref 40]) (h2 := (sh_rep m11.T m11.I m11.J)) rfl rfl rfl ?_
    refine sh_gR1 (len := 3) (x := .ref 29) (pc2 := 97) rfl rfl (sh_s39 hT.st) rfl rfl ?_
    refine sh_w (i := (.bipush 27)) (len := 2) (pc2 := 99) (lv2 := [(0, .ref 40), (2, .int x2), (3, .int x3)]) (st2 := [.int 27, .ref 29]) (h2 := (sh_rep m11.T m11.I m11.J)) rfl rfl rfl ?_
    refine sh_w (i := (.iload_n 2)) (len := 1) (pc2 := 100) (lv2 := [(0, .ref 40), (2, .int x2), (3, .int x3)]) (st2 := [.int x2, .int 27, .ref 29]) (h2 := (sh_rep m11.T m11.I m11.J)) rfl rfl rfl ?_
    refine sh_w (i := (.iload_n 3)) (len := 1) (pc2 := 101) (lv2 := [(0, .ref 40), (2, .int x2), (3, .int x3)]) (st2 := [.int x3, .int x2, .int 27, .ref 29]) (h2 := (sh_rep m11.T m11.I m11.J)) rfl rfl rfl ?_
    exact kk
  obtain ⟨r2, m12, e2, e⟩ := sh_bn_e e
  refine sh_Lk_cV (r := (some (.int r2))) (st2 := [.int r2]) (pc2 := 104) (k2 := 56) (a := 28) (as := [.ref 29, .int 27, .int x2, .int x3]) (rest := []) rfl rfl rfl (fun hT => (sh_s28 hT.st)) rfl rfl ⟨Nat.le_of_ble_eq_true rfl, Nat.le_of_ble_eq_true rfl⟩ (sl_56 e2 ⟨rfl, rfl⟩) rfl rfl (show 8 + 1 ≤ d + 1 + 11 by omega) (show 8 + (4 + 11) + (200) ≤ 40 * (d + 1) + 263 by omega) ?_
  refine sh_Lk_lift (T := m12.T) (I := m12.I) (J := m12.J) (s := m12.s) (pc2 := 105) (lv2 := [(0, .ref 40), (2, .int x2), (3, .int x3)]) (st2 := []) (I2 := m12.I) (J2 := m12.J) (fun hT v kk => ?_) ?_
  · refine sh_w (i := .pop) (len := 1) (pc2 := 105) (lv2 := [(0, .ref 40), (2, .int x2), (3, .int x3)]) (st2 := []) (h2 := (sh_rep m12.T m12.I m12.J)) rfl rfl rfl ?_
    exact kk
  obtain rfl := Option.some.inj e
  obtain ⟨rfl, rfl⟩ := tg
  exact sh_Lk_ret (i := .return_) rfl rfl rfl (by omega) (by omega)
theorem sl_67_23s {Q : sh_Q44} {d : Nat} {x1 : Int32} {x2 : Int32} {x3 : Int32} {x4 : Bool} {x5 : Int32} {m m2 : sh_X} {o : Outcome} {z : ((Int32 × Bool × Int32 × sh_X) ⊕ (Option Unit × sh_X))} (hQ : sh_QL44 Q d) (e : sf_67_23s Q x1 x2 x3 x4 x5 m = some z) (tg : (sh_el (fun q => sh_Lk 67 23 [(0, .ref 40), (1, .int x1), (2, .int x2), (3, .int q.1), (4, .int (sh_b2 q.2.1)), (5, .int q.2.2.1)] [] q.2.2.2 o m2 (d + 1 + 11) (40 * (d + 1) + 263)) (sh_tVt o m2)) z) : sh_Lk 67 23 [(0, .ref 40), (1, .int x1), (2, .int x2), (3, .int x3), (4, .int (sh_b2 x4)), (5, .int x5)] [] m o m2 (d + 1 + 11) (40 * (d + 1) + 263) := by
  unfold sf_67_23s at e
  refine sh_Lk_lift (T := m.T) (I := m.I) (J := m.J) (s := m.s) (pc2 := 28) (lv2 := [(0, .ref 40), (1, .int x1), (2, .int x2), (3, .int x3), (4, .int (sh_b2 x4)), (5, .int x5)]) (st2 := [.int 4000, .int x5]) (I2 := m.I) (J2 := m.J) (fun hT v kk => ?_) ?_
  · refine sh_w (i := (.iload 5)) (len := 2) (pc2 := 25) (lv2 := [(0, .ref 40), (1, .int x1), (2, .int x2), (3, .int x3), (4, .int (sh_b2 x4)), (5, .int x5)]) (st2 := [.int x5]) (h2 := (sh_rep m.T m.I m.J)) rfl rfl rfl ?_
    refine sh_w (i := (.sipush 4000)) (len := 3) (pc2 := 28) (lv2 := [(0, .ref 40), (1, .int x1), (2, .int x2), (3, .int x3), (4, .int (sh_b2 x4)), (5, .int x5)]) (st2 := [.int 4000, .int x5]) (h2 := (sh_rep m.T m.I m.J)) rfl rfl rfl ?_
    exact kk
  rcases sh_ite e with ⟨c, e⟩ | ⟨c, e⟩
  · refine sh_Lk_lift (T := m.T) (I := m.I) (J := m.J) (s := m.s) (pc2 := 33) (lv2 := [(0, .ref 40), (1, .int x1), (2, .int x2), (3, .int x3), (4, .int (sh_b2 x4)), (5, .int x5)]) (st2 := [.int (sh_b2 x4)]) (I2 := m.I) (J2 := m.J) (fun hT v kk => ?_) ?_
    · refine sh_jc (c := .ge) (off := (59)) (pc2 := 31) false rfl (sh_Bgef c) rfl ?_
      refine sh_w (i := (.iload 4)) (len := 2) (pc2 := 33) (lv2 := [(0, .ref 40), (1, .int x1), (2, .int x2), (3, .int x3), (4, .int (sh_b2 x4)), (5, .int x5)]) (st2 := [.int (sh_b2 x4)]) (h2 := (sh_rep m.T m.I m.J)) rfl rfl rfl ?_
      exact kk
    rcases sh_ite e with ⟨c, e⟩ | ⟨c, e⟩
    · refine sh_Lk_lift (T := m.T) (I := m.I) (J := m.J) (s := m.s) (pc2 := 40) (lv2 := [(0, .ref 40), (1, .int x1), (2, .int x2), (3, .int x3), (4, .int (sh_b2 x4)), (5, .int x5)]) (st2 := [.int (x1 + 1), .ref 40]) (I2 := m.I) (J2 := m.J) (fun hT v kk => ?_) ?_
      · refine sh_j0 (c := .eq) (off := (54)) (pc2 := 36) false rfl (sh_Zeqf c) rfl ?_
        refine sh_w (i := (.aload_n 0)) (len := 1) (pc2 := 37) (lv2 := [(0, .ref 40), (1, .int x1), (2, .int x2), (3, .int x3), (4, .int (sh_b2 x4)), (5, .int x5)]) (st2 := [.ref 40]) (h2 := (sh_rep m.T m.I m.J)) rfl rfl rfl ?_
        refine sh_w (i := (.iload_n 1)) (len := 1) (pc2 := 38) (lv2 := [(0, .ref 40), (1, .int x1), (2, .int x2), (3, .int x3), (4, .int (sh_b2 x4)), (5, .int x5)]) (st2 := [.int x1, .ref 40]) (h2 := (sh_rep m.T m.I m.J)) rfl rfl rfl ?_
        refine sh_w (i := (.iconst 1)) (len := 1) (pc2 := 39) (lv2 := [(0, .ref 40), (1, .int x1), (2, .int x2), (3, .int x3), (4, .int (sh_b2 x4)), (5, .int x5)]) (st2 := [.int 1, .int x1, .ref 40]) (h2 := (sh_rep m.T m.I m.J)) rfl rfl rfl ?_
        refine sh_w (i := .iadd) (len := 1) (pc2 := 40) (lv2 := [(0, .ref 40), (1, .int x1), (2, .int x2), (3, .int x3), (4, .int (sh_b2 x4)), (5, .int x5)]) (st2 := [.int (x1 + 1), .ref 40]) (h2 := (sh_rep m.T m.I m.J)) rfl rfl rfl ?_
        exact kk
      rcases sh_bt_e e with ⟨m11, e1, rfl⟩ | ⟨r1, m11, e1, e⟩
      · obtain ⟨rfl, rfl⟩ := tg
        exact sh_Lk_tV (k2 := 58) (a := 39) (as := [.ref 40, .int (x1 + 1)]) (rest := []) rfl rfl rfl (fun hT => (sh_s39 hT.st)) rfl rfl ⟨Nat.le_of_ble_eq_true rfl, Nat.le_of_ble_eq_true rfl⟩ (hQ.f58 e1 ⟨rfl, rfl⟩) rfl (show d + 11 + 1 ≤ d + 1 + 11 by omega) (show 8 + (4 + 11) + (40 * d + 263) ≤ 40 * (d + 1) + 263 by omega) (by omega) (by omega) rfl
      refine sh_Lk_cV (r := none) (st2 := []) (pc2 := 43) (k2 := 58) (a := 39) (as := [.ref 40, .int (x1 + 1)]) (rest := []) rfl rfl rfl (fun hT => (sh_s39 hT.st)) rfl rfl ⟨Nat.le_of_ble_eq_true rfl, Nat.le_of_ble_eq_true rfl⟩ (hQ.f58 e1 ⟨rfl, rfl⟩) rfl rfl (show d + 11 + 1 ≤ d + 1 + 11 by omega) (show 8 + (4 + 11) + (40 * d + 263) ≤ 40 * (d + 1) + 263 by omega) ?_
      refine sh_Lk_lift (T := m11.T) (I := m11.I) (J := m11.J) (s := m11.s) (pc2 := 47) (lv2 := [(3, .int (x3 + 1)), (0, .ref 40), (1, .int x1), (2, .int x2), (4, .int (sh_b2 x4)), (5, .int x5)]) (st2 := [.ref 40]) (I2 := m11.I) (J2 := m11.J) (fun hT v kk => ?_) ?_
      · refine sh_w (i := (.iinc 3 1)) (len := 3) (pc2 := 46) (lv2 := [(3, .int (x3 + 1)), (0, .ref 40), (1, .int x1), (2, .int x2), (4, .int (sh_b2 x4)), (5, .int x5)]) (st2 := []) (h2 := (sh_rep m11.T m11.I m11.J)) rfl rfl rfl ?_
        refine sh_w (i := (.aload_n 0)) (len := 1) (pc2 := 47) (lv2 := [(3, .int (x3 + 1)), (0, .ref 40), (1, .int x1), (2, .int x2), (4, .int (sh_b2 x4)), (5, .int x5)]) (st2 := [.ref 40]) (h2 := (sh_rep m11.T m11.I m11.J)) rfl rfl rfl ?_
        exact kk
      obtain ⟨r2, e2, e⟩ := sh_bc_e e
      refine sh_Lk_cV (r := (some (.int r2))) (st2 := [.int r2]) (pc2 := 50) (k2 := 45) (a := 39) (as := [.ref 40]) (rest := []) rfl rfl rfl (fun hT => (sh_s39 hT.st)) rfl rfl ⟨Nat.le_of_ble_eq_true rfl, Nat.le_of_ble_eq_true rfl⟩ (sl_45 e2 ⟨rfl, rfl⟩) rfl rfl (show 9 + 1 ≤ d + 1 + 11 by omega) (show 8 + (1 + 11) + (221) ≤ 40 * (d + 1) + 263 by omega) ?_
      refine sh_Lk_lift (T := m11.T) (I := m11.I) (J := m11.J) (s := m11.s) (pc2 := 52) (lv2 := [(3, .int (x3 + 1)), (0, .ref 40), (1, .int x1), (2, .int x2), (4, .int (sh_b2 x4)), (5, .int x5)]) (st2 := [.int 44, .int r2]) (I2 := m11.I) (J2 := m11.J) (fun hT v kk => ?_) ?_
      · refine sh_w (i := (.bipush 44)) (len := 2) (pc2 := 52) (lv2 := [(3, .int (x3 + 1)), (0, .ref 40), (1, .int x1), (2, .int x2), (4, .int (sh_b2 x4)), (5, .int x5)]) (st2 := [.int 44, .int r2]) (h2 := (sh_rep m11.T m11.I m11.J)) rfl rfl rfl ?_
        exact kk
      rcases sh_ite e with ⟨c, e⟩ | ⟨c, e⟩
      · refine sh_Lk_lift (T := m11.T) (I := m11.I) (J := m11.J) (s := m11.s) (pc2 := 60) (lv2 := [(3, .int (x3 + 1)), (0, .ref 40), (1, .int x1), (2, .int x2), (4, .int (sh_b2 x4)), (5, .int x5)]) (st2 := [.int 1]) (I2 := m11.I) (J2 := m11.J) (fun hT v kk => ?_) ?_
        · refine sh_jc (c := .ne) (off := (7)) (pc2 := 55) false rfl (sh_Bnef c) rfl ?_
          refine sh_w (i := (.iconst 1)) (len := 1) (pc2 := 56) (lv2 := [(3, .int (x3 + 1)), (0, .ref 40), (1, .int x1), (2, .int x2), (4, .int (sh_b2 x4)), (5, .int x5)]) (st2 := [.int 1]) (h2 := (sh_rep m11.T m11.I m11.J)) rfl rfl rfl ?_
          refine sh_w (i := (.goto 4)) (len := 3) (pc2 := 60) (lv2 := [(3, .int (x3 + 1)), (0, .ref 40), (1, .int x1), (2, .int x2), (4, .int (sh_b2 x4)), (5, .int x5)]) (st2 := [.int 1]) (h2 := (sh_rep m11.T m11.I m11.J)) rfl rfl rfl ?_
          exact kk
        exact sh_Lk_sub (sh_sub_c rfl (sh_sub_c rfl (sh_sub_c rfl (sh_sub_c rfl (sh_sub_c rfl (sh_sub_n)))))) (sl_67_60 hQ e tg)
      · refine sh_Lk_lift (T := m11.T) (I := m11.I) (J := m11.J) (s := m11.s) (pc2 := 60) (lv2 := [(3, .int (x3 + 1)), (0, .ref 40), (1, .int x1), (2, .int x2), (4, .int (sh_b2 x4)), (5, .int x5)]) (st2 := [.int 0]) (I2 := m11.I) (J2 := m11.J) (fun hT v kk => ?_) ?_
        · refine sh_jc (c := .ne) (off := (7)) (pc2 := 59) true rfl (sh_Bnet c) rfl ?_
          refine sh_w (i := (.iconst 0)) (len := 1) (pc2 := 60) (lv2 := [(3, .int (x3 + 1)), (0, .ref 40), (1, .int x1), (2, .int x2), (4, .int (sh_b2 x4)), (5, .int x5)]) (st2 := [.int 0]) (h2 := (sh_rep m11.T m11.I m11.J)) rfl rfl rfl ?_
          exact kk
        exact sh_Lk_sub (sh_sub_c rfl (sh_sub_c rfl (sh_sub_c rfl (sh_sub_c rfl (sh_sub_c rfl (sh_sub_n)))))) (sl_67_60 hQ e tg)
    · refine sh_Lk_lift (T := m.T) (I := m.I) (J := m.J) (s := m.s) (pc2 := 87) (lv2 := [(0, .ref 40), (1, .int x1), (2, .int x2), (3, .int x3), (4, .int (sh_b2 x4)), (5, .int x5)]) (st2 := []) (I2 := m.I) (J2 := m.J) (fun hT v kk => ?_) ?_
      · refine sh_j0 (c := .eq) (off := (54)) (pc2 := 87) true rfl (sh_Zeqt c) rfl ?_
        exact kk
      obtain ⟨_, eu, rfl⟩ := sh_up_e e
      exact sh_Lk_sub (sh_sub_c rfl (sh_sub_c rfl (sh_sub_c rfl (sh_sub_n)))) (sl_67_87 hQ eu tg)
  · refine sh_Lk_lift (T := m.T) (I := m.I) (J := m.J) (s := m.s) (pc2 := 87) (lv2 := [(0, .ref 40), (1, .int x1), (2, .int x2), (3, .int x3), (4, .int (sh_b2 x4)), (5, .int x5)]) (st2 := []) (I2 := m.I) (J2 := m.J) (fun hT v kk => ?_) ?_
    · refine sh_jc (c := .ge) (off := (59)) (pc2 := 87) true rfl (sh_Bget c) rfl ?_
      exact kk
    obtain ⟨_, eu, rfl⟩ := sh_up_e e
    exact sh_Lk_sub (sh_sub_c rfl (sh_sub_c rfl (sh_sub_c rfl (sh_sub_n)))) (sl_67_87 hQ eu tg)
theorem sl_67_23 {Q : sh_Q44} {d : Nat} {x1 : Int32} {x2 : Int32} {x3 : Int32} {x4 : Bool} {x5 : Int32} {m m2 : sh_X} {o : Outcome} {z : (Option Unit × sh_X)} (hQ : sh_QL44 Q d) (e : sf_67_23 Q x1 x2 x3 x4 x5 m = some z) (tg : (sh_tVt o m2) z) : sh_Lk 67 23 [(0, .ref 40), (1, .int x1), (2, .int x2), (3, .int x3), (4, .int (sh_b2 x4)), (5, .int x5)] [] m o m2 (d + 1 + 11) (40 * (d + 1) + 263) := by
  unfold sf_67_23 at e
  exact sh_while_lk (P := fun q => sh_Lk 67 23 [(0, .ref 40), (1, .int x1), (2, .int x2), (3, .int q.1), (4, .int (sh_b2 q.2.1)), (5, .int q.2.2.1)] [] q.2.2.2 o m2 (d + 1 + 11) (40 * (d + 1) + 263)) (Q := (sh_tVt o m2)) (fun q z e tg => sl_67_23s (x1 := x1) (x2 := x2) (x3 := q.1) (x4 := q.2.1) (x5 := q.2.2.1) (m := q.2.2.2) hQ e tg) (s := (x3, x4, x5, m)) e tg
theorem sl_67 {Q : sh_Q44} {d : Nat} {x1 : Int32} {m m2 : sh_X} {o : Outcome} {z : (Option Unit × sh_X)} (hQ : sh_QL44 Q d) (e : sf_67 Q x1 m = some z) (tg : (sh_tVt o m2) z) : sh_Lk 67 0 [(0, .ref 40), (1, .int x1)] [] m o m2 (d + 1 + 11) (40 * (d + 1) + 263) := by
  unfold sf_67 at e
  refine sh_Lk_lift (T := m.T) (I := m.I) (J := m.J) (s := m.s) (pc2 := 23) (lv2 := [(5, .int 0), (4, .int 1), (3, .int 0), (2, .int (m.I 39 4)), (0, .ref 40), (1, .int x1)]) (st2 := []) (I2 := sh_u2 m.I 39 4 ((m.I 39 4) + 1)) (J2 := m.J) (fun hT v kk => ?_) ?_
  · refine sh_w (i := (.aload_n 0)) (len := 1) (pc2 := 1) (lv2 := [(0, .ref 40), (1, .int x1)]) (st2 := [.ref 40]) (h2 := (sh_rep m.T m.I m.J)) rfl rfl rfl ?_
    refine sh_gI1 (len := 3) (x := m.I 39 4) (pc2 := 4) rfl rfl (sh_s39 hT.st) rfl rfl rfl ?_
    refine sh_w (i := (.istore_n 2)) (len := 1) (pc2 := 5) (lv2 := [(2, .int (m.I 39 4)), (0, .ref 40), (1, .int x1)]) (st2 := []) (h2 := (sh_rep m.T m.I m.J)) rfl rfl rfl ?_
    refine sh_w (i := (.iconst 0)) (len := 1) (pc2 := 6) (lv2 := [(2, .int (m.I 39 4)), (0, .ref 40), (1, .int x1)]) (st2 := [.int 0]) (h2 := (sh_rep m.T m.I m.J)) rfl rfl rfl ?_
    refine sh_w (i := (.istore_n 3)) (len := 1) (pc2 := 7) (lv2 := [(3, .int 0), (2, .int (m.I 39 4)), (0, .ref 40), (1, .int x1)]) (st2 := []) (h2 := (sh_rep m.T m.I m.J)) rfl rfl rfl ?_
    refine sh_w (i := (.iconst 1)) (len := 1) (pc2 := 8) (lv2 := [(3, .int 0), (2, .int (m.I 39 4)), (0, .ref 40), (1, .int x1)]) (st2 := [.int 1]) (h2 := (sh_rep m.T m.I m.J)) rfl rfl rfl ?_
    refine sh_w (i := (.istore 4)) (len := 2) (pc2 := 10) (lv2 := [(4, .int 1), (3, .int 0), (2, .int (m.I 39 4)), (0, .ref 40), (1, .int x1)]) (st2 := []) (h2 := (sh_rep m.T m.I m.J)) rfl rfl rfl ?_
    refine sh_w (i := (.aload_n 0)) (len := 1) (pc2 := 11) (lv2 := [(4, .int 1), (3, .int 0), (2, .int (m.I 39 4)), (0, .ref 40), (1, .int x1)]) (st2 := [.ref 40]) (h2 := (sh_rep m.T m.I m.J)) rfl rfl rfl ?_
    refine sh_w (i := .dup) (len := 1) (pc2 := 12) (lv2 := [(4, .int 1), (3, .int 0), (2, .int (m.I 39 4)), (0, .ref 40), (1, .int x1)]) (st2 := [.ref 40, .ref 40]) (h2 := (sh_rep m.T m.I m.J)) rfl rfl rfl ?_
    refine sh_gI1 (len := 3) (x := m.I 39 4) (pc2 := 15) rfl rfl (sh_s39 hT.st) rfl rfl rfl ?_
    refine sh_w (i := (.iconst 1)) (len := 1) (pc2 := 16) (lv2 := [(4, .int 1), (3, .int 0), (2, .int (m.I 39 4)), (0, .ref 40), (1, .int x1)]) (st2 := [.int 1, .int (m.I 39 4), .ref 40]) (h2 := (sh_rep m.T m.I m.J)) rfl rfl rfl ?_
    refine sh_w (i := .iadd) (len := 1) (pc2 := 17) (lv2 := [(4, .int 1), (3, .int 0), (2, .int (m.I 39 4)), (0, .ref 40), (1, .int x1)]) (st2 := [.int ((m.I 39 4) + 1), .ref 40]) (h2 := (sh_rep m.T m.I m.J)) rfl rfl rfl ?_
    refine sh_pI1 (x := (m.I 39 4) + 1) (pc2 := 20) rfl rfl (sh_s39 hT.st) rfl rfl rfl rfl ?_
    refine sh_w (i := (.iconst 0)) (len := 1) (pc2 := 21) (lv2 := [(4, .int 1), (3, .int 0), (2, .int (m.I 39 4)), (0, .ref 40), (1, .int x1)]) (st2 := [.int 0]) (h2 := (sh_rep m.T (sh_u2 m.I 39 4 ((m.I 39 4) + 1)) m.J)) rfl rfl rfl ?_
    refine sh_w (i := (.istore 5)) (len := 2) (pc2 := 23) (lv2 := [(5, .int 0), (4, .int 1), (3, .int 0), (2, .int (m.I 39 4)), (0, .ref 40), (1, .int x1)]) (st2 := []) (h2 := (sh_rep m.T (sh_u2 m.I 39 4 ((m.I 39 4) + 1)) m.J)) rfl rfl rfl ?_
    exact kk
  exact sh_Lk_sub (sh_sub_c rfl (sh_sub_c rfl (sh_sub_c rfl (sh_sub_c rfl (sh_sub_c rfl (sh_sub_c rfl (sh_sub_n))))))) (sl_67_23 hQ e tg)
theorem sl_68 {Q : sh_Q44} {d : Nat} {x1 : Int32} {m m2 : sh_X} {o : Outcome} {z : (Option Unit × sh_X)} (hQ : sh_QL44 Q d) (e : sf_68 Q x1 m = some z) (tg : (sh_tVt o m2) z) : sh_Lk 68 0 [(0, .ref 40), (1, .int x1)] [] m o m2 (d + 1 + 11) (40 * (d + 1) + 263) := by
  unfold sf_68 at e
  refine sh_Lk_lift (T := m.T) (I := m.I) (J := m.J) (s := m.s) (pc2 := 3) (lv2 := [(0, .ref 40), (1, .int x1)]) (st2 := [.int 91, .ref 40]) (I2 := m.I) (J2 := m.J) (fun hT v kk => ?_) ?_
  · refine sh_w (i := (.aload_n 0)) (len := 1) (pc2 := 1) (lv2 := [(0, .ref 40), (1, .int x1)]) (st2 := [.ref 40]) (h2 := (sh_rep m.T m.I m.J)) rfl rfl rfl ?_
    refine sh_w (i := (.bipush 91)) (len := 2) (pc2 := 3) (lv2 := [(0, .ref 40), (1, .int x1)]) (st2 := [.int 91, .ref 40]) (h2 := (sh_rep m.T m.I m.J)) rfl rfl rfl ?_
    exact kk
  rcases sh_bt_e e with ⟨m11, e1, rfl⟩ | ⟨r1, m11, e1, e⟩
  · obtain ⟨rfl, rfl⟩ := tg
    exact sh_Lk_tV (k2 := 48) (a := 39) (as := [.ref 40, .int 91]) (rest := []) rfl rfl rfl (fun hT => (sh_s39 hT.st)) rfl rfl ⟨Nat.le_of_ble_eq_true rfl, Nat.le_of_ble_eq_true rfl⟩ (sl_48 e1 ⟨rfl, rfl⟩) rfl (show 10 + 1 ≤ d + 1 + 11 by omega) (show 8 + (2 + 11) + (242) ≤ 40 * (d + 1) + 263 by omega) (by omega) (by omega) rfl
  refine sh_Lk_cV (r := none) (st2 := []) (pc2 := 6) (k2 := 48) (a := 39) (as := [.ref 40, .int 91]) (rest := []) rfl rfl rfl (fun hT => (sh_s39 hT.st)) rfl rfl ⟨Nat.le_of_ble_eq_true rfl, Nat.le_of_ble_eq_true rfl⟩ (sl_48 e1 ⟨rfl, rfl⟩) rfl rfl (show 10 + 1 ≤ d + 1 + 11 by omega) (show 8 + (2 + 11) + (242) ≤ 40 * (d + 1) + 263 by omega) ?_
  refine sh_Lk_lift (T := m11.T) (I := m11.I) (J := m11.J) (s := m11.s) (pc2 := 15) (lv2 := [(2, .int (m11.I 39 4)), (0, .ref 40), (1, .int x1)]) (st2 := [.int (x1 + 1), .ref 40]) (I2 := m11.I) (J2 := m11.J) (fun hT v kk => ?_) ?_
  · refine sh_w (i := (.aload_n 0)) (len := 1) (pc2 := 7) (lv2 := [(0, .ref 40), (1, .int x1)]) (st2 := [.ref 40]) (h2 := (sh_rep m11.T m11.I m11.J)) rfl rfl rfl ?_
    refine sh_gI1 (len := 3) (x := m11.I 39 4) (pc2 := 10) rfl rfl (sh_s39 hT.st) rfl rfl rfl ?_
    refine sh_w (i := (.istore_n 2)) (len := 1) (pc2 := 11) (lv2 := [(2, .int (m11.I 39 4)), (0, .ref 40), (1, .int x1)]) (st2 := []) (h2 := (sh_rep m11.T m11.I m11.J)) rfl rfl rfl ?_
    refine sh_w (i := (.aload_n 0)) (len := 1) (pc2 := 12) (lv2 := [(2, .int (m11.I 39 4)), (0, .ref 40), (1, .int x1)]) (st2 := [.ref 40]) (h2 := (sh_rep m11.T m11.I m11.J)) rfl rfl rfl ?_
    refine sh_w (i := (.iload_n 1)) (len := 1) (pc2 := 13) (lv2 := [(2, .int (m11.I 39 4)), (0, .ref 40), (1, .int x1)]) (st2 := [.int x1, .ref 40]) (h2 := (sh_rep m11.T m11.I m11.J)) rfl rfl rfl ?_
    refine sh_w (i := (.iconst 1)) (len := 1) (pc2 := 14) (lv2 := [(2, .int (m11.I 39 4)), (0, .ref 40), (1, .int x1)]) (st2 := [.int 1, .int x1, .ref 40]) (h2 := (sh_rep m11.T m11.I m11.J)) rfl rfl rfl ?_
    refine sh_w (i := .iadd) (len := 1) (pc2 := 15) (lv2 := [(2, .int (m11.I 39 4)), (0, .ref 40), (1, .int x1)]) (st2 := [.int (x1 + 1), .ref 40]) (h2 := (sh_rep m11.T m11.I m11.J)) rfl rfl rfl ?_
    exact kk
  rcases sh_bt_e e with ⟨m12, e2, rfl⟩ | ⟨r2, m12, e2, e⟩
  · obtain ⟨rfl, rfl⟩ := tg
    exact sh_Lk_tV (k2 := 58) (a := 39) (as := [.ref 40, .int (x1 + 1)]) (rest := []) rfl rfl rfl (fun hT => (sh_s39 hT.st)) rfl rfl ⟨Nat.le_of_ble_eq_true rfl, Nat.le_of_ble_eq_true rfl⟩ (hQ.f58 e2 ⟨rfl, rfl⟩) rfl (show d + 11 + 1 ≤ d + 1 + 11 by omega) (show 8 + (4 + 11) + (40 * d + 263) ≤ 40 * (d + 1) + 263 by omega) (by omega) (by omega) rfl
  refine sh_Lk_cV (r := none) (st2 := []) (pc2 := 18) (k2 := 58) (a := 39) (as := [.ref 40, .int (x1 + 1)]) (rest := []) rfl rfl rfl (fun hT => (sh_s39 hT.st)) rfl rfl ⟨Nat.le_of_ble_eq_true rfl, Nat.le_of_ble_eq_true rfl⟩ (hQ.f58 e2 ⟨rfl, rfl⟩) rfl rfl (show d + 11 + 1 ≤ d + 1 + 11 by omega) (show 8 + (4 + 11) + (40 * d + 263) ≤ 40 * (d + 1) + 263 by omega) ?_
  refine sh_Lk_lift (T := m12.T) (I := m12.I) (J := m12.J) (s := m12.s) (pc2 := 26) (lv2 := [(2, .int (m11.I 39 4)), (0, .ref 40), (1, .int x1)]) (st2 := [.int 0, .int (m11.I 39 4), .int 29, .ref 29]) (I2 := m12.I) (J2 := m12.J) (fun hT v kk => ?_) ?_
  · refine sh_w (i := (.aload_n 0)) (len := 1) (pc2 := 19) (lv2 := [(2, .int (m11.I 39 4)), (0, .ref 40), (1, .int x1)]) (st2 := [.ref 40]) (h2 := (sh_rep m12.T m12.I m12.J)) rfl rfl rfl ?_
    refine sh_gR1 (len := 3) (x := .ref 29) (pc2 := 22) rfl rfl (sh_s39 hT.st) rfl rfl ?_
    refine sh_w (i := (.bipush 29)) (len := 2) (pc2 := 24) (lv2 := [(2, .int (m11.I 39 4)), (0, .ref 40), (1, .int x1)]) (st2 := [.int 29, .ref 29]) (h2 := (sh_rep m12.T m12.I m12.J)) rfl rfl rfl ?_
    refine sh_w (i := (.iload_n 2)) (len := 1) (pc2 := 25) (lv2 := [(2, .int (m11.I 39 4)), (0, .ref 40), (1, .int x1)]) (st2 := [.int (m11.I 39 4), .int 29, .ref 29]) (h2 := (sh_rep m12.T m12.I m12.J)) rfl rfl rfl ?_
    refine sh_w (i := (.iconst 0)) (len := 1) (pc2 := 26) (lv2 := [(2, .int (m11.I 39 4)), (0, .ref 40), (1, .int x1)]) (st2 := [.int 0, .int (m11.I 39 4), .int 29, .ref 29]) (h2 := (sh_rep m12.T m12.I m12.J)) rfl rfl rfl ?_
    exact kk
  obtain ⟨r3, m13, e3, e⟩ := sh_bn_e e
  refine sh_Lk_cV (r := (some (.int r3))) (st2 := [.int r3]) (pc2 := 29) (k2 := 56) (a := 28) (as := [.ref 29, .int 29, .int (m11.I 39 4), .int 0]) (rest := []) rfl rfl rfl (fun hT => (sh_s28 hT.st)) rfl rfl ⟨Nat.le_of_ble_eq_true rfl, Nat.le_of_ble_eq_true rfl⟩ (sl_56 e3 ⟨rfl, rfl⟩) rfl rfl (show 8 + 1 ≤ d + 1 + 11 by omega) (show 8 + (4 + 11) + (200) ≤ 40 * (d + 1) + 263 by omega) ?_
  refine sh_Lk_lift (T := m13.T) (I := m13.I) (J := m13.J) (s := m13.s) (pc2 := 33) (lv2 := [(2, .int (m11.I 39 4)), (0, .ref 40), (1, .int x1)]) (st2 := [.int 93, .ref 40]) (I2 := m13.I) (J2 := m13.J) (fun hT v kk => ?_) ?_
  · refine sh_w (i := .pop) (len := 1) (pc2 := 30) (lv2 := [(2, .int (m11.I 39 4)), (0, .ref 40), (1, .int x1)]) (st2 := []) (h2 := (sh_rep m13.T m13.I m13.J)) rfl rfl rfl ?_
    refine sh_w (i := (.aload_n 0)) (len := 1) (pc2 := 31) (lv2 := [(2, .int (m11.I 39 4)), (0, .ref 40), (1, .int x1)]) (st2 := [.ref 40]) (h2 := (sh_rep m13.T m13.I m13.J)) rfl rfl rfl ?_
    refine sh_w (i := (.bipush 93)) (len := 2) (pc2 := 33) (lv2 := [(2, .int (m11.I 39 4)), (0, .ref 40), (1, .int x1)]) (st2 := [.int 93, .ref 40]) (h2 := (sh_rep m13.T m13.I m13.J)) rfl rfl rfl ?_
    exact kk
  rcases sh_bt_e e with ⟨m14, e4, rfl⟩ | ⟨r4, m14, e4, e⟩
  · obtain ⟨rfl, rfl⟩ := tg
    exact sh_Lk_tV (k2 := 48) (a := 39) (as := [.ref 40, .int 93]) (rest := []) rfl rfl rfl (fun hT => (sh_s39 hT.st)) rfl rfl ⟨Nat.le_of_ble_eq_true rfl, Nat.le_of_ble_eq_true rfl⟩ (sl_48 e4 ⟨rfl, rfl⟩) rfl (show 10 + 1 ≤ d + 1 + 11 by omega) (show 8 + (2 + 11) + (242) ≤ 40 * (d + 1) + 263 by omega) (by omega) (by omega) rfl
  refine sh_Lk_cV (r := none) (st2 := []) (pc2 := 36) (k2 := 48) (a := 39) (as := [.ref 40, .int 93]) (rest := []) rfl rfl rfl (fun hT => (sh_s39 hT.st)) rfl rfl ⟨Nat.le_of_ble_eq_true rfl, Nat.le_of_ble_eq_true rfl⟩ (sl_48 e4 ⟨rfl, rfl⟩) rfl rfl (show 10 + 1 ≤ d + 1 + 11 by omega) (show 8 + (2 + 11) + (242) ≤ 40 * (d + 1) + 263 by omega) ?_
  obtain rfl := Option.some.inj e
  obtain ⟨rfl, rfl⟩ := tg
  exact sh_Lk_ret (i := .return_) rfl rfl rfl (by omega) (by omega)
theorem sq_44_l : ∀ d, sh_QL44 (sq_44 d) d
  | 0 => ⟨(fun h _ => by cases h), (fun h _ => by cases h), (fun h _ => by cases h), (fun h _ => by cases h), (fun h _ => by cases h), (fun h _ => by cases h), (fun h _ => by cases h)⟩
  | d + 1 => ⟨(fun h t => sl_58 (sq_44_l d) h t), (fun h t => sl_59 (sq_44_l d) h t), (fun h t => sl_61 (sq_44_l d) h t), (fun h t => sl_62 (sq_44_l d) h t), (fun h t => sl_65 (sq_44_l d) h t), (fun h t => sl_67 (sq_44_l d) h t), (fun h t => sl_68 (sq_44_l d) h t)⟩
theorem sl_57 {x1 : Int32} {m m2 : sh_X} {o : Outcome} {z : (Option Unit × sh_X)} (e : sf_57 x1 m = some z) (tg : (sh_tVt o m2) z) : sh_Lk 57 0 [(0, .ref 40), (1, .int x1)] [] m o m2 1012 40286 := by
  unfold sf_57 at e
  refine sh_Lk_lift (T := m.T) (I := m.I) (J := m.J) (s := m.s) (pc2 := 17) (lv2 := [(2, .int ((m.I 39 4) + 1)), (0, .ref 40), (1, .int x1)]) (st2 := [.int 1, .ref 40]) (I2 := sh_u2 m.I 39 4 ((m.I 39 4) + 1)) (J2 := m.J) (fun hT v kk => ?_) ?_
  · refine sh_w (i := (.aload_n 0)) (len := 1) (pc2 := 1) (lv2 := [(0, .ref 40), (1, .int x1)]) (st2 := [.ref 40]) (h2 := (sh_rep m.T m.I m.J)) rfl rfl rfl ?_
    refine sh_w (i := .dup) (len := 1) (pc2 := 2) (lv2 := [(0, .ref 40), (1, .int x1)]) (st2 := [.ref 40, .ref 40]) (h2 := (sh_rep m.T m.I m.J)) rfl rfl rfl ?_
    refine sh_gI1 (len := 3) (x := m.I 39 4) (pc2 := 5) rfl rfl (sh_s39 hT.st) rfl rfl rfl ?_
    refine sh_w (i := (.iconst 1)) (len := 1) (pc2 := 6) (lv2 := [(0, .ref 40), (1, .int x1)]) (st2 := [.int 1, .int (m.I 39 4), .ref 40]) (h2 := (sh_rep m.T m.I m.J)) rfl rfl rfl ?_
    refine sh_w (i := .iadd) (len := 1) (pc2 := 7) (lv2 := [(0, .ref 40), (1, .int x1)]) (st2 := [.int ((m.I 39 4) + 1), .ref 40]) (h2 := (sh_rep m.T m.I m.J)) rfl rfl rfl ?_
    refine sh_pI1 (x := (m.I 39 4) + 1) (pc2 := 10) rfl rfl (sh_s39 hT.st) rfl rfl rfl rfl ?_
    refine sh_w (i := (.aload_n 0)) (len := 1) (pc2 := 11) (lv2 := [(0, .ref 40), (1, .int x1)]) (st2 := [.ref 40]) (h2 := (sh_rep m.T (sh_u2 m.I 39 4 ((m.I 39 4) + 1)) m.J)) rfl rfl rfl ?_
    refine sh_gI1 (len := 3) (x := (m.I 39 4) + 1) (pc2 := 14) rfl rfl (sh_s39 hT.st) rfl rfl rfl ?_
    refine sh_w (i := (.istore_n 2)) (len := 1) (pc2 := 15) (lv2 := [(2, .int ((m.I 39 4) + 1)), (0, .ref 40), (1, .int x1)]) (st2 := []) (h2 := (sh_rep m.T (sh_u2 m.I 39 4 ((m.I 39 4) + 1)) m.J)) rfl rfl rfl ?_
    refine sh_w (i := (.aload_n 0)) (len := 1) (pc2 := 16) (lv2 := [(2, .int ((m.I 39 4) + 1)), (0, .ref 40), (1, .int x1)]) (st2 := [.ref 40]) (h2 := (sh_rep m.T (sh_u2 m.I 39 4 ((m.I 39 4) + 1)) m.J)) rfl rfl rfl ?_
    refine sh_w (i := (.iconst 1)) (len := 1) (pc2 := 17) (lv2 := [(2, .int ((m.I 39 4) + 1)), (0, .ref 40), (1, .int x1)]) (st2 := [.int 1, .ref 40]) (h2 := (sh_rep m.T (sh_u2 m.I 39 4 ((m.I 39 4) + 1)) m.J)) rfl rfl rfl ?_
    exact kk
  rcases sh_bt_e e with ⟨m11, e1, rfl⟩ | ⟨r1, m11, e1, e⟩
  · obtain ⟨rfl, rfl⟩ := tg
    exact sh_Lk_tV (k2 := 48) (a := 39) (as := [.ref 40, .int 1]) (rest := []) rfl rfl rfl (fun hT => (sh_s39 hT.st)) rfl rfl ⟨Nat.le_of_ble_eq_true rfl, Nat.le_of_ble_eq_true rfl⟩ (sl_48 e1 ⟨rfl, rfl⟩) rfl (Nat.le_of_ble_eq_true rfl) (Nat.le_of_ble_eq_true rfl) (Nat.le_of_ble_eq_true rfl) (Nat.le_of_ble_eq_true rfl) rfl
  refine sh_Lk_cV (r := none) (st2 := []) (pc2 := 20) (k2 := 48) (a := 39) (as := [.ref 40, .int 1]) (rest := []) rfl rfl rfl (fun hT => (sh_s39 hT.st)) rfl rfl ⟨Nat.le_of_ble_eq_true rfl, Nat.le_of_ble_eq_true rfl⟩ (sl_48 e1 ⟨rfl, rfl⟩) rfl rfl (Nat.le_of_ble_eq_true rfl) (Nat.le_of_ble_eq_true rfl) ?_
  refine sh_Lk_lift (T := m11.T) (I := m11.I) (J := m11.J) (s := m11.s) (pc2 := 23) (lv2 := [(2, .int ((m.I 39 4) + 1)), (0, .ref 40), (1, .int x1)]) (st2 := [.int 61, .ref 40]) (I2 := m11.I) (J2 := m11.J) (fun hT v kk => ?_) ?_
  · refine sh_w (i := (.aload_n 0)) (len := 1) (pc2 := 21) (lv2 := [(2, .int ((m.I 39 4) + 1)), (0, .ref 40), (1, .int x1)]) (st2 := [.ref 40]) (h2 := (sh_rep m11.T m11.I m11.J)) rfl rfl rfl ?_
    refine sh_w (i := (.bipush 61)) (len := 2) (pc2 := 23) (lv2 := [(2, .int ((m.I 39 4) + 1)), (0, .ref 40), (1, .int x1)]) (st2 := [.int 61, .ref 40]) (h2 := (sh_rep m11.T m11.I m11.J)) rfl rfl rfl ?_
    exact kk
  rcases sh_bt_e e with ⟨m12, e2, rfl⟩ | ⟨r2, m12, e2, e⟩
  · obtain ⟨rfl, rfl⟩ := tg
    exact sh_Lk_tV (k2 := 48) (a := 39) (as := [.ref 40, .int 61]) (rest := []) rfl rfl rfl (fun hT => (sh_s39 hT.st)) rfl rfl ⟨Nat.le_of_ble_eq_true rfl, Nat.le_of_ble_eq_true rfl⟩ (sl_48 e2 ⟨rfl, rfl⟩) rfl (Nat.le_of_ble_eq_true rfl) (Nat.le_of_ble_eq_true rfl) (Nat.le_of_ble_eq_true rfl) (Nat.le_of_ble_eq_true rfl) rfl
  refine sh_Lk_cV (r := none) (st2 := []) (pc2 := 26) (k2 := 48) (a := 39) (as := [.ref 40, .int 61]) (rest := []) rfl rfl rfl (fun hT => (sh_s39 hT.st)) rfl rfl ⟨Nat.le_of_ble_eq_true rfl, Nat.le_of_ble_eq_true rfl⟩ (sl_48 e2 ⟨rfl, rfl⟩) rfl rfl (Nat.le_of_ble_eq_true rfl) (Nat.le_of_ble_eq_true rfl) ?_
  refine sh_Lk_lift (T := m12.T) (I := m12.I) (J := m12.J) (s := m12.s) (pc2 := 28) (lv2 := [(2, .int ((m.I 39 4) + 1)), (0, .ref 40), (1, .int x1)]) (st2 := [.int x1, .ref 40]) (I2 := m12.I) (J2 := m12.J) (fun hT v kk => ?_) ?_
  · refine sh_w (i := (.aload_n 0)) (len := 1) (pc2 := 27) (lv2 := [(2, .int ((m.I 39 4) + 1)), (0, .ref 40), (1, .int x1)]) (st2 := [.ref 40]) (h2 := (sh_rep m12.T m12.I m12.J)) rfl rfl rfl ?_
    refine sh_w (i := (.iload_n 1)) (len := 1) (pc2 := 28) (lv2 := [(2, .int ((m.I 39 4) + 1)), (0, .ref 40), (1, .int x1)]) (st2 := [.int x1, .ref 40]) (h2 := (sh_rep m12.T m12.I m12.J)) rfl rfl rfl ?_
    exact kk
  rcases sh_bt_e e with ⟨m13, e3, rfl⟩ | ⟨r3, m13, e3, e⟩
  · obtain ⟨rfl, rfl⟩ := tg
    exact sh_Lk_tV (k2 := 58) (a := 39) (as := [.ref 40, .int x1]) (rest := []) rfl rfl rfl (fun hT => (sh_s39 hT.st)) rfl rfl ⟨Nat.le_of_ble_eq_true rfl, Nat.le_of_ble_eq_true rfl⟩ ((sq_44_l sh_dp).f58 e3 ⟨rfl, rfl⟩) rfl (Nat.le_of_ble_eq_true rfl) (Nat.le_of_ble_eq_true rfl) (Nat.le_of_ble_eq_true rfl) (Nat.le_of_ble_eq_true rfl) rfl
  refine sh_Lk_cV (r := none) (st2 := []) (pc2 := 31) (k2 := 58) (a := 39) (as := [.ref 40, .int x1]) (rest := []) rfl rfl rfl (fun hT => (sh_s39 hT.st)) rfl rfl ⟨Nat.le_of_ble_eq_true rfl, Nat.le_of_ble_eq_true rfl⟩ ((sq_44_l sh_dp).f58 e3 ⟨rfl, rfl⟩) rfl rfl (Nat.le_of_ble_eq_true rfl) (Nat.le_of_ble_eq_true rfl) ?_
  refine sh_Lk_lift (T := m13.T) (I := m13.I) (J := m13.J) (s := m13.s) (pc2 := 34) (lv2 := [(2, .int ((m.I 39 4) + 1)), (0, .ref 40), (1, .int x1)]) (st2 := [.int 59, .ref 40]) (I2 := m13.I) (J2 := m13.J) (fun hT v kk => ?_) ?_
  · refine sh_w (i := (.aload_n 0)) (len := 1) (pc2 := 32) (lv2 := [(2, .int ((m.I 39 4) + 1)), (0, .ref 40), (1, .int x1)]) (st2 := [.ref 40]) (h2 := (sh_rep m13.T m13.I m13.J)) rfl rfl rfl ?_
    refine sh_w (i := (.bipush 59)) (len := 2) (pc2 := 34) (lv2 := [(2, .int ((m.I 39 4) + 1)), (0, .ref 40), (1, .int x1)]) (st2 := [.int 59, .ref 40]) (h2 := (sh_rep m13.T m13.I m13.J)) rfl rfl rfl ?_
    exact kk
  rcases sh_bt_e e with ⟨m14, e4, rfl⟩ | ⟨r4, m14, e4, e⟩
  · obtain ⟨rfl, rfl⟩ := tg
    exact sh_Lk_tV (k2 := 48) (a := 39) (as := [.ref 40, .int 59]) (rest := []) rfl rfl rfl (fun hT => (sh_s39 hT.st)) rfl rfl ⟨Nat.le_of_ble_eq_true rfl, Nat.le_of_ble_eq_true rfl⟩ (sl_48 e4 ⟨rfl, rfl⟩) rfl (Nat.le_of_ble_eq_true rfl) (Nat.le_of_ble_eq_true rfl) (Nat.le_of_ble_eq_true rfl) (Nat.le_of_ble_eq_true rfl) rfl
  refine sh_Lk_cV (r := none) (st2 := []) (pc2 := 37) (k2 := 48) (a := 39) (as := [.ref 40, .int 59]) (rest := []) rfl rfl rfl (fun hT => (sh_s39 hT.st)) rfl rfl ⟨Nat.le_of_ble_eq_true rfl, Nat.le_of_ble_eq_true rfl⟩ (sl_48 e4 ⟨rfl, rfl⟩) rfl rfl (Nat.le_of_ble_eq_true rfl) (Nat.le_of_ble_eq_true rfl) ?_
  refine sh_Lk_lift (T := m14.T) (I := m14.I) (J := m14.J) (s := m14.s) (pc2 := 44) (lv2 := [(2, .int ((m.I 39 4) + 1)), (0, .ref 40), (1, .int x1)]) (st2 := [.int 0, .int ((m.I 39 4) + 1), .int 2, .ref 29]) (I2 := m14.I) (J2 := m14.J) (fun hT v kk => ?_) ?_
  · refine sh_w (i := (.aload_n 0)) (len := 1) (pc2 := 38) (lv2 := [(2, .int ((m.I 39 4) + 1)), (0, .ref 40), (1, .int x1)]) (st2 := [.ref 40]) (h2 := (sh_rep m14.T m14.I m14.J)) rfl rfl rfl ?_
    refine sh_gR1 (len := 3) (x := .ref 29) (pc2 := 41) rfl rfl (sh_s39 hT.st) rfl rfl ?_
    refine sh_w (i := (.iconst 2)) (len := 1) (pc2 := 42) (lv2 := [(2, .int ((m.I 39 4) + 1)), (0, .ref 40), (1, .int x1)]) (st2 := [.int 2, .ref 29]) (h2 := (sh_rep m14.T m14.I m14.J)) rfl rfl rfl ?_
    refine sh_w (i := (.iload_n 2)) (len := 1) (pc2 := 43) (lv2 := [(2, .int ((m.I 39 4) + 1)), (0, .ref 40), (1, .int x1)]) (st2 := [.int ((m.I 39 4) + 1), .int 2, .ref 29]) (h2 := (sh_rep m14.T m14.I m14.J)) rfl rfl rfl ?_
    refine sh_w (i := (.iconst 0)) (len := 1) (pc2 := 44) (lv2 := [(2, .int ((m.I 39 4) + 1)), (0, .ref 40), (1, .int x1)]) (st2 := [.int 0, .int ((m.I 39 4) + 1), .int 2, .ref 29]) (h2 := (sh_rep m14.T m14.I m14.J)) rfl rfl rfl ?_
    exact kk
  obtain ⟨r5, m15, e5, e⟩ := sh_bn_e e
  refine sh_Lk_cV (r := (some (.int r5))) (st2 := [.int r5]) (pc2 := 47) (k2 := 56) (a := 28) (as := [.ref 29, .int 2, .int ((m.I 39 4) + 1), .int 0]) (rest := []) rfl rfl rfl (fun hT => (sh_s28 hT.st)) rfl rfl ⟨Nat.le_of_ble_eq_true rfl, Nat.le_of_ble_eq_true rfl⟩ (sl_56 e5 ⟨rfl, rfl⟩) rfl rfl (Nat.le_of_ble_eq_true rfl) (Nat.le_of_ble_eq_true rfl) ?_
  refine sh_Lk_lift (T := m15.T) (I := m15.I) (J := m15.J) (s := m15.s) (pc2 := 48) (lv2 := [(2, .int ((m.I 39 4) + 1)), (0, .ref 40), (1, .int x1)]) (st2 := []) (I2 := m15.I) (J2 := m15.J) (fun hT v kk => ?_) ?_
  · refine sh_w (i := .pop) (len := 1) (pc2 := 48) (lv2 := [(2, .int ((m.I 39 4) + 1)), (0, .ref 40), (1, .int x1)]) (st2 := []) (h2 := (sh_rep m15.T m15.I m15.J)) rfl rfl rfl ?_
    exact kk
  obtain rfl := Option.some.inj e
  obtain ⟨rfl, rfl⟩ := tg
  exact sh_Lk_ret (i := .return_) rfl rfl rfl (Nat.le_of_ble_eq_true rfl) (Nat.le_of_ble_eq_true rfl)
theorem sl_74 {x1 : Int32} {m m2 : sh_X} {o : Outcome} {z : (Option Unit × sh_X)} (e : sf_74 x1 m = some z) (tg : (sh_tVt o m2) z) : sh_Lk 74 0 [(0, .ref 40), (1, .int x1)] [] m o m2 1012 40286 := by
  unfold sf_74 at e
  refine sh_Lk_lift (T := m.T) (I := m.I) (J := m.J) (s := m.s) (pc2 := 13) (lv2 := [(2, .int (m.I 39 4)), (0, .ref 40), (1, .int x1)]) (st2 := [.int 0, .int (m.I 39 4), .int 12, .ref 29]) (I2 := m.I) (J2 := m.J) (fun hT v kk => ?_) ?_
  · refine sh_w (i := (.aload_n 0)) (len := 1) (pc2 := 1) (lv2 := [(0, .ref 40), (1, .int x1)]) (st2 := [.ref 40]) (h2 := (sh_rep m.T m.I m.J)) rfl rfl rfl ?_
    refine sh_gI1 (len := 3) (x := m.I 39 4) (pc2 := 4) rfl rfl (sh_s39 hT.st) rfl rfl rfl ?_
    refine sh_w (i := (.istore_n 2)) (len := 1) (pc2 := 5) (lv2 := [(2, .int (m.I 39 4)), (0, .ref 40), (1, .int x1)]) (st2 := []) (h2 := (sh_rep m.T m.I m.J)) rfl rfl rfl ?_
    refine sh_w (i := (.aload_n 0)) (len := 1) (pc2 := 6) (lv2 := [(2, .int (m.I 39 4)), (0, .ref 40), (1, .int x1)]) (st2 := [.ref 40]) (h2 := (sh_rep m.T m.I m.J)) rfl rfl rfl ?_
    refine sh_gR1 (len := 3) (x := .ref 29) (pc2 := 9) rfl rfl (sh_s39 hT.st) rfl rfl ?_
    refine sh_w (i := (.bipush 12)) (len := 2) (pc2 := 11) (lv2 := [(2, .int (m.I 39 4)), (0, .ref 40), (1, .int x1)]) (st2 := [.int 12, .ref 29]) (h2 := (sh_rep m.T m.I m.J)) rfl rfl rfl ?_
    refine sh_w (i := (.iload_n 2)) (len := 1) (pc2 := 12) (lv2 := [(2, .int (m.I 39 4)), (0, .ref 40), (1, .int x1)]) (st2 := [.int (m.I 39 4), .int 12, .ref 29]) (h2 := (sh_rep m.T m.I m.J)) rfl rfl rfl ?_
    refine sh_w (i := (.iconst 0)) (len := 1) (pc2 := 13) (lv2 := [(2, .int (m.I 39 4)), (0, .ref 40), (1, .int x1)]) (st2 := [.int 0, .int (m.I 39 4), .int 12, .ref 29]) (h2 := (sh_rep m.T m.I m.J)) rfl rfl rfl ?_
    exact kk
  obtain ⟨r1, m11, e1, e⟩ := sh_bn_e e
  refine sh_Lk_cV (r := (some (.int r1))) (st2 := [.int r1]) (pc2 := 16) (k2 := 56) (a := 28) (as := [.ref 29, .int 12, .int (m.I 39 4), .int 0]) (rest := []) rfl rfl rfl (fun hT => (sh_s28 hT.st)) rfl rfl ⟨Nat.le_of_ble_eq_true rfl, Nat.le_of_ble_eq_true rfl⟩ (sl_56 e1 ⟨rfl, rfl⟩) rfl rfl (Nat.le_of_ble_eq_true rfl) (Nat.le_of_ble_eq_true rfl) ?_
  refine sh_Lk_lift (T := m11.T) (I := m11.I) (J := m11.J) (s := m11.s) (pc2 := 29) (lv2 := [(2, .int (m.I 39 4)), (0, .ref 40), (1, .int x1)]) (st2 := [.int x1, .ref 40]) (I2 := sh_u2 m11.I 39 4 ((m11.I 39 4) + 1)) (J2 := m11.J) (fun hT v kk => ?_) ?_
  · refine sh_w (i := .pop) (len := 1) (pc2 := 17) (lv2 := [(2, .int (m.I 39 4)), (0, .ref 40), (1, .int x1)]) (st2 := []) (h2 := (sh_rep m11.T m11.I m11.J)) rfl rfl rfl ?_
    refine sh_w (i := (.aload_n 0)) (len := 1) (pc2 := 18) (lv2 := [(2, .int (m.I 39 4)), (0, .ref 40), (1, .int x1)]) (st2 := [.ref 40]) (h2 := (sh_rep m11.T m11.I m11.J)) rfl rfl rfl ?_
    refine sh_w (i := .dup) (len := 1) (pc2 := 19) (lv2 := [(2, .int (m.I 39 4)), (0, .ref 40), (1, .int x1)]) (st2 := [.ref 40, .ref 40]) (h2 := (sh_rep m11.T m11.I m11.J)) rfl rfl rfl ?_
    refine sh_gI1 (len := 3) (x := m11.I 39 4) (pc2 := 22) rfl rfl (sh_s39 hT.st) rfl rfl rfl ?_
    refine sh_w (i := (.iconst 1)) (len := 1) (pc2 := 23) (lv2 := [(2, .int (m.I 39 4)), (0, .ref 40), (1, .int x1)]) (st2 := [.int 1, .int (m11.I 39 4), .ref 40]) (h2 := (sh_rep m11.T m11.I m11.J)) rfl rfl rfl ?_
    refine sh_w (i := .iadd) (len := 1) (pc2 := 24) (lv2 := [(2, .int (m.I 39 4)), (0, .ref 40), (1, .int x1)]) (st2 := [.int ((m11.I 39 4) + 1), .ref 40]) (h2 := (sh_rep m11.T m11.I m11.J)) rfl rfl rfl ?_
    refine sh_pI1 (x := (m11.I 39 4) + 1) (pc2 := 27) rfl rfl (sh_s39 hT.st) rfl rfl rfl rfl ?_
    refine sh_w (i := (.aload_n 0)) (len := 1) (pc2 := 28) (lv2 := [(2, .int (m.I 39 4)), (0, .ref 40), (1, .int x1)]) (st2 := [.ref 40]) (h2 := (sh_rep m11.T (sh_u2 m11.I 39 4 ((m11.I 39 4) + 1)) m11.J)) rfl rfl rfl ?_
    refine sh_w (i := (.iload_n 1)) (len := 1) (pc2 := 29) (lv2 := [(2, .int (m.I 39 4)), (0, .ref 40), (1, .int x1)]) (st2 := [.int x1, .ref 40]) (h2 := (sh_rep m11.T (sh_u2 m11.I 39 4 ((m11.I 39 4) + 1)) m11.J)) rfl rfl rfl ?_
    exact kk
  rcases sh_bt_e e with ⟨m12, e2, rfl⟩ | ⟨r2, m12, e2, e⟩
  · obtain ⟨rfl, rfl⟩ := tg
    exact sh_Lk_tV (k2 := 58) (a := 39) (as := [.ref 40, .int x1]) (rest := []) rfl rfl rfl (fun hT => (sh_s39 hT.st)) rfl rfl ⟨Nat.le_of_ble_eq_true rfl, Nat.le_of_ble_eq_true rfl⟩ ((sq_44_l sh_dp).f58 e2 ⟨rfl, rfl⟩) rfl (Nat.le_of_ble_eq_true rfl) (Nat.le_of_ble_eq_true rfl) (Nat.le_of_ble_eq_true rfl) (Nat.le_of_ble_eq_true rfl) rfl
  refine sh_Lk_cV (r := none) (st2 := []) (pc2 := 32) (k2 := 58) (a := 39) (as := [.ref 40, .int x1]) (rest := []) rfl rfl rfl (fun hT => (sh_s39 hT.st)) rfl rfl ⟨Nat.le_of_ble_eq_true rfl, Nat.le_of_ble_eq_true rfl⟩ ((sq_44_l sh_dp).f58 e2 ⟨rfl, rfl⟩) rfl rfl (Nat.le_of_ble_eq_true rfl) (Nat.le_of_ble_eq_true rfl) ?_
  refine sh_Lk_lift (T := m12.T) (I := m12.I) (J := m12.J) (s := m12.s) (pc2 := 35) (lv2 := [(2, .int (m.I 39 4)), (0, .ref 40), (1, .int x1)]) (st2 := [.int 59, .ref 40]) (I2 := m12.I) (J2 := m12.J) (fun hT v kk => ?_) ?_
  · refine sh_w (i := (.aload_n 0)) (len := 1) (pc2 := 33) (lv2 := [(2, .int (m.I 39 4)), (0, .ref 40), (1, .int x1)]) (st2 := [.ref 40]) (h2 := (sh_rep m12.T m12.I m12.J)) rfl rfl rfl ?_
    refine sh_w (i := (.bipush 59)) (len := 2) (pc2 := 35) (lv2 := [(2, .int (m.I 39 4)), (0, .ref 40), (1, .int x1)]) (st2 := [.int 59, .ref 40]) (h2 := (sh_rep m12.T m12.I m12.J)) rfl rfl rfl ?_
    exact kk
  rcases sh_bt_e e with ⟨m13, e3, rfl⟩ | ⟨r3, m13, e3, e⟩
  · obtain ⟨rfl, rfl⟩ := tg
    exact sh_Lk_tV (k2 := 48) (a := 39) (as := [.ref 40, .int 59]) (rest := []) rfl rfl rfl (fun hT => (sh_s39 hT.st)) rfl rfl ⟨Nat.le_of_ble_eq_true rfl, Nat.le_of_ble_eq_true rfl⟩ (sl_48 e3 ⟨rfl, rfl⟩) rfl (Nat.le_of_ble_eq_true rfl) (Nat.le_of_ble_eq_true rfl) (Nat.le_of_ble_eq_true rfl) (Nat.le_of_ble_eq_true rfl) rfl
  refine sh_Lk_cV (r := none) (st2 := []) (pc2 := 38) (k2 := 48) (a := 39) (as := [.ref 40, .int 59]) (rest := []) rfl rfl rfl (fun hT => (sh_s39 hT.st)) rfl rfl ⟨Nat.le_of_ble_eq_true rfl, Nat.le_of_ble_eq_true rfl⟩ (sl_48 e3 ⟨rfl, rfl⟩) rfl rfl (Nat.le_of_ble_eq_true rfl) (Nat.le_of_ble_eq_true rfl) ?_
  refine sh_Lk_lift (T := m13.T) (I := m13.I) (J := m13.J) (s := m13.s) (pc2 := 46) (lv2 := [(2, .int (m.I 39 4)), (0, .ref 40), (1, .int x1)]) (st2 := [.int 0, .int (m.I 39 4), .int 13, .ref 29]) (I2 := m13.I) (J2 := m13.J) (fun hT v kk => ?_) ?_
  · refine sh_w (i := (.aload_n 0)) (len := 1) (pc2 := 39) (lv2 := [(2, .int (m.I 39 4)), (0, .ref 40), (1, .int x1)]) (st2 := [.ref 40]) (h2 := (sh_rep m13.T m13.I m13.J)) rfl rfl rfl ?_
    refine sh_gR1 (len := 3) (x := .ref 29) (pc2 := 42) rfl rfl (sh_s39 hT.st) rfl rfl ?_
    refine sh_w (i := (.bipush 13)) (len := 2) (pc2 := 44) (lv2 := [(2, .int (m.I 39 4)), (0, .ref 40), (1, .int x1)]) (st2 := [.int 13, .ref 29]) (h2 := (sh_rep m13.T m13.I m13.J)) rfl rfl rfl ?_
    refine sh_w (i := (.iload_n 2)) (len := 1) (pc2 := 45) (lv2 := [(2, .int (m.I 39 4)), (0, .ref 40), (1, .int x1)]) (st2 := [.int (m.I 39 4), .int 13, .ref 29]) (h2 := (sh_rep m13.T m13.I m13.J)) rfl rfl rfl ?_
    refine sh_w (i := (.iconst 0)) (len := 1) (pc2 := 46) (lv2 := [(2, .int (m.I 39 4)), (0, .ref 40), (1, .int x1)]) (st2 := [.int 0, .int (m.I 39 4), .int 13, .ref 29]) (h2 := (sh_rep m13.T m13.I m13.J)) rfl rfl rfl ?_
    exact kk
  obtain ⟨r4, m14, e4, e⟩ := sh_bn_e e
  refine sh_Lk_cV (r := (some (.int r4))) (st2 := [.int r4]) (pc2 := 49) (k2 := 56) (a := 28) (as := [.ref 29, .int 13, .int (m.I 39 4), .int 0]) (rest := []) rfl rfl rfl (fun hT => (sh_s28 hT.st)) rfl rfl ⟨Nat.le_of_ble_eq_true rfl, Nat.le_of_ble_eq_true rfl⟩ (sl_56 e4 ⟨rfl, rfl⟩) rfl rfl (Nat.le_of_ble_eq_true rfl) (Nat.le_of_ble_eq_true rfl) ?_
  refine sh_Lk_lift (T := m14.T) (I := m14.I) (J := m14.J) (s := m14.s) (pc2 := 50) (lv2 := [(2, .int (m.I 39 4)), (0, .ref 40), (1, .int x1)]) (st2 := []) (I2 := m14.I) (J2 := m14.J) (fun hT v kk => ?_) ?_
  · refine sh_w (i := .pop) (len := 1) (pc2 := 50) (lv2 := [(2, .int (m.I 39 4)), (0, .ref 40), (1, .int x1)]) (st2 := []) (h2 := (sh_rep m14.T m14.I m14.J)) rfl rfl rfl ?_
    exact kk
  obtain rfl := Option.some.inj e
  obtain ⟨rfl, rfl⟩ := tg
  exact sh_Lk_ret (i := .return_) rfl rfl rfl (Nat.le_of_ble_eq_true rfl) (Nat.le_of_ble_eq_true rfl)
theorem sl_75_54 {x1 : Int32} {x2 : Int32} {x3 : Int32} {m m2 : sh_X} {o : Outcome} {z : (Option Unit × sh_X)} (e : sf_75_54 x1 x2 x3 m = some z) (tg : (sh_tVt o m2) z) : sh_Lk 75 54 [(0, .ref 40), (1, .int x1), (2, .int x2), (3, .int x3)] [] m o m2 1012 40286 := by
  unfold sf_75_54 at e
  refine sh_Lk_lift (T := m.T) (I := m.I) (J := m.J) (s := m.s) (pc2 := 57) (lv2 := [(0, .ref 40), (1, .int x1), (2, .int x2), (3, .int x3)]) (st2 := [.int 61, .ref 40]) (I2 := m.I) (J2 := m.J) (fun hT v kk => ?_) ?_
  · refine sh_w (i := (.aload_n 0)) (len := 1) (pc2 := 55) (lv2 := [(0, .ref 40), (1, .int x1), (2, .int x2), (3, .int x3)]) (st2 := [.ref 40]) (h2 := (sh_rep m.T m.I m.J)) rfl rfl rfl ?_
    refine sh_w (i := (.bipush 61)) (len := 2) (pc2 := 57) (lv2 := [(0, .ref 40), (1, .int x1), (2, .int x2), (3, .int x3)]) (st2 := [.int 61, .ref 40]) (h2 := (sh_rep m.T m.I m.J)) rfl rfl rfl ?_
    exact kk
  rcases sh_bt_e e with ⟨m11, e1, rfl⟩ | ⟨r1, m11, e1, e⟩
  · obtain ⟨rfl, rfl⟩ := tg
    exact sh_Lk_tV (k2 := 48) (a := 39) (as := [.ref 40, .int 61]) (rest := []) rfl rfl rfl (fun hT => (sh_s39 hT.st)) rfl rfl ⟨Nat.le_of_ble_eq_true rfl, Nat.le_of_ble_eq_true rfl⟩ (sl_48 e1 ⟨rfl, rfl⟩) rfl (Nat.le_of_ble_eq_true rfl) (Nat.le_of_ble_eq_true rfl) (Nat.le_of_ble_eq_true rfl) (Nat.le_of_ble_eq_true rfl) rfl
  refine sh_Lk_cV (r := none) (st2 := []) (pc2 := 60) (k2 := 48) (a := 39) (as := [.ref 40, .int 61]) (rest := []) rfl rfl rfl (fun hT => (sh_s39 hT.st)) rfl rfl ⟨Nat.le_of_ble_eq_true rfl, Nat.le_of_ble_eq_true rfl⟩ (sl_48 e1 ⟨rfl, rfl⟩) rfl rfl (Nat.le_of_ble_eq_true rfl) (Nat.le_of_ble_eq_true rfl) ?_
  refine sh_Lk_lift (T := m11.T) (I := m11.I) (J := m11.J) (s := m11.s) (pc2 := 68) (lv2 := [(4, .int (m11.I 39 4)), (0, .ref 40), (1, .int x1), (2, .int x2), (3, .int x3)]) (st2 := [.int x1, .ref 40]) (I2 := m11.I) (J2 := m11.J) (fun hT v kk => ?_) ?_
  · refine sh_w (i := (.aload_n 0)) (len := 1) (pc2 := 61) (lv2 := [(0, .ref 40), (1, .int x1), (2, .int x2), (3, .int x3)]) (st2 := [.ref 40]) (h2 := (sh_rep m11.T m11.I m11.J)) rfl rfl rfl ?_
    refine sh_gI1 (len := 3) (x := m11.I 39 4) (pc2 := 64) rfl rfl (sh_s39 hT.st) rfl rfl rfl ?_
    refine sh_w (i := (.istore 4)) (len := 2) (pc2 := 66) (lv2 := [(4, .int (m11.I 39 4)), (0, .ref 40), (1, .int x1), (2, .int x2), (3, .int x3)]) (st2 := []) (h2 := (sh_rep m11.T m11.I m11.J)) rfl rfl rfl ?_
    refine sh_w (i := (.aload_n 0)) (len := 1) (pc2 := 67) (lv2 := [(4, .int (m11.I 39 4)), (0, .ref 40), (1, .int x1), (2, .int x2), (3, .int x3)]) (st2 := [.ref 40]) (h2 := (sh_rep m11.T m11.I m11.J)) rfl rfl rfl ?_
    refine sh_w (i := (.iload_n 1)) (len := 1) (pc2 := 68) (lv2 := [(4, .int (m11.I 39 4)), (0, .ref 40), (1, .int x1), (2, .int x2), (3, .int x3)]) (st2 := [.int x1, .ref 40]) (h2 := (sh_rep m11.T m11.I m11.J)) rfl rfl rfl ?_
    exact kk
  rcases sh_bt_e e with ⟨m12, e2, rfl⟩ | ⟨r2, m12, e2, e⟩
  · obtain ⟨rfl, rfl⟩ := tg
    exact sh_Lk_tV (k2 := 58) (a := 39) (as := [.ref 40, .int x1]) (rest := []) rfl rfl rfl (fun hT => (sh_s39 hT.st)) rfl rfl ⟨Nat.le_of_ble_eq_true rfl, Nat.le_of_ble_eq_true rfl⟩ ((sq_44_l sh_dp).f58 e2 ⟨rfl, rfl⟩) rfl (Nat.le_of_ble_eq_true rfl) (Nat.le_of_ble_eq_true rfl) (Nat.le_of_ble_eq_true rfl) (Nat.le_of_ble_eq_true rfl) rfl
  refine sh_Lk_cV (r := none) (st2 := []) (pc2 := 71) (k2 := 58) (a := 39) (as := [.ref 40, .int x1]) (rest := []) rfl rfl rfl (fun hT => (sh_s39 hT.st)) rfl rfl ⟨Nat.le_of_ble_eq_true rfl, Nat.le_of_ble_eq_true rfl⟩ ((sq_44_l sh_dp).f58 e2 ⟨rfl, rfl⟩) rfl rfl (Nat.le_of_ble_eq_true rfl) (Nat.le_of_ble_eq_true rfl) ?_
  refine sh_Lk_lift (T := m12.T) (I := m12.I) (J := m12.J) (s := m12.s) (pc2 := 74) (lv2 := [(4, .int (m11.I 39 4)), (0, .ref 40), (1, .int x1), (2, .int x2), (3, .int x3)]) (st2 := [.int 59, .ref 40]) (I2 := m12.I) (J2 := m12.J) (fun hT v kk => ?_) ?_
  · refine sh_w (i := (.aload_n 0)) (len := 1) (pc2 := 72) (lv2 := [(4, .int (m11.I 39 4)), (0, .ref 40), (1, .int x1), (2, .int x2), (3, .int x3)]) (st2 := [.ref 40]) (h2 := (sh_rep m12.T m12.I m12.J)) rfl rfl rfl ?_
    refine sh_w (i := (.bipush 59)) (len := 2) (pc2 := 74) (lv2 := [(4, .int (m11.I 39 4)), (0, .ref 40), (1, .int x1), (2, .int x2), (3, .int x3)]) (st2 := [.int 59, .ref 40]) (h2 := (sh_rep m12.T m12.I m12.J)) rfl rfl rfl ?_
    exact kk
  rcases sh_bt_e e with ⟨m13, e3, rfl⟩ | ⟨r3, m13, e3, e⟩
  · obtain ⟨rfl, rfl⟩ := tg
    exact sh_Lk_tV (k2 := 48) (a := 39) (as := [.ref 40, .int 59]) (rest := []) rfl rfl rfl (fun hT => (sh_s39 hT.st)) rfl rfl ⟨Nat.le_of_ble_eq_true rfl, Nat.le_of_ble_eq_true rfl⟩ (sl_48 e3 ⟨rfl, rfl⟩) rfl (Nat.le_of_ble_eq_true rfl) (Nat.le_of_ble_eq_true rfl) (Nat.le_of_ble_eq_true rfl) (Nat.le_of_ble_eq_true rfl) rfl
  refine sh_Lk_cV (r := none) (st2 := []) (pc2 := 77) (k2 := 48) (a := 39) (as := [.ref 40, .int 59]) (rest := []) rfl rfl rfl (fun hT => (sh_s39 hT.st)) rfl rfl ⟨Nat.le_of_ble_eq_true rfl, Nat.le_of_ble_eq_true rfl⟩ (sl_48 e3 ⟨rfl, rfl⟩) rfl rfl (Nat.le_of_ble_eq_true rfl) (Nat.le_of_ble_eq_true rfl) ?_
  refine sh_Lk_lift (T := m13.T) (I := m13.I) (J := m13.J) (s := m13.s) (pc2 := 85) (lv2 := [(4, .int (m11.I 39 4)), (0, .ref 40), (1, .int x1), (2, .int x2), (3, .int x3)]) (st2 := [.int (m11.I 39 4), .int x2, .int x3, .ref 29]) (I2 := m13.I) (J2 := m13.J) (fun hT v kk => ?_) ?_
  · refine sh_w (i := (.aload_n 0)) (len := 1) (pc2 := 78) (lv2 := [(4, .int (m11.I 39 4)), (0, .ref 40), (1, .int x1), (2, .int x2), (3, .int x3)]) (st2 := [.ref 40]) (h2 := (sh_rep m13.T m13.I m13.J)) rfl rfl rfl ?_
    refine sh_gR1 (len := 3) (x := .ref 29) (pc2 := 81) rfl rfl (sh_s39 hT.st) rfl rfl ?_
    refine sh_w (i := (.iload_n 3)) (len := 1) (pc2 := 82) (lv2 := [(4, .int (m11.I 39 4)), (0, .ref 40), (1, .int x1), (2, .int x2), (3, .int x3)]) (st2 := [.int x3, .ref 29]) (h2 := (sh_rep m13.T m13.I m13.J)) rfl rfl rfl ?_
    refine sh_w (i := (.iload_n 2)) (len := 1) (pc2 := 83) (lv2 := [(4, .int (m11.I 39 4)), (0, .ref 40), (1, .int x1), (2, .int x2), (3, .int x3)]) (st2 := [.int x2, .int x3, .ref 29]) (h2 := (sh_rep m13.T m13.I m13.J)) rfl rfl rfl ?_
    refine sh_w (i := (.iload 4)) (len := 2) (pc2 := 85) (lv2 := [(4, .int (m11.I 39 4)), (0, .ref 40), (1, .int x1), (2, .int x2), (3, .int x3)]) (st2 := [.int (m11.I 39 4), .int x2, .int x3, .ref 29]) (h2 := (sh_rep m13.T m13.I m13.J)) rfl rfl rfl ?_
    exact kk
  obtain ⟨r4, m14, e4, e⟩ := sh_bn_e e
  refine sh_Lk_cV (r := (some (.int r4))) (st2 := [.int r4]) (pc2 := 88) (k2 := 56) (a := 28) (as := [.ref 29, .int x3, .int x2, .int (m11.I 39 4)]) (rest := []) rfl rfl rfl (fun hT => (sh_s28 hT.st)) rfl rfl ⟨Nat.le_of_ble_eq_true rfl, Nat.le_of_ble_eq_true rfl⟩ (sl_56 e4 ⟨rfl, rfl⟩) rfl rfl (Nat.le_of_ble_eq_true rfl) (Nat.le_of_ble_eq_true rfl) ?_
  refine sh_Lk_lift (T := m14.T) (I := m14.I) (J := m14.J) (s := m14.s) (pc2 := 89) (lv2 := [(4, .int (m11.I 39 4)), (0, .ref 40), (1, .int x1), (2, .int x2), (3, .int x3)]) (st2 := []) (I2 := m14.I) (J2 := m14.J) (fun hT v kk => ?_) ?_
  · refine sh_w (i := .pop) (len := 1) (pc2 := 89) (lv2 := [(4, .int (m11.I 39 4)), (0, .ref 40), (1, .int x1), (2, .int x2), (3, .int x3)]) (st2 := []) (h2 := (sh_rep m14.T m14.I m14.J)) rfl rfl rfl ?_
    exact kk
  obtain rfl := Option.some.inj e
  obtain ⟨rfl, rfl⟩ := tg
  exact sh_Lk_ret (i := .return_) rfl rfl rfl (Nat.le_of_ble_eq_true rfl) (Nat.le_of_ble_eq_true rfl)
theorem sl_75 {x1 : Int32} {m m2 : sh_X} {o : Outcome} {z : (Option Unit × sh_X)} (e : sf_75 x1 m = some z) (tg : (sh_tVt o m2) z) : sh_Lk 75 0 [(0, .ref 40), (1, .int x1)] [] m o m2 1012 40286 := by
  unfold sf_75 at e
  refine sh_Lk_lift (T := m.T) (I := m.I) (J := m.J) (s := m.s) (pc2 := 9) (lv2 := [(3, .int 5), (2, .int (m.I 39 4)), (0, .ref 40), (1, .int x1)]) (st2 := [.int 1, .ref 40]) (I2 := m.I) (J2 := m.J) (fun hT v kk => ?_) ?_
  · refine sh_w (i := (.aload_n 0)) (len := 1) (pc2 := 1) (lv2 := [(0, .ref 40), (1, .int x1)]) (st2 := [.ref 40]) (h2 := (sh_rep m.T m.I m.J)) rfl rfl rfl ?_
    refine sh_gI1 (len := 3) (x := m.I 39 4) (pc2 := 4) rfl rfl (sh_s39 hT.st) rfl rfl rfl ?_
    refine sh_w (i := (.istore_n 2)) (len := 1) (pc2 := 5) (lv2 := [(2, .int (m.I 39 4)), (0, .ref 40), (1, .int x1)]) (st2 := []) (h2 := (sh_rep m.T m.I m.J)) rfl rfl rfl ?_
    refine sh_w (i := (.iconst 5)) (len := 1) (pc2 := 6) (lv2 := [(2, .int (m.I 39 4)), (0, .ref 40), (1, .int x1)]) (st2 := [.int 5]) (h2 := (sh_rep m.T m.I m.J)) rfl rfl rfl ?_
    refine sh_w (i := (.istore_n 3)) (len := 1) (pc2 := 7) (lv2 := [(3, .int 5), (2, .int (m.I 39 4)), (0, .ref 40), (1, .int x1)]) (st2 := []) (h2 := (sh_rep m.T m.I m.J)) rfl rfl rfl ?_
    refine sh_w (i := (.aload_n 0)) (len := 1) (pc2 := 8) (lv2 := [(3, .int 5), (2, .int (m.I 39 4)), (0, .ref 40), (1, .int x1)]) (st2 := [.ref 40]) (h2 := (sh_rep m.T m.I m.J)) rfl rfl rfl ?_
    refine sh_w (i := (.iconst 1)) (len := 1) (pc2 := 9) (lv2 := [(3, .int 5), (2, .int (m.I 39 4)), (0, .ref 40), (1, .int x1)]) (st2 := [.int 1, .ref 40]) (h2 := (sh_rep m.T m.I m.J)) rfl rfl rfl ?_
    exact kk
  rcases sh_bt_e e with ⟨m11, e1, rfl⟩ | ⟨r1, m11, e1, e⟩
  · obtain ⟨rfl, rfl⟩ := tg
    exact sh_Lk_tV (k2 := 48) (a := 39) (as := [.ref 40, .int 1]) (rest := []) rfl rfl rfl (fun hT => (sh_s39 hT.st)) rfl rfl ⟨Nat.le_of_ble_eq_true rfl, Nat.le_of_ble_eq_true rfl⟩ (sl_48 e1 ⟨rfl, rfl⟩) rfl (Nat.le_of_ble_eq_true rfl) (Nat.le_of_ble_eq_true rfl) (Nat.le_of_ble_eq_true rfl) (Nat.le_of_ble_eq_true rfl) rfl
  refine sh_Lk_cV (r := none) (st2 := []) (pc2 := 12) (k2 := 48) (a := 39) (as := [.ref 40, .int 1]) (rest := []) rfl rfl rfl (fun hT => (sh_s39 hT.st)) rfl rfl ⟨Nat.le_of_ble_eq_true rfl, Nat.le_of_ble_eq_true rfl⟩ (sl_48 e1 ⟨rfl, rfl⟩) rfl rfl (Nat.le_of_ble_eq_true rfl) (Nat.le_of_ble_eq_true rfl) ?_
  refine sh_Lk_lift (T := m11.T) (I := m11.I) (J := m11.J) (s := m11.s) (pc2 := 19) (lv2 := [(3, .int 5), (2, .int (m.I 39 4)), (0, .ref 40), (1, .int x1)]) (st2 := [.int 0, .int (m.I 39 4), .int 3, .ref 29]) (I2 := m11.I) (J2 := m11.J) (fun hT v kk => ?_) ?_
  · refine sh_w (i := (.aload_n 0)) (len := 1) (pc2 := 13) (lv2 := [(3, .int 5), (2, .int (m.I 39 4)), (0, .ref 40), (1, .int x1)]) (st2 := [.ref 40]) (h2 := (sh_rep m11.T m11.I m11.J)) rfl rfl rfl ?_
    refine sh_gR1 (len := 3) (x := .ref 29) (pc2 := 16) rfl rfl (sh_s39 hT.st) rfl rfl ?_
    refine sh_w (i := (.iconst 3)) (len := 1) (pc2 := 17) (lv2 := [(3, .int 5), (2, .int (m.I 39 4)), (0, .ref 40), (1, .int x1)]) (st2 := [.int 3, .ref 29]) (h2 := (sh_rep m11.T m11.I m11.J)) rfl rfl rfl ?_
    refine sh_w (i := (.iload_n 2)) (len := 1) (pc2 := 18) (lv2 := [(3, .int 5), (2, .int (m.I 39 4)), (0, .ref 40), (1, .int x1)]) (st2 := [.int (m.I 39 4), .int 3, .ref 29]) (h2 := (sh_rep m11.T m11.I m11.J)) rfl rfl rfl ?_
    refine sh_w (i := (.iconst 0)) (len := 1) (pc2 := 19) (lv2 := [(3, .int 5), (2, .int (m.I 39 4)), (0, .ref 40), (1, .int x1)]) (st2 := [.int 0, .int (m.I 39 4), .int 3, .ref 29]) (h2 := (sh_rep m11.T m11.I m11.J)) rfl rfl rfl ?_
    exact kk
  obtain ⟨r2, m12, e2, e⟩ := sh_bn_e e
  refine sh_Lk_cV (r := (some (.int r2))) (st2 := [.int r2]) (pc2 := 22) (k2 := 56) (a := 28) (as := [.ref 29, .int 3, .int (m.I 39 4), .int 0]) (rest := []) rfl rfl rfl (fun hT => (sh_s28 hT.st)) rfl rfl ⟨Nat.le_of_ble_eq_true rfl, Nat.le_of_ble_eq_true rfl⟩ (sl_56 e2 ⟨rfl, rfl⟩) rfl rfl (Nat.le_of_ble_eq_true rfl) (Nat.le_of_ble_eq_true rfl) ?_
  refine sh_Lk_lift (T := m12.T) (I := m12.I) (J := m12.J) (s := m12.s) (pc2 := 24) (lv2 := [(3, .int 5), (2, .int (m.I 39 4)), (0, .ref 40), (1, .int x1)]) (st2 := [.ref 40]) (I2 := m12.I) (J2 := m12.J) (fun hT v kk => ?_) ?_
  · refine sh_w (i := .pop) (len := 1) (pc2 := 23) (lv2 := [(3, .int 5), (2, .int (m.I 39 4)), (0, .ref 40), (1, .int x1)]) (st2 := []) (h2 := (sh_rep m12.T m12.I m12.J)) rfl rfl rfl ?_
    refine sh_w (i := (.aload_n 0)) (len := 1) (pc2 := 24) (lv2 := [(3, .int 5), (2, .int (m.I 39 4)), (0, .ref 40), (1, .int x1)]) (st2 := [.ref 40]) (h2 := (sh_rep m12.T m12.I m12.J)) rfl rfl rfl ?_
    exact kk
  obtain ⟨r3, e3, e⟩ := sh_bc_e e
  refine sh_Lk_cV (r := (some (.int r3))) (st2 := [.int r3]) (pc2 := 27) (k2 := 45) (a := 39) (as := [.ref 40]) (rest := []) rfl rfl rfl (fun hT => (sh_s39 hT.st)) rfl rfl ⟨Nat.le_of_ble_eq_true rfl, Nat.le_of_ble_eq_true rfl⟩ (sl_45 e3 ⟨rfl, rfl⟩) rfl rfl (Nat.le_of_ble_eq_true rfl) (Nat.le_of_ble_eq_true rfl) ?_
  refine sh_Lk_lift (T := m12.T) (I := m12.I) (J := m12.J) (s := m12.s) (pc2 := 29) (lv2 := [(3, .int 5), (2, .int (m.I 39 4)), (0, .ref 40), (1, .int x1)]) (st2 := [.int 91, .int r3]) (I2 := m12.I) (J2 := m12.J) (fun hT v kk => ?_) ?_
  · refine sh_w (i := (.bipush 91)) (len := 2) (pc2 := 29) (lv2 := [(3, .int 5), (2, .int (m.I 39 4)), (0, .ref 40), (1, .int x1)]) (st2 := [.int 91, .int r3]) (h2 := (sh_rep m12.T m12.I m12.J)) rfl rfl rfl ?_
    exact kk
  rcases sh_ite e with ⟨c, e⟩ | ⟨c, e⟩
  · refine sh_Lk_lift (T := m12.T) (I := m12.I) (J := m12.J) (s := m12.s) (pc2 := 45) (lv2 := [(3, .int 6), (2, .int (m.I 39 4)), (0, .ref 40), (1, .int x1)]) (st2 := [.int (m.I 39 4), .int (m12.I 39 4), .int 4, .ref 29]) (I2 := m12.I) (J2 := m12.J) (fun hT v kk => ?_) ?_
    · refine sh_jc (c := .ne) (off := (25)) (pc2 := 32) false rfl (sh_Bnef c) rfl ?_
      refine sh_w (i := (.bipush 6)) (len := 2) (pc2 := 34) (lv2 := [(3, .int 5), (2, .int (m.I 39 4)), (0, .ref 40), (1, .int x1)]) (st2 := [.int 6]) (h2 := (sh_rep m12.T m12.I m12.J)) rfl rfl rfl ?_
      refine sh_w (i := (.istore_n 3)) (len := 1) (pc2 := 35) (lv2 := [(3, .int 6), (2, .int (m.I 39 4)), (0, .ref 40), (1, .int x1)]) (st2 := []) (h2 := (sh_rep m12.T m12.I m12.J)) rfl rfl rfl ?_
      refine sh_w (i := (.aload_n 0)) (len := 1) (pc2 := 36) (lv2 := [(3, .int 6), (2, .int (m.I 39 4)), (0, .ref 40), (1, .int x1)]) (st2 := [.ref 40]) (h2 := (sh_rep m12.T m12.I m12.J)) rfl rfl rfl ?_
      refine sh_gR1 (len := 3) (x := .ref 29) (pc2 := 39) rfl rfl (sh_s39 hT.st) rfl rfl ?_
      refine sh_w (i := (.iconst 4)) (len := 1) (pc2 := 40) (lv2 := [(3, .int 6), (2, .int (m.I 39 4)), (0, .ref 40), (1, .int x1)]) (st2 := [.int 4, .ref 29]) (h2 := (sh_rep m12.T m12.I m12.J)) rfl rfl rfl ?_
      refine sh_w (i := (.aload_n 0)) (len := 1) (pc2 := 41) (lv2 := [(3, .int 6), (2, .int (m.I 39 4)), (0, .ref 40), (1, .int x1)]) (st2 := [.ref 40, .int 4, .ref 29]) (h2 := (sh_rep m12.T m12.I m12.J)) rfl rfl rfl ?_
      refine sh_gI1 (len := 3) (x := m12.I 39 4) (pc2 := 44) rfl rfl (sh_s39 hT.st) rfl rfl rfl ?_
      refine sh_w (i := (.iload_n 2)) (len := 1) (pc2 := 45) (lv2 := [(3, .int 6), (2, .int (m.I 39 4)), (0, .ref 40), (1, .int x1)]) (st2 := [.int (m.I 39 4), .int (m12.I 39 4), .int 4, .ref 29]) (h2 := (sh_rep m12.T m12.I m12.J)) rfl rfl rfl ?_
      exact kk
    obtain ⟨r4, m14, e4, e⟩ := sh_bn_e e
    refine sh_Lk_cV (r := (some (.int r4))) (st2 := [.int r4]) (pc2 := 48) (k2 := 56) (a := 28) (as := [.ref 29, .int 4, .int (m12.I 39 4), .int (m.I 39 4)]) (rest := []) rfl rfl rfl (fun hT => (sh_s28 hT.st)) rfl rfl ⟨Nat.le_of_ble_eq_true rfl, Nat.le_of_ble_eq_true rfl⟩ (sl_56 e4 ⟨rfl, rfl⟩) rfl rfl (Nat.le_of_ble_eq_true rfl) (Nat.le_of_ble_eq_true rfl) ?_
    refine sh_Lk_lift (T := m14.T) (I := m14.I) (J := m14.J) (s := m14.s) (pc2 := 51) (lv2 := [(3, .int 6), (2, .int (m.I 39 4)), (0, .ref 40), (1, .int x1)]) (st2 := [.int x1, .ref 40]) (I2 := m14.I) (J2 := m14.J) (fun hT v kk => ?_) ?_
    · refine sh_w (i := .pop) (len := 1) (pc2 := 49) (lv2 := [(3, .int 6), (2, .int (m.I 39 4)), (0, .ref 40), (1, .int x1)]) (st2 := []) (h2 := (sh_rep m14.T m14.I m14.J)) rfl rfl rfl ?_
      refine sh_w (i := (.aload_n 0)) (len := 1) (pc2 := 50) (lv2 := [(3, .int 6), (2, .int (m.I 39 4)), (0, .ref 40), (1, .int x1)]) (st2 := [.ref 40]) (h2 := (sh_rep m14.T m14.I m14.J)) rfl rfl rfl ?_
      refine sh_w (i := (.iload_n 1)) (len := 1) (pc2 := 51) (lv2 := [(3, .int 6), (2, .int (m.I 39 4)), (0, .ref 40), (1, .int x1)]) (st2 := [.int x1, .ref 40]) (h2 := (sh_rep m14.T m14.I m14.J)) rfl rfl rfl ?_
      exact kk
    rcases sh_bt_e e with ⟨m15, e5, rfl⟩ | ⟨r5, m15, e5, e⟩
    · obtain ⟨rfl, rfl⟩ := tg
      exact sh_Lk_tV (k2 := 68) (a := 39) (as := [.ref 40, .int x1]) (rest := []) rfl rfl rfl (fun hT => (sh_s39 hT.st)) rfl rfl ⟨Nat.le_of_ble_eq_true rfl, Nat.le_of_ble_eq_true rfl⟩ ((sq_44_l sh_dp).f68 e5 ⟨rfl, rfl⟩) rfl (Nat.le_of_ble_eq_true rfl) (Nat.le_of_ble_eq_true rfl) (Nat.le_of_ble_eq_true rfl) (Nat.le_of_ble_eq_true rfl) rfl
    refine sh_Lk_cV (r := none) (st2 := []) (pc2 := 54) (k2 := 68) (a := 39) (as := [.ref 40, .int x1]) (rest := []) rfl rfl rfl (fun hT => (sh_s39 hT.st)) rfl rfl ⟨Nat.le_of_ble_eq_true rfl, Nat.le_of_ble_eq_true rfl⟩ ((sq_44_l sh_dp).f68 e5 ⟨rfl, rfl⟩) rfl rfl (Nat.le_of_ble_eq_true rfl) (Nat.le_of_ble_eq_true rfl) ?_
    exact sh_Lk_sub (sh_sub_c rfl (sh_sub_c rfl (sh_sub_c rfl (sh_sub_c rfl (sh_sub_n))))) (sl_75_54 e tg)
  · refine sh_Lk_lift (T := m12.T) (I := m12.I) (J := m12.J) (s := m12.s) (pc2 := 54) (lv2 := [(3, .int 5), (2, .int (m.I 39 4)), (0, .ref 40), (1, .int x1)]) (st2 := []) (I2 := m12.I) (J2 := m12.J) (fun hT v kk => ?_) ?_
    · refine sh_jc (c := .ne) (off := (25)) (pc2 := 54) true rfl (sh_Bnet c) rfl ?_
      exact kk
    exact sh_Lk_sub (sh_sub_c rfl (sh_sub_c rfl (sh_sub_c rfl (sh_sub_c rfl (sh_sub_n))))) (sl_75_54 e tg)
def sh_QL48 (Q : sh_Q48) (d : Nat) : Prop := (∀ {x1 : Int32} {m m2 : sh_X} {o : Outcome} {z : (Option Unit × sh_X)}, Q.f53 x1 m = some z → (sh_tVt o m2) z → sh_Lk 53 0 [(0, .ref 40), (1, .int x1)] [] m o m2 (d + 1013) (40 * d + 40310)) ∧ (∀ {x1 : Int32} {m m2 : sh_X} {o : Outcome} {z : (Option Unit × sh_X)}, Q.f55 x1 m = some z → (sh_tVt o m2) z → sh_Lk 55 0 [(0, .ref 40), (1, .int x1)] [] m o m2 (d + 1013) (40 * d + 40310)) ∧ (∀ {x1 : Int32} {m m2 : sh_X} {o : Outcome} {z : (Option Unit × sh_X)}, Q.f71 x1 m = some z → (sh_tVt o m2) z → sh_Lk 71 0 [(0, .ref 40), (1, .int x1)] [] m o m2 (d + 1013) (40 * d + 40310)) ∧ (∀ {x1 : Int32} {m m2 : sh_X} {o : Outcome} {z : (Option Unit × sh_X)}, Q.f72 x1 m = some z → (sh_tVt o m2) z → sh_Lk 72 0 [(0, .ref 40), (1, .int x1)] [] m o m2 (d + 1013) (40 * d + 40310)) ∧ (∀ {x1 : Int32} {m m2 : sh_X} {o : Outcome} {z : (Option Unit × sh_X)}, Q.f73 x1 m = some z → (sh_tVt o m2) z → sh_Lk 73 0 [(0, .ref 40), (1, .int x1)] [] m o m2 (d + 1013) (40 * d + 40310))
theorem sh_QL48.f53 {Q : sh_Q48} {d : Nat} (h : sh_QL48 Q d) : ∀ {x1 : Int32} {m m2 : sh_X} {o : Outcome} {z : (Option Unit × sh_X)}, Q.f53 x1 m = some z → (sh_tVt o m2) z → sh_Lk 53 0 [(0, .ref 40), (1, .int x1)] [] m o m2 (d + 1013) (40 * d + 40310) := h.1
theorem sh_QL48.f55 {Q : sh_Q48} {d : Nat} (h : sh_QL48 Q d) : ∀ {x1 : Int32} {m m2 : sh_X} {o : Outcome} {z : (Option Unit × sh_X)}, Q.f55 x1 m = some z → (sh_tVt o m2) z → sh_Lk 55 0 [(0, .ref 40), (1, .int x1)] [] m o m2 (d + 1013) (40 * d + 40310) := h.2.1
theorem sh_QL48.f71 {Q : sh_Q48} {d : Nat} (h : sh_QL48 Q d) : ∀ {x1 : Int32} {m m2 : sh_X} {o : Outcome} {z : (Option Unit × sh_X)}, Q.f71 x1 m = some z → (sh_tVt o m2) z → sh_Lk 71 0 [(0, .ref 40), (1, .int x1)] [] m o m2 (d + 1013) (40 * d + 40310) := h.2.2.1
theorem sh_QL48.f72 {Q : sh_Q48} {d : Nat} (h : sh_QL48 Q d) : ∀ {x1 : Int32} {m m2 : sh_X} {o : Outcome} {z : (Option Unit × sh_X)}, Q.f72 x1 m = some z → (sh_tVt o m2) z → sh_Lk 72 0 [(0, .ref 40), (1, .int x1)] [] m o m2 (d + 1013) (40 * d + 40310) := h.2.2.2.1
theorem sh_QL48.f73 {Q : sh_Q48} {d : Nat} (h : sh_QL48 Q d) : ∀ {x1 : Int32} {m m2 : sh_X} {o : Outcome} {z : (Option Unit × sh_X)}, Q.f73 x1 m = some z → (sh_tVt o m2) z → sh_Lk 73 0 [(0, .ref 40), (1, .int x1)] [] m o m2 (d + 1013) (40 * d + 40310) := h.2.2.2.2
theorem sh_QL48.mk {Q : sh_Q48} {d : Nat} (f53 : ∀ {x1 : Int32} {m m2 : sh_X} {o : Outcome} {z : (Option Unit × sh_X)}, Q.f53 x1 m = some z → (sh_tVt o m2) z → sh_Lk 53 0 [(0, .ref 40), (1, .int x1)] [] m o m2 (d + 1013) (40 * d + 40310)) (f55 : ∀ {x1 : Int32} {m m2 : sh_X} {o : Outcome} {z : (Option Unit × sh_X)}, Q.f55 x1 m = some z → (sh_tVt o m2) z → sh_Lk 55 0 [(0, .ref 40), (1, .int x1)] [] m o m2 (d + 1013) (40 * d + 40310)) (f71 : ∀ {x1 : Int32} {m m2 : sh_X} {o : Outcome} {z : (Option Unit × sh_X)}, Q.f71 x1 m = some z → (sh_tVt o m2) z → sh_Lk 71 0 [(0, .ref 40), (1, .int x1)] [] m o m2 (d + 1013) (40 * d + 40310)) (f72 : ∀ {x1 : Int32} {m m2 : sh_X} {o : Outcome} {z : (Option Unit × sh_X)}, Q.f72 x1 m = some z → (sh_tVt o m2) z → sh_Lk 72 0 [(0, .ref 40), (1, .int x1)] [] m o m2 (d + 1013) (40 * d + 40310)) (f73 : ∀ {x1 : Int32} {m m2 : sh_X} {o : Outcome} {z : (Option Unit × sh_X)}, Q.f73 x1 m = some z → (sh_tVt o m2) z → sh_Lk 73 0 [(0, .ref 40), (1, .int x1)] [] m o m2 (d + 1013) (40 * d + 40310)) : sh_QL48 Q d := ⟨f53, f55, f71, f72, f73⟩
theorem sl_53_2s {Q : sh_Q48} {d : Nat} {x1 : Int32} {x2 : Int32} {m m2 : sh_X} {o : Outcome} {z : ((Int32 × sh_X) ⊕ (Option Unit × sh_X))} (hQ : sh_QL48 Q d) (e : sf_53_2s Q x1 x2 m = some z) (tg : (sh_el (fun q => sh_Lk 53 2 [(0, .ref 40), (1, .int x1), (2, .int q.1)] [] q.2 o m2 (d + 1 + 1013) (40 * (d + 1) + 40310)) (sh_tVt o m2)) z) : sh_Lk 53 2 [(0, .ref 40), (1, .int x1), (2, .int x2)] [] m o m2 (d + 1 + 1013) (40 * (d + 1) + 40310) := by
  unfold sf_53_2s at e
  refine sh_Lk_lift (T := m.T) (I := m.I) (J := m.J) (s := m.s) (pc2 := 6) (lv2 := [(0, .ref 40), (1, .int x1), (2, .int x2)]) (st2 := [.int 4000, .int x2]) (I2 := m.I) (J2 := m.J) (fun hT v kk => ?_) ?_
  · refine sh_w (i := (.iload_n 2)) (len := 1) (pc2 := 3) (lv2 := [(0, .ref 40), (1, .int x1), (2, .int x2)]) (st2 := [.int x2]) (h2 := (sh_rep m.T m.I m.J)) rfl rfl rfl ?_
    refine sh_w (i := (.sipush 4000)) (len := 3) (pc2 := 6) (lv2 := [(0, .ref 40), (1, .int x1), (2, .int x2)]) (st2 := [.int 4000, .int x2]) (h2 := (sh_rep m.T m.I m.J)) rfl rfl rfl ?_
    exact kk
  rcases sh_ite e with ⟨c, e⟩ | ⟨c, e⟩
  · refine sh_Lk_lift (T := m.T) (I := m.I) (J := m.J) (s := m.s) (pc2 := 10) (lv2 := [(0, .ref 40), (1, .int x1), (2, .int x2)]) (st2 := [.ref 40]) (I2 := m.I) (J2 := m.J) (fun hT v kk => ?_) ?_
    · refine sh_jc (c := .ge) (off := (24)) (pc2 := 9) false rfl (sh_Bgef c) rfl ?_
      refine sh_w (i := (.aload_n 0)) (len := 1) (pc2 := 10) (lv2 := [(0, .ref 40), (1, .int x1), (2, .int x2)]) (st2 := [.ref 40]) (h2 := (sh_rep m.T m.I m.J)) rfl rfl rfl ?_
      exact kk
    obtain ⟨r1, e1, e⟩ := sh_bc_e e
    refine sh_Lk_cV (r := (some (.int r1))) (st2 := [.int r1]) (pc2 := 13) (k2 := 45) (a := 39) (as := [.ref 40]) (rest := []) rfl rfl rfl (fun hT => (sh_s39 hT.st)) rfl rfl ⟨Nat.le_of_ble_eq_true rfl, Nat.le_of_ble_eq_true rfl⟩ (sl_45 e1 ⟨rfl, rfl⟩) rfl rfl (show 9 + 1 ≤ d + 1 + 1013 by omega) (show 8 + (1 + 11) + (221) ≤ 40 * (d + 1) + 40310 by omega) ?_
    refine sh_Lk_cS (r := (some (.int (sh_b2 (sf_54 r1))))) (st2 := [.int (sh_b2 (sf_54 r1))]) (pc2 := 16) (k2 := 54) (as := [.int r1]) (rest := []) rfl rfl (by decide) (Nat.le_of_ble_eq_true rfl) rfl rfl ⟨Nat.le_of_ble_eq_true rfl, Nat.le_of_ble_eq_true rfl⟩ (sl_54 (m := m) rfl ⟨rfl, rfl⟩) rfl rfl (show 8 + 1 ≤ d + 1 + 1013 by omega) (show 8 + (1 + 11) + (200) ≤ 40 * (d + 1) + 40310 by omega) ?_
    rcases sh_ite e with ⟨c, e⟩ | ⟨c, e⟩
    · refine sh_Lk_lift (T := m.T) (I := m.I) (J := m.J) (s := m.s) (pc2 := 21) (lv2 := [(0, .ref 40), (1, .int x1), (2, .int x2)]) (st2 := [.int x1, .ref 40]) (I2 := m.I) (J2 := m.J) (fun hT v kk => ?_) ?_
      · refine sh_j0 (c := .eq) (off := (14)) (pc2 := 19) false rfl (sh_Zeqf c) rfl ?_
        refine sh_w (i := (.aload_n 0)) (len := 1) (pc2 := 20) (lv2 := [(0, .ref 40), (1, .int x1), (2, .int x2)]) (st2 := [.ref 40]) (h2 := (sh_rep m.T m.I m.J)) rfl rfl rfl ?_
        refine sh_w (i := (.iload_n 1)) (len := 1) (pc2 := 21) (lv2 := [(0, .ref 40), (1, .int x1), (2, .int x2)]) (st2 := [.int x1, .ref 40]) (h2 := (sh_rep m.T m.I m.J)) rfl rfl rfl ?_
        exact kk
      rcases sh_bt_e e with ⟨m13, e3, rfl⟩ | ⟨r3, m13, e3, e⟩
      · obtain ⟨rfl, rfl⟩ := tg
        exact sh_Lk_tV (k2 := 55) (a := 39) (as := [.ref 40, .int x1]) (rest := []) rfl rfl rfl (fun hT => (sh_s39 hT.st)) rfl rfl ⟨Nat.le_of_ble_eq_true rfl, Nat.le_of_ble_eq_true rfl⟩ (hQ.f55 e3 ⟨rfl, rfl⟩) rfl (show d + 1013 + 1 ≤ d + 1 + 1013 by omega) (show 8 + (2 + 11) + (40 * d + 40310) ≤ 40 * (d + 1) + 40310 by omega) (by omega) (by omega) rfl
      refine sh_Lk_cV (r := none) (st2 := []) (pc2 := 24) (k2 := 55) (a := 39) (as := [.ref 40, .int x1]) (rest := []) rfl rfl rfl (fun hT => (sh_s39 hT.st)) rfl rfl ⟨Nat.le_of_ble_eq_true rfl, Nat.le_of_ble_eq_true rfl⟩ (hQ.f55 e3 ⟨rfl, rfl⟩) rfl rfl (show d + 1013 + 1 ≤ d + 1 + 1013 by omega) (show 8 + (2 + 11) + (40 * d + 40310) ≤ 40 * (d + 1) + 40310 by omega) ?_
      refine sh_Lk_lift (T := m13.T) (I := m13.I) (J := m13.J) (s := m13.s) (pc2 := 2) (lv2 := [(2, .int (x2 + 1)), (0, .ref 40), (1, .int x1)]) (st2 := []) (I2 := m13.I) (J2 := m13.J) (fun hT v kk => ?_) ?_
      · refine sh_w (i := (.iinc 2 1)) (len := 3) (pc2 := 27) (lv2 := [(2, .int (x2 + 1)), (0, .ref 40), (1, .int x1)]) (st2 := []) (h2 := (sh_rep m13.T m13.I m13.J)) rfl rfl rfl ?_
        refine sh_w (i := (.goto (-25))) (len := 3) (pc2 := 2) (lv2 := [(2, .int (x2 + 1)), (0, .ref 40), (1, .int x1)]) (st2 := []) (h2 := (sh_rep m13.T m13.I m13.J)) rfl rfl rfl ?_
        exact kk
      obtain rfl := Option.some.inj e
      exact sh_Lk_sub (sh_sub_c rfl (sh_sub_c rfl (sh_sub_c rfl (sh_sub_n)))) tg
    · refine sh_Lk_lift (T := m.T) (I := m.I) (J := m.J) (s := m.s) (pc2 := 30) (lv2 := [(0, .ref 40), (1, .int x1), (2, .int x2)]) (st2 := []) (I2 := m.I) (J2 := m.J) (fun hT v kk => ?_) ?_
      · refine sh_j0 (c := .eq) (off := (14)) (pc2 := 30) true rfl (sh_Zeqt c) rfl ?_
        exact kk
      obtain rfl := Option.some.inj e
      obtain ⟨rfl, rfl⟩ := tg
      exact sh_Lk_ret (i := .return_) rfl rfl rfl (by omega) (by omega)
  · refine sh_Lk_lift (T := m.T) (I := m.I) (J := m.J) (s := m.s) (pc2 := 30) (lv2 := [(0, .ref 40), (1, .int x1), (2, .int x2)]) (st2 := []) (I2 := m.I) (J2 := m.J) (fun hT v kk => ?_) ?_
    · refine sh_jc (c := .ge) (off := (24)) (pc2 := 30) true rfl (sh_Bget c) rfl ?_
      exact kk
    obtain rfl := Option.some.inj e
    obtain ⟨rfl, rfl⟩ := tg
    exact sh_Lk_ret (i := .return_) rfl rfl rfl (by omega) (by omega)
theorem sl_53_2 {Q : sh_Q48} {d : Nat} {x1 : Int32} {x2 : Int32} {m m2 : sh_X} {o : Outcome} {z : (Option Unit × sh_X)} (hQ : sh_QL48 Q d) (e : sf_53_2 Q x1 x2 m = some z) (tg : (sh_tVt o m2) z) : sh_Lk 53 2 [(0, .ref 40), (1, .int x1), (2, .int x2)] [] m o m2 (d + 1 + 1013) (40 * (d + 1) + 40310) := by
  unfold sf_53_2 at e
  exact sh_while_lk (P := fun q => sh_Lk 53 2 [(0, .ref 40), (1, .int x1), (2, .int q.1)] [] q.2 o m2 (d + 1 + 1013) (40 * (d + 1) + 40310)) (Q := (sh_tVt o m2)) (fun q z e tg => sl_53_2s (x1 := x1) (x2 := q.1) (m := q.2) hQ e tg) (s := (x2, m)) e tg
theorem sl_53 {Q : sh_Q48} {d : Nat} {x1 : Int32} {m m2 : sh_X} {o : Outcome} {z : (Option Unit × sh_X)} (hQ : sh_QL48 Q d) (e : sf_53 Q x1 m = some z) (tg : (sh_tVt o m2) z) : sh_Lk 53 0 [(0, .ref 40), (1, .int x1)] [] m o m2 (d + 1 + 1013) (40 * (d + 1) + 40310) := by
  unfold sf_53 at e
  refine sh_Lk_lift (T := m.T) (I := m.I) (J := m.J) (s := m.s) (pc2 := 2) (lv2 := [(2, .int 0), (0, .ref 40), (1, .int x1)]) (st2 := []) (I2 := m.I) (J2 := m.J) (fun hT v kk => ?_) ?_
  · refine sh_w (i := (.iconst 0)) (len := 1) (pc2 := 1) (lv2 := [(0, .ref 40), (1, .int x1)]) (st2 := [.int 0]) (h2 := (sh_rep m.T m.I m.J)) rfl rfl rfl ?_
    refine sh_w (i := (.istore_n 2)) (len := 1) (pc2 := 2) (lv2 := [(2, .int 0), (0, .ref 40), (1, .int x1)]) (st2 := []) (h2 := (sh_rep m.T m.I m.J)) rfl rfl rfl ?_
    exact kk
  exact sh_Lk_sub (sh_sub_c rfl (sh_sub_c rfl (sh_sub_c rfl (sh_sub_n)))) (sl_53_2 hQ e tg)
theorem sl_55_10 {Q : sh_Q48} {d : Nat} {x1 : Int32} {m m2 : sh_X} {o : Outcome} {z : (Option Unit × sh_X)} (hQ : sh_QL48 Q d) (e : sf_55_10 Q x1 m = some z) (tg : (sh_tVt o m2) z) : sh_Lk 55 10 [(0, .ref 40), (1, .int x1)] [] m o m2 (d + 1 + 1013) (40 * (d + 1) + 40310) := by
  unfold sf_55_10 at e
  refine sh_Lk_lift (T := m.T) (I := m.I) (J := m.J) (s := m.s) (pc2 := 20) (lv2 := [(0, .ref 40), (1, .int x1)]) (st2 := [.int 0, .int (m.I 39 4), .int 0, .ref 29]) (I2 := m.I) (J2 := m.J) (fun hT v kk => ?_) ?_
  · refine sh_w (i := (.aload_n 0)) (len := 1) (pc2 := 11) (lv2 := [(0, .ref 40), (1, .int x1)]) (st2 := [.ref 40]) (h2 := (sh_rep m.T m.I m.J)) rfl rfl rfl ?_
    refine sh_gR1 (len := 3) (x := .ref 29) (pc2 := 14) rfl rfl (sh_s39 hT.st) rfl rfl ?_
    refine sh_w (i := (.iconst 0)) (len := 1) (pc2 := 15) (lv2 := [(0, .ref 40), (1, .int x1)]) (st2 := [.int 0, .ref 29]) (h2 := (sh_rep m.T m.I m.J)) rfl rfl rfl ?_
    refine sh_w (i := (.aload_n 0)) (len := 1) (pc2 := 16) (lv2 := [(0, .ref 40), (1, .int x1)]) (st2 := [.ref 40, .int 0, .ref 29]) (h2 := (sh_rep m.T m.I m.J)) rfl rfl rfl ?_
    refine sh_gI1 (len := 3) (x := m.I 39 4) (pc2 := 19) rfl rfl (sh_s39 hT.st) rfl rfl rfl ?_
    refine sh_w (i := (.iconst 0)) (len := 1) (pc2 := 20) (lv2 := [(0, .ref 40), (1, .int x1)]) (st2 := [.int 0, .int (m.I 39 4), .int 0, .ref 29]) (h2 := (sh_rep m.T m.I m.J)) rfl rfl rfl ?_
    exact kk
  obtain ⟨r1, m11, e1, e⟩ := sh_bn_e e
  refine sh_Lk_cV (r := (some (.int r1))) (st2 := [.int r1]) (pc2 := 23) (k2 := 56) (a := 28) (as := [.ref 29, .int 0, .int (m.I 39 4), .int 0]) (rest := []) rfl rfl rfl (fun hT => (sh_s28 hT.st)) rfl rfl ⟨Nat.le_of_ble_eq_true rfl, Nat.le_of_ble_eq_true rfl⟩ (sl_56 e1 ⟨rfl, rfl⟩) rfl rfl (show 8 + 1 ≤ d + 1 + 1013 by omega) (show 8 + (4 + 11) + (200) ≤ 40 * (d + 1) + 40310 by omega) ?_
  refine sh_Lk_lift (T := m11.T) (I := m11.I) (J := m11.J) (s := m11.s) (pc2 := 25) (lv2 := [(0, .ref 40), (1, .int x1)]) (st2 := [.ref 40]) (I2 := m11.I) (J2 := m11.J) (fun hT v kk => ?_) ?_
  · refine sh_w (i := .pop) (len := 1) (pc2 := 24) (lv2 := [(0, .ref 40), (1, .int x1)]) (st2 := []) (h2 := (sh_rep m11.T m11.I m11.J)) rfl rfl rfl ?_
    refine sh_w (i := (.aload_n 0)) (len := 1) (pc2 := 25) (lv2 := [(0, .ref 40), (1, .int x1)]) (st2 := [.ref 40]) (h2 := (sh_rep m11.T m11.I m11.J)) rfl rfl rfl ?_
    exact kk
  obtain ⟨r2, e2, e⟩ := sh_bc_e e
  refine sh_Lk_cV (r := (some (.int r2))) (st2 := [.int r2]) (pc2 := 28) (k2 := 45) (a := 39) (as := [.ref 40]) (rest := []) rfl rfl rfl (fun hT => (sh_s39 hT.st)) rfl rfl ⟨Nat.le_of_ble_eq_true rfl, Nat.le_of_ble_eq_true rfl⟩ (sl_45 e2 ⟨rfl, rfl⟩) rfl rfl (show 9 + 1 ≤ d + 1 + 1013 by omega) (show 8 + (1 + 11) + (221) ≤ 40 * (d + 1) + 40310 by omega) ?_
  rcases sh_ite e with ⟨c, e⟩ | ⟨c0, e⟩
  · refine sh_Lk_lift (T := m11.T) (I := m11.I) (J := m11.J) (s := m11.s) (pc2 := 82) (lv2 := [(0, .ref 40), (1, .int x1)]) (st2 := [.int x1, .ref 40]) (I2 := m11.I) (J2 := m11.J) (fun hT v kk => ?_) ?_
    · refine sh_w (i := (.tableswitch 68 9 13 #[52, 44, 68, 36, 60])) (len := 36) (pc2 := 80) (lv2 := [(0, .ref 40), (1, .int x1)]) (st2 := []) (h2 := (sh_rep m11.T m11.I m11.J)) rfl rfl (sh_sw c rfl) ?_
      refine sh_w (i := (.aload_n 0)) (len := 1) (pc2 := 81) (lv2 := [(0, .ref 40), (1, .int x1)]) (st2 := [.ref 40]) (h2 := (sh_rep m11.T m11.I m11.J)) rfl rfl rfl ?_
      refine sh_w (i := (.iload_n 1)) (len := 1) (pc2 := 82) (lv2 := [(0, .ref 40), (1, .int x1)]) (st2 := [.int x1, .ref 40]) (h2 := (sh_rep m11.T m11.I m11.J)) rfl rfl rfl ?_
      exact kk
    rcases sh_bt_e e with ⟨m13, e3, rfl⟩ | ⟨r3, m13, e3, e⟩
    · obtain ⟨rfl, rfl⟩ := tg
      exact sh_Lk_tV (k2 := 73) (a := 39) (as := [.ref 40, .int x1]) (rest := []) rfl rfl rfl (fun hT => (sh_s39 hT.st)) rfl rfl ⟨Nat.le_of_ble_eq_true rfl, Nat.le_of_ble_eq_true rfl⟩ (hQ.f73 e3 ⟨rfl, rfl⟩) rfl (show d + 1013 + 1 ≤ d + 1 + 1013 by omega) (show 8 + (4 + 11) + (40 * d + 40310) ≤ 40 * (d + 1) + 40310 by omega) (by omega) (by omega) rfl
    refine sh_Lk_cV (r := none) (st2 := []) (pc2 := 85) (k2 := 73) (a := 39) (as := [.ref 40, .int x1]) (rest := []) rfl rfl rfl (fun hT => (sh_s39 hT.st)) rfl rfl ⟨Nat.le_of_ble_eq_true rfl, Nat.le_of_ble_eq_true rfl⟩ (hQ.f73 e3 ⟨rfl, rfl⟩) rfl rfl (show d + 1013 + 1 ≤ d + 1 + 1013 by omega) (show 8 + (4 + 11) + (40 * d + 40310) ≤ 40 * (d + 1) + 40310 by omega) ?_
    refine sh_Lk_lift (T := m13.T) (I := m13.I) (J := m13.J) (s := m13.s) (pc2 := 101) (lv2 := [(0, .ref 40), (1, .int x1)]) (st2 := []) (I2 := m13.I) (J2 := m13.J) (fun hT v kk => ?_) ?_
    · refine sh_w (i := (.goto 16)) (len := 3) (pc2 := 101) (lv2 := [(0, .ref 40), (1, .int x1)]) (st2 := []) (h2 := (sh_rep m13.T m13.I m13.J)) rfl rfl rfl ?_
      exact kk
    obtain rfl := Option.some.inj e
    obtain ⟨rfl, rfl⟩ := tg
    exact sh_Lk_ret (i := .return_) rfl rfl rfl (by omega) (by omega)
  rcases sh_ite e with ⟨c, e⟩ | ⟨c1, e⟩
  · refine sh_Lk_lift (T := m11.T) (I := m11.I) (J := m11.J) (s := m11.s) (pc2 := 74) (lv2 := [(0, .ref 40), (1, .int x1)]) (st2 := [.int x1, .ref 40]) (I2 := m11.I) (J2 := m11.J) (fun hT v kk => ?_) ?_
    · refine sh_w (i := (.tableswitch 68 9 13 #[52, 44, 68, 36, 60])) (len := 36) (pc2 := 72) (lv2 := [(0, .ref 40), (1, .int x1)]) (st2 := []) (h2 := (sh_rep m11.T m11.I m11.J)) rfl rfl (sh_sw c rfl) ?_
      refine sh_w (i := (.aload_n 0)) (len := 1) (pc2 := 73) (lv2 := [(0, .ref 40), (1, .int x1)]) (st2 := [.ref 40]) (h2 := (sh_rep m11.T m11.I m11.J)) rfl rfl rfl ?_
      refine sh_w (i := (.iload_n 1)) (len := 1) (pc2 := 74) (lv2 := [(0, .ref 40), (1, .int x1)]) (st2 := [.int x1, .ref 40]) (h2 := (sh_rep m11.T m11.I m11.J)) rfl rfl rfl ?_
      exact kk
    rcases sh_bt_e e with ⟨m14, e4, rfl⟩ | ⟨r4, m14, e4, e⟩
    · obtain ⟨rfl, rfl⟩ := tg
      exact sh_Lk_tV (k2 := 71) (a := 39) (as := [.ref 40, .int x1]) (rest := []) rfl rfl rfl (fun hT => (sh_s39 hT.st)) rfl rfl ⟨Nat.le_of_ble_eq_true rfl, Nat.le_of_ble_eq_true rfl⟩ (hQ.f71 e4 ⟨rfl, rfl⟩) rfl (show d + 1013 + 1 ≤ d + 1 + 1013 by omega) (show 8 + (3 + 11) + (40 * d + 40310) ≤ 40 * (d + 1) + 40310 by omega) (by omega) (by omega) rfl
    refine sh_Lk_cV (r := none) (st2 := []) (pc2 := 77) (k2 := 71) (a := 39) (as := [.ref 40, .int x1]) (rest := []) rfl rfl rfl (fun hT => (sh_s39 hT.st)) rfl rfl ⟨Nat.le_of_ble_eq_true rfl, Nat.le_of_ble_eq_true rfl⟩ (hQ.f71 e4 ⟨rfl, rfl⟩) rfl rfl (show d + 1013 + 1 ≤ d + 1 + 1013 by omega) (show 8 + (3 + 11) + (40 * d + 40310) ≤ 40 * (d + 1) + 40310 by omega) ?_
    refine sh_Lk_lift (T := m14.T) (I := m14.I) (J := m14.J) (s := m14.s) (pc2 := 101) (lv2 := [(0, .ref 40), (1, .int x1)]) (st2 := []) (I2 := m14.I) (J2 := m14.J) (fun hT v kk => ?_) ?_
    · refine sh_w (i := (.goto 24)) (len := 3) (pc2 := 101) (lv2 := [(0, .ref 40), (1, .int x1)]) (st2 := []) (h2 := (sh_rep m14.T m14.I m14.J)) rfl rfl rfl ?_
      exact kk
    obtain rfl := Option.some.inj e
    obtain ⟨rfl, rfl⟩ := tg
    exact sh_Lk_ret (i := .return_) rfl rfl rfl (by omega) (by omega)
  rcases sh_ite e with ⟨c, e⟩ | ⟨c2, e⟩
  · refine sh_Lk_lift (T := m11.T) (I := m11.I) (J := m11.J) (s := m11.s) (pc2 := 66) (lv2 := [(0, .ref 40), (1, .int x1)]) (st2 := [.int x1, .ref 40]) (I2 := m11.I) (J2 := m11.J) (fun hT v kk => ?_) ?_
    · refine sh_w (i := (.tableswitch 68 9 13 #[52, 44, 68, 36, 60])) (len := 36) (pc2 := 64) (lv2 := [(0, .ref 40), (1, .int x1)]) (st2 := []) (h2 := (sh_rep m11.T m11.I m11.J)) rfl rfl (sh_sw c rfl) ?_
      refine sh_w (i := (.aload_n 0)) (len := 1) (pc2 := 65) (lv2 := [(0, .ref 40), (1, .int x1)]) (st2 := [.ref 40]) (h2 := (sh_rep m11.T m11.I m11.J)) rfl rfl rfl ?_
      refine sh_w (i := (.iload_n 1)) (len := 1) (pc2 := 66) (lv2 := [(0, .ref 40), (1, .int x1)]) (st2 := [.int x1, .ref 40]) (h2 := (sh_rep m11.T m11.I m11.J)) rfl rfl rfl ?_
      exact kk
    rcases sh_bt_e e with ⟨m15, e5, rfl⟩ | ⟨r5, m15, e5, e⟩
    · obtain ⟨rfl, rfl⟩ := tg
      exact sh_Lk_tV (k2 := 57) (a := 39) (as := [.ref 40, .int x1]) (rest := []) rfl rfl rfl (fun hT => (sh_s39 hT.st)) rfl rfl ⟨Nat.le_of_ble_eq_true rfl, Nat.le_of_ble_eq_true rfl⟩ (sl_57 e5 ⟨rfl, rfl⟩) rfl (show 1012 + 1 ≤ d + 1 + 1013 by omega) (show 8 + (3 + 11) + (40286) ≤ 40 * (d + 1) + 40310 by omega) (by omega) (by omega) rfl
    refine sh_Lk_cV (r := none) (st2 := []) (pc2 := 69) (k2 := 57) (a := 39) (as := [.ref 40, .int x1]) (rest := []) rfl rfl rfl (fun hT => (sh_s39 hT.st)) rfl rfl ⟨Nat.le_of_ble_eq_true rfl, Nat.le_of_ble_eq_true rfl⟩ (sl_57 e5 ⟨rfl, rfl⟩) rfl rfl (show 1012 + 1 ≤ d + 1 + 1013 by omega) (show 8 + (3 + 11) + (40286) ≤ 40 * (d + 1) + 40310 by omega) ?_
    refine sh_Lk_lift (T := m15.T) (I := m15.I) (J := m15.J) (s := m15.s) (pc2 := 101) (lv2 := [(0, .ref 40), (1, .int x1)]) (st2 := []) (I2 := m15.I) (J2 := m15.J) (fun hT v kk => ?_) ?_
    · refine sh_w (i := (.goto 32)) (len := 3) (pc2 := 101) (lv2 := [(0, .ref 40), (1, .int x1)]) (st2 := []) (h2 := (sh_rep m15.T m15.I m15.J)) rfl rfl rfl ?_
      exact kk
    obtain rfl := Option.some.inj e
    obtain ⟨rfl, rfl⟩ := tg
    exact sh_Lk_ret (i := .return_) rfl rfl rfl (by omega) (by omega)
  rcases sh_ite e with ⟨c, e⟩ | ⟨c3, e⟩
  · refine sh_Lk_lift (T := m11.T) (I := m11.I) (J := m11.J) (s := m11.s) (pc2 := 90) (lv2 := [(0, .ref 40), (1, .int x1)]) (st2 := [.int x1, .ref 40]) (I2 := m11.I) (J2 := m11.J) (fun hT v kk => ?_) ?_
    · refine sh_w (i := (.tableswitch 68 9 13 #[52, 44, 68, 36, 60])) (len := 36) (pc2 := 88) (lv2 := [(0, .ref 40), (1, .int x1)]) (st2 := []) (h2 := (sh_rep m11.T m11.I m11.J)) rfl rfl (sh_sw c rfl) ?_
      refine sh_w (i := (.aload_n 0)) (len := 1) (pc2 := 89) (lv2 := [(0, .ref 40), (1, .int x1)]) (st2 := [.ref 40]) (h2 := (sh_rep m11.T m11.I m11.J)) rfl rfl rfl ?_
      refine sh_w (i := (.iload_n 1)) (len := 1) (pc2 := 90) (lv2 := [(0, .ref 40), (1, .int x1)]) (st2 := [.int x1, .ref 40]) (h2 := (sh_rep m11.T m11.I m11.J)) rfl rfl rfl ?_
      exact kk
    rcases sh_bt_e e with ⟨m16, e6, rfl⟩ | ⟨r6, m16, e6, e⟩
    · obtain ⟨rfl, rfl⟩ := tg
      exact sh_Lk_tV (k2 := 74) (a := 39) (as := [.ref 40, .int x1]) (rest := []) rfl rfl rfl (fun hT => (sh_s39 hT.st)) rfl rfl ⟨Nat.le_of_ble_eq_true rfl, Nat.le_of_ble_eq_true rfl⟩ (sl_74 e6 ⟨rfl, rfl⟩) rfl (show 1012 + 1 ≤ d + 1 + 1013 by omega) (show 8 + (3 + 11) + (40286) ≤ 40 * (d + 1) + 40310 by omega) (by omega) (by omega) rfl
    refine sh_Lk_cV (r := none) (st2 := []) (pc2 := 93) (k2 := 74) (a := 39) (as := [.ref 40, .int x1]) (rest := []) rfl rfl rfl (fun hT => (sh_s39 hT.st)) rfl rfl ⟨Nat.le_of_ble_eq_true rfl, Nat.le_of_ble_eq_true rfl⟩ (sl_74 e6 ⟨rfl, rfl⟩) rfl rfl (show 1012 + 1 ≤ d + 1 + 1013 by omega) (show 8 + (3 + 11) + (40286) ≤ 40 * (d + 1) + 40310 by omega) ?_
    refine sh_Lk_lift (T := m16.T) (I := m16.I) (J := m16.J) (s := m16.s) (pc2 := 101) (lv2 := [(0, .ref 40), (1, .int x1)]) (st2 := []) (I2 := m16.I) (J2 := m16.J) (fun hT v kk => ?_) ?_
    · refine sh_w (i := (.goto 8)) (len := 3) (pc2 := 101) (lv2 := [(0, .ref 40), (1, .int x1)]) (st2 := []) (h2 := (sh_rep m16.T m16.I m16.J)) rfl rfl rfl ?_
      exact kk
    obtain rfl := Option.some.inj e
    obtain ⟨rfl, rfl⟩ := tg
    exact sh_Lk_ret (i := .return_) rfl rfl rfl (by omega) (by omega)
  refine sh_Lk_lift (T := m11.T) (I := m11.I) (J := m11.J) (s := m11.s) (pc2 := 98) (lv2 := [(0, .ref 40), (1, .int x1)]) (st2 := [.int x1, .ref 40]) (I2 := m11.I) (J2 := m11.J) (fun hT v kk => ?_) ?_
  · refine sh_w (i := (.tableswitch 68 9 13 #[52, 44, 68, 36, 60])) (len := 36) (pc2 := 96) (lv2 := [(0, .ref 40), (1, .int x1)]) (st2 := []) (h2 := (sh_rep m11.T m11.I m11.J)) rfl rfl (if g11 : r2 = 11 then sh_sw g11 rfl else (sh_swt [9, 10, 11, 12, 13] (by intro j h1 h2; simp; omega) (sh_fc (fun h => c0 (h)) (sh_fc (fun h => c1 (h)) (sh_fc (fun h => g11 h) (sh_fc (fun h => c2 (h)) (sh_fc (fun h => c3 (h)) sh_fn))))) rfl)) ?_
    refine sh_w (i := (.aload_n 0)) (len := 1) (pc2 := 97) (lv2 := [(0, .ref 40), (1, .int x1)]) (st2 := [.ref 40]) (h2 := (sh_rep m11.T m11.I m11.J)) rfl rfl rfl ?_
    refine sh_w (i := (.iload_n 1)) (len := 1) (pc2 := 98) (lv2 := [(0, .ref 40), (1, .int x1)]) (st2 := [.int x1, .ref 40]) (h2 := (sh_rep m11.T m11.I m11.J)) rfl rfl rfl ?_
    exact kk
  rcases sh_bt_e e with ⟨m17, e7, rfl⟩ | ⟨r7, m17, e7, e⟩
  · obtain ⟨rfl, rfl⟩ := tg
    exact sh_Lk_tV (k2 := 75) (a := 39) (as := [.ref 40, .int x1]) (rest := []) rfl rfl rfl (fun hT => (sh_s39 hT.st)) rfl rfl ⟨Nat.le_of_ble_eq_true rfl, Nat.le_of_ble_eq_true rfl⟩ (sl_75 e7 ⟨rfl, rfl⟩) rfl (show 1012 + 1 ≤ d + 1 + 1013 by omega) (show 8 + (5 + 11) + (40286) ≤ 40 * (d + 1) + 40310 by omega) (by omega) (by omega) rfl
  refine sh_Lk_cV (r := none) (st2 := []) (pc2 := 101) (k2 := 75) (a := 39) (as := [.ref 40, .int x1]) (rest := []) rfl rfl rfl (fun hT => (sh_s39 hT.st)) rfl rfl ⟨Nat.le_of_ble_eq_true rfl, Nat.le_of_ble_eq_true rfl⟩ (sl_75 e7 ⟨rfl, rfl⟩) rfl rfl (show 1012 + 1 ≤ d + 1 + 1013 by omega) (show 8 + (5 + 11) + (40286) ≤ 40 * (d + 1) + 40310 by omega) ?_
  obtain rfl := Option.some.inj e
  obtain ⟨rfl, rfl⟩ := tg
  exact sh_Lk_ret (i := .return_) rfl rfl rfl (by omega) (by omega)
theorem sl_55 {Q : sh_Q48} {d : Nat} {x1 : Int32} {m m2 : sh_X} {o : Outcome} {z : (Option Unit × sh_X)} (hQ : sh_QL48 Q d) (e : sf_55 Q x1 m = some z) (tg : (sh_tVt o m2) z) : sh_Lk 55 0 [(0, .ref 40), (1, .int x1)] [] m o m2 (d + 1 + 1013) (40 * (d + 1) + 40310) := by
  unfold sf_55 at e
  refine sh_Lk_lift (T := m.T) (I := m.I) (J := m.J) (s := m.s) (pc2 := 3) (lv2 := [(0, .ref 40), (1, .int x1)]) (st2 := [.int 40, .int x1]) (I2 := m.I) (J2 := m.J) (fun hT v kk => ?_) ?_
  · refine sh_w (i := (.iload_n 1)) (len := 1) (pc2 := 1) (lv2 := [(0, .ref 40), (1, .int x1)]) (st2 := [.int x1]) (h2 := (sh_rep m.T m.I m.J)) rfl rfl rfl ?_
    refine sh_w (i := (.bipush 40)) (len := 2) (pc2 := 3) (lv2 := [(0, .ref 40), (1, .int x1)]) (st2 := [.int 40, .int x1]) (h2 := (sh_rep m.T m.I m.J)) rfl rfl rfl ?_
    exact kk
  rcases sh_ite e with ⟨c, e⟩ | ⟨c, e⟩
  · refine sh_Lk_lift (T := m.T) (I := m.I) (J := m.J) (s := m.s) (pc2 := 7) (lv2 := [(0, .ref 40), (1, .int x1)]) (st2 := [.ref 40]) (I2 := m.I) (J2 := m.J) (fun hT v kk => ?_) ?_
    · refine sh_jc (c := .le) (off := (7)) (pc2 := 6) false rfl (sh_Blef c) rfl ?_
      refine sh_w (i := (.aload_n 0)) (len := 1) (pc2 := 7) (lv2 := [(0, .ref 40), (1, .int x1)]) (st2 := [.ref 40]) (h2 := (sh_rep m.T m.I m.J)) rfl rfl rfl ?_
      exact kk
    rcases sh_bt_e e with ⟨m11, e1, rfl⟩ | ⟨r1, m11, e1, e⟩
    · obtain ⟨rfl, rfl⟩ := tg
      exact sh_Lk_tV (k2 := 49) (a := 39) (as := [.ref 40]) (rest := []) rfl rfl rfl (fun hT => (sh_s39 hT.st)) rfl rfl ⟨Nat.le_of_ble_eq_true rfl, Nat.le_of_ble_eq_true rfl⟩ (sl_49 e1 ⟨rfl, rfl⟩) rfl (show 9 + 1 ≤ d + 1 + 1013 by omega) (show 8 + (1 + 11) + (222) ≤ 40 * (d + 1) + 40310 by omega) (by omega) (by omega) rfl
    refine sh_Lk_cV (r := none) (st2 := []) (pc2 := 10) (k2 := 49) (a := 39) (as := [.ref 40]) (rest := []) rfl rfl rfl (fun hT => (sh_s39 hT.st)) rfl rfl ⟨Nat.le_of_ble_eq_true rfl, Nat.le_of_ble_eq_true rfl⟩ (sl_49 e1 ⟨rfl, rfl⟩) rfl rfl (show 9 + 1 ≤ d + 1 + 1013 by omega) (show 8 + (1 + 11) + (222) ≤ 40 * (d + 1) + 40310 by omega) ?_
    exact sh_Lk_sub (sh_sub_c rfl (sh_sub_c rfl (sh_sub_n))) (sl_55_10 hQ e tg)
  · refine sh_Lk_lift (T := m.T) (I := m.I) (J := m.J) (s := m.s) (pc2 := 10) (lv2 := [(0, .ref 40), (1, .int x1)]) (st2 := []) (I2 := m.I) (J2 := m.J) (fun hT v kk => ?_) ?_
    · refine sh_jc (c := .le) (off := (7)) (pc2 := 10) true rfl (sh_Blet c) rfl ?_
      exact kk
    exact sh_Lk_sub (sh_sub_c rfl (sh_sub_c rfl (sh_sub_n))) (sl_55_10 hQ e tg)
theorem sl_71_76 {Q : sh_Q48} {d : Nat} {x2 : Int32} {m m2 : sh_X} {o : Outcome} {z : (Option Unit × sh_X)} (hQ : sh_QL48 Q d) (e : sf_71_76 Q x2 m = some z) (tg : (sh_tVt o m2) z) : sh_Lk 71 76 [(0, .ref 40), (2, .int x2)] [] m o m2 (d + 1 + 1013) (40 * (d + 1) + 40310) := by
  unfold sf_71_76 at e
  refine sh_Lk_lift (T := m.T) (I := m.I) (J := m.J) (s := m.s) (pc2 := 84) (lv2 := [(0, .ref 40), (2, .int x2)]) (st2 := [.int 0, .int x2, .int 9, .ref 29]) (I2 := m.I) (J2 := m.J) (fun hT v kk => ?_) ?_
  · refine sh_w (i := (.aload_n 0)) (len := 1) (pc2 := 77) (lv2 := [(0, .ref 40), (2, .int x2)]) (st2 := [.ref 40]) (h2 := (sh_rep m.T m.I m.J)) rfl rfl rfl ?_
    refine sh_gR1 (len := 3) (x := .ref 29) (pc2 := 80) rfl rfl (sh_s39 hT.st) rfl rfl ?_
    refine sh_w (i := (.bipush 9)) (len := 2) (pc2 := 82) (lv2 := [(0, .ref 40), (2, .int x2)]) (st2 := [.int 9, .ref 29]) (h2 := (sh_rep m.T m.I m.J)) rfl rfl rfl ?_
    refine sh_w (i := (.iload_n 2)) (len := 1) (pc2 := 83) (lv2 := [(0, .ref 40), (2, .int x2)]) (st2 := [.int x2, .int 9, .ref 29]) (h2 := (sh_rep m.T m.I m.J)) rfl rfl rfl ?_
    refine sh_w (i := (.iconst 0)) (len := 1) (pc2 := 84) (lv2 := [(0, .ref 40), (2, .int x2)]) (st2 := [.int 0, .int x2, .int 9, .ref 29]) (h2 := (sh_rep m.T m.I m.J)) rfl rfl rfl ?_
    exact kk
  obtain ⟨r1, m11, e1, e⟩ := sh_bn_e e
  refine sh_Lk_cV (r := (some (.int r1))) (st2 := [.int r1]) (pc2 := 87) (k2 := 56) (a := 28) (as := [.ref 29, .int 9, .int x2, .int 0]) (rest := []) rfl rfl rfl (fun hT => (sh_s28 hT.st)) rfl rfl ⟨Nat.le_of_ble_eq_true rfl, Nat.le_of_ble_eq_true rfl⟩ (sl_56 e1 ⟨rfl, rfl⟩) rfl rfl (show 8 + 1 ≤ d + 1 + 1013 by omega) (show 8 + (4 + 11) + (200) ≤ 40 * (d + 1) + 40310 by omega) ?_
  refine sh_Lk_lift (T := m11.T) (I := m11.I) (J := m11.J) (s := m11.s) (pc2 := 88) (lv2 := [(0, .ref 40), (2, .int x2)]) (st2 := []) (I2 := m11.I) (J2 := m11.J) (fun hT v kk => ?_) ?_
  · refine sh_w (i := .pop) (len := 1) (pc2 := 88) (lv2 := [(0, .ref 40), (2, .int x2)]) (st2 := []) (h2 := (sh_rep m11.T m11.I m11.J)) rfl rfl rfl ?_
    exact kk
  obtain rfl := Option.some.inj e
  obtain ⟨rfl, rfl⟩ := tg
  exact sh_Lk_ret (i := .return_) rfl rfl rfl (by omega) (by omega)
theorem sl_71 {Q : sh_Q48} {d : Nat} {x1 : Int32} {m m2 : sh_X} {o : Outcome} {z : (Option Unit × sh_X)} (hQ : sh_QL48 Q d) (e : sf_71 Q x1 m = some z) (tg : (sh_tVt o m2) z) : sh_Lk 71 0 [(0, .ref 40), (1, .int x1)] [] m o m2 (d + 1 + 1013) (40 * (d + 1) + 40310) := by
  unfold sf_71 at e
  refine sh_Lk_lift (T := m.T) (I := m.I) (J := m.J) (s := m.s) (pc2 := 17) (lv2 := [(2, .int ((m.I 39 4) + 1)), (0, .ref 40), (1, .int x1)]) (st2 := [.int x1, .ref 40]) (I2 := sh_u2 m.I 39 4 ((m.I 39 4) + 1)) (J2 := m.J) (fun hT v kk => ?_) ?_
  · refine sh_w (i := (.aload_n 0)) (len := 1) (pc2 := 1) (lv2 := [(0, .ref 40), (1, .int x1)]) (st2 := [.ref 40]) (h2 := (sh_rep m.T m.I m.J)) rfl rfl rfl ?_
    refine sh_w (i := .dup) (len := 1) (pc2 := 2) (lv2 := [(0, .ref 40), (1, .int x1)]) (st2 := [.ref 40, .ref 40]) (h2 := (sh_rep m.T m.I m.J)) rfl rfl rfl ?_
    refine sh_gI1 (len := 3) (x := m.I 39 4) (pc2 := 5) rfl rfl (sh_s39 hT.st) rfl rfl rfl ?_
    refine sh_w (i := (.iconst 1)) (len := 1) (pc2 := 6) (lv2 := [(0, .ref 40), (1, .int x1)]) (st2 := [.int 1, .int (m.I 39 4), .ref 40]) (h2 := (sh_rep m.T m.I m.J)) rfl rfl rfl ?_
    refine sh_w (i := .iadd) (len := 1) (pc2 := 7) (lv2 := [(0, .ref 40), (1, .int x1)]) (st2 := [.int ((m.I 39 4) + 1), .ref 40]) (h2 := (sh_rep m.T m.I m.J)) rfl rfl rfl ?_
    refine sh_pI1 (x := (m.I 39 4) + 1) (pc2 := 10) rfl rfl (sh_s39 hT.st) rfl rfl rfl rfl ?_
    refine sh_w (i := (.aload_n 0)) (len := 1) (pc2 := 11) (lv2 := [(0, .ref 40), (1, .int x1)]) (st2 := [.ref 40]) (h2 := (sh_rep m.T (sh_u2 m.I 39 4 ((m.I 39 4) + 1)) m.J)) rfl rfl rfl ?_
    refine sh_gI1 (len := 3) (x := (m.I 39 4) + 1) (pc2 := 14) rfl rfl (sh_s39 hT.st) rfl rfl rfl ?_
    refine sh_w (i := (.istore_n 2)) (len := 1) (pc2 := 15) (lv2 := [(2, .int ((m.I 39 4) + 1)), (0, .ref 40), (1, .int x1)]) (st2 := []) (h2 := (sh_rep m.T (sh_u2 m.I 39 4 ((m.I 39 4) + 1)) m.J)) rfl rfl rfl ?_
    refine sh_w (i := (.aload_n 0)) (len := 1) (pc2 := 16) (lv2 := [(2, .int ((m.I 39 4) + 1)), (0, .ref 40), (1, .int x1)]) (st2 := [.ref 40]) (h2 := (sh_rep m.T (sh_u2 m.I 39 4 ((m.I 39 4) + 1)) m.J)) rfl rfl rfl ?_
    refine sh_w (i := (.iload_n 1)) (len := 1) (pc2 := 17) (lv2 := [(2, .int ((m.I 39 4) + 1)), (0, .ref 40), (1, .int x1)]) (st2 := [.int x1, .ref 40]) (h2 := (sh_rep m.T (sh_u2 m.I 39 4 ((m.I 39 4) + 1)) m.J)) rfl rfl rfl ?_
    exact kk
  rcases sh_bt_e e with ⟨m11, e1, rfl⟩ | ⟨r1, m11, e1, e⟩
  · obtain ⟨rfl, rfl⟩ := tg
    exact sh_Lk_tV (k2 := 58) (a := 39) (as := [.ref 40, .int x1]) (rest := []) rfl rfl rfl (fun hT => (sh_s39 hT.st)) rfl rfl ⟨Nat.le_of_ble_eq_true rfl, Nat.le_of_ble_eq_true rfl⟩ ((sq_44_l sh_dp).f58 e1 ⟨rfl, rfl⟩) rfl (show 1011 + 1 ≤ d + 1 + 1013 by omega) (show 8 + (4 + 11) + (40263) ≤ 40 * (d + 1) + 40310 by omega) (by omega) (by omega) rfl
  refine sh_Lk_cV (r := none) (st2 := []) (pc2 := 20) (k2 := 58) (a := 39) (as := [.ref 40, .int x1]) (rest := []) rfl rfl rfl (fun hT => (sh_s39 hT.st)) rfl rfl ⟨Nat.le_of_ble_eq_true rfl, Nat.le_of_ble_eq_true rfl⟩ ((sq_44_l sh_dp).f58 e1 ⟨rfl, rfl⟩) rfl rfl (show 1011 + 1 ≤ d + 1 + 1013 by omega) (show 8 + (4 + 11) + (40263) ≤ 40 * (d + 1) + 40310 by omega) ?_
  refine sh_Lk_lift (T := m11.T) (I := m11.I) (J := m11.J) (s := m11.s) (pc2 := 28) (lv2 := [(2, .int ((m.I 39 4) + 1)), (0, .ref 40), (1, .int x1)]) (st2 := [.int 0, .int ((m.I 39 4) + 1), .int 7, .ref 29]) (I2 := m11.I) (J2 := m11.J) (fun hT v kk => ?_) ?_
  · refine sh_w (i := (.aload_n 0)) (len := 1) (pc2 := 21) (lv2 := [(2, .int ((m.I 39 4) + 1)), (0, .ref 40), (1, .int x1)]) (st2 := [.ref 40]) (h2 := (sh_rep m11.T m11.I m11.J)) rfl rfl rfl ?_
    refine sh_gR1 (len := 3) (x := .ref 29) (pc2 := 24) rfl rfl (sh_s39 hT.st) rfl rfl ?_
    refine sh_w (i := (.bipush 7)) (len := 2) (pc2 := 26) (lv2 := [(2, .int ((m.I 39 4) + 1)), (0, .ref 40), (1, .int x1)]) (st2 := [.int 7, .ref 29]) (h2 := (sh_rep m11.T m11.I m11.J)) rfl rfl rfl ?_
    refine sh_w (i := (.iload_n 2)) (len := 1) (pc2 := 27) (lv2 := [(2, .int ((m.I 39 4) + 1)), (0, .ref 40), (1, .int x1)]) (st2 := [.int ((m.I 39 4) + 1), .int 7, .ref 29]) (h2 := (sh_rep m11.T m11.I m11.J)) rfl rfl rfl ?_
    refine sh_w (i := (.iconst 0)) (len := 1) (pc2 := 28) (lv2 := [(2, .int ((m.I 39 4) + 1)), (0, .ref 40), (1, .int x1)]) (st2 := [.int 0, .int ((m.I 39 4) + 1), .int 7, .ref 29]) (h2 := (sh_rep m11.T m11.I m11.J)) rfl rfl rfl ?_
    exact kk
  obtain ⟨r2, m12, e2, e⟩ := sh_bn_e e
  refine sh_Lk_cV (r := (some (.int r2))) (st2 := [.int r2]) (pc2 := 31) (k2 := 56) (a := 28) (as := [.ref 29, .int 7, .int ((m.I 39 4) + 1), .int 0]) (rest := []) rfl rfl rfl (fun hT => (sh_s28 hT.st)) rfl rfl ⟨Nat.le_of_ble_eq_true rfl, Nat.le_of_ble_eq_true rfl⟩ (sl_56 e2 ⟨rfl, rfl⟩) rfl rfl (show 8 + 1 ≤ d + 1 + 1013 by omega) (show 8 + (4 + 11) + (200) ≤ 40 * (d + 1) + 40310 by omega) ?_
  refine sh_Lk_lift (T := m12.T) (I := m12.I) (J := m12.J) (s := m12.s) (pc2 := 34) (lv2 := [(2, .int ((m.I 39 4) + 1)), (0, .ref 40), (1, .int x1)]) (st2 := [.int x1, .ref 40]) (I2 := m12.I) (J2 := m12.J) (fun hT v kk => ?_) ?_
  · refine sh_w (i := .pop) (len := 1) (pc2 := 32) (lv2 := [(2, .int ((m.I 39 4) + 1)), (0, .ref 40), (1, .int x1)]) (st2 := []) (h2 := (sh_rep m12.T m12.I m12.J)) rfl rfl rfl ?_
    refine sh_w (i := (.aload_n 0)) (len := 1) (pc2 := 33) (lv2 := [(2, .int ((m.I 39 4) + 1)), (0, .ref 40), (1, .int x1)]) (st2 := [.ref 40]) (h2 := (sh_rep m12.T m12.I m12.J)) rfl rfl rfl ?_
    refine sh_w (i := (.iload_n 1)) (len := 1) (pc2 := 34) (lv2 := [(2, .int ((m.I 39 4) + 1)), (0, .ref 40), (1, .int x1)]) (st2 := [.int x1, .ref 40]) (h2 := (sh_rep m12.T m12.I m12.J)) rfl rfl rfl ?_
    exact kk
  rcases sh_bt_e e with ⟨m13, e3, rfl⟩ | ⟨r3, m13, e3, e⟩
  · obtain ⟨rfl, rfl⟩ := tg
    exact sh_Lk_tV (k2 := 72) (a := 39) (as := [.ref 40, .int x1]) (rest := []) rfl rfl rfl (fun hT => (sh_s39 hT.st)) rfl rfl ⟨Nat.le_of_ble_eq_true rfl, Nat.le_of_ble_eq_true rfl⟩ (hQ.f72 e3 ⟨rfl, rfl⟩) rfl (show d + 1013 + 1 ≤ d + 1 + 1013 by omega) (show 8 + (2 + 11) + (40 * d + 40310) ≤ 40 * (d + 1) + 40310 by omega) (by omega) (by omega) rfl
  refine sh_Lk_cV (r := none) (st2 := []) (pc2 := 37) (k2 := 72) (a := 39) (as := [.ref 40, .int x1]) (rest := []) rfl rfl rfl (fun hT => (sh_s39 hT.st)) rfl rfl ⟨Nat.le_of_ble_eq_true rfl, Nat.le_of_ble_eq_true rfl⟩ (hQ.f72 e3 ⟨rfl, rfl⟩) rfl rfl (show d + 1013 + 1 ≤ d + 1 + 1013 by omega) (show 8 + (2 + 11) + (40 * d + 40310) ≤ 40 * (d + 1) + 40310 by omega) ?_
  refine sh_Lk_lift (T := m13.T) (I := m13.I) (J := m13.J) (s := m13.s) (pc2 := 38) (lv2 := [(2, .int ((m.I 39 4) + 1)), (0, .ref 40), (1, .int x1)]) (st2 := [.ref 40]) (I2 := m13.I) (J2 := m13.J) (fun hT v kk => ?_) ?_
  · refine sh_w (i := (.aload_n 0)) (len := 1) (pc2 := 38) (lv2 := [(2, .int ((m.I 39 4) + 1)), (0, .ref 40), (1, .int x1)]) (st2 := [.ref 40]) (h2 := (sh_rep m13.T m13.I m13.J)) rfl rfl rfl ?_
    exact kk
  obtain ⟨r4, e4, e⟩ := sh_bc_e e
  refine sh_Lk_cV (r := (some (.int r4))) (st2 := [.int r4]) (pc2 := 41) (k2 := 45) (a := 39) (as := [.ref 40]) (rest := []) rfl rfl rfl (fun hT => (sh_s39 hT.st)) rfl rfl ⟨Nat.le_of_ble_eq_true rfl, Nat.le_of_ble_eq_true rfl⟩ (sl_45 e4 ⟨rfl, rfl⟩) rfl rfl (show 9 + 1 ≤ d + 1 + 1013 by omega) (show 8 + (1 + 11) + (221) ≤ 40 * (d + 1) + 40310 by omega) ?_
  refine sh_Lk_lift (T := m13.T) (I := m13.I) (J := m13.J) (s := m13.s) (pc2 := 43) (lv2 := [(2, .int ((m.I 39 4) + 1)), (0, .ref 40), (1, .int x1)]) (st2 := [.int 6, .int r4]) (I2 := m13.I) (J2 := m13.J) (fun hT v kk => ?_) ?_
  · refine sh_w (i := (.bipush 6)) (len := 2) (pc2 := 43) (lv2 := [(2, .int ((m.I 39 4) + 1)), (0, .ref 40), (1, .int x1)]) (st2 := [.int 6, .int r4]) (h2 := (sh_rep m13.T m13.I m13.J)) rfl rfl rfl ?_
    exact kk
  rcases sh_ite e with ⟨c, e⟩ | ⟨c, e⟩
  · refine sh_Lk_lift (T := m13.T) (I := m13.I) (J := m13.J) (s := m13.s) (pc2 := 57) (lv2 := [(2, .int ((m.I 39 4) + 1)), (0, .ref 40), (1, .int x1)]) (st2 := [.int 0, .int (m13.I 39 4), .int 8, .ref 29]) (I2 := m13.I) (J2 := m13.J) (fun hT v kk => ?_) ?_
    · refine sh_jc (c := .ne) (off := (33)) (pc2 := 46) false rfl (sh_Bnef c) rfl ?_
      refine sh_w (i := (.aload_n 0)) (len := 1) (pc2 := 47) (lv2 := [(2, .int ((m.I 39 4) + 1)), (0, .ref 40), (1, .int x1)]) (st2 := [.ref 40]) (h2 := (sh_rep m13.T m13.I m13.J)) rfl rfl rfl ?_
      refine sh_gR1 (len := 3) (x := .ref 29) (pc2 := 50) rfl rfl (sh_s39 hT.st) rfl rfl ?_
      refine sh_w (i := (.bipush 8)) (len := 2) (pc2 := 52) (lv2 := [(2, .int ((m.I 39 4) + 1)), (0, .ref 40), (1, .int x1)]) (st2 := [.int 8, .ref 29]) (h2 := (sh_rep m13.T m13.I m13.J)) rfl rfl rfl ?_
      refine sh_w (i := (.aload_n 0)) (len := 1) (pc2 := 53) (lv2 := [(2, .int ((m.I 39 4) + 1)), (0, .ref 40), (1, .int x1)]) (st2 := [.ref 40, .int 8, .ref 29]) (h2 := (sh_rep m13.T m13.I m13.J)) rfl rfl rfl ?_
      refine sh_gI1 (len := 3) (x := m13.I 39 4) (pc2 := 56) rfl rfl (sh_s39 hT.st) rfl rfl rfl ?_
      refine sh_w (i := (.iconst 0)) (len := 1) (pc2 := 57) (lv2 := [(2, .int ((m.I 39 4) + 1)), (0, .ref 40), (1, .int x1)]) (st2 := [.int 0, .int (m13.I 39 4), .int 8, .ref 29]) (h2 := (sh_rep m13.T m13.I m13.J)) rfl rfl rfl ?_
      exact kk
    obtain ⟨r5, m15, e5, e⟩ := sh_bn_e e
    refine sh_Lk_cV (r := (some (.int r5))) (st2 := [.int r5]) (pc2 := 60) (k2 := 56) (a := 28) (as := [.ref 29, .int 8, .int (m13.I 39 4), .int 0]) (rest := []) rfl rfl rfl (fun hT => (sh_s28 hT.st)) rfl rfl ⟨Nat.le_of_ble_eq_true rfl, Nat.le_of_ble_eq_true rfl⟩ (sl_56 e5 ⟨rfl, rfl⟩) rfl rfl (show 8 + 1 ≤ d + 1 + 1013 by omega) (show 8 + (4 + 11) + (200) ≤ 40 * (d + 1) + 40310 by omega) ?_
    refine sh_Lk_lift (T := m15.T) (I := m15.I) (J := m15.J) (s := m15.s) (pc2 := 73) (lv2 := [(2, .int ((m.I 39 4) + 1)), (0, .ref 40), (1, .int x1)]) (st2 := [.int x1, .ref 40]) (I2 := sh_u2 m15.I 39 4 ((m15.I 39 4) + 1)) (J2 := m15.J) (fun hT v kk => ?_) ?_
    · refine sh_w (i := .pop) (len := 1) (pc2 := 61) (lv2 := [(2, .int ((m.I 39 4) + 1)), (0, .ref 40), (1, .int x1)]) (st2 := []) (h2 := (sh_rep m15.T m15.I m15.J)) rfl rfl rfl ?_
      refine sh_w (i := (.aload_n 0)) (len := 1) (pc2 := 62) (lv2 := [(2, .int ((m.I 39 4) + 1)), (0, .ref 40), (1, .int x1)]) (st2 := [.ref 40]) (h2 := (sh_rep m15.T m15.I m15.J)) rfl rfl rfl ?_
      refine sh_w (i := .dup) (len := 1) (pc2 := 63) (lv2 := [(2, .int ((m.I 39 4) + 1)), (0, .ref 40), (1, .int x1)]) (st2 := [.ref 40, .ref 40]) (h2 := (sh_rep m15.T m15.I m15.J)) rfl rfl rfl ?_
      refine sh_gI1 (len := 3) (x := m15.I 39 4) (pc2 := 66) rfl rfl (sh_s39 hT.st) rfl rfl rfl ?_
      refine sh_w (i := (.iconst 1)) (len := 1) (pc2 := 67) (lv2 := [(2, .int ((m.I 39 4) + 1)), (0, .ref 40), (1, .int x1)]) (st2 := [.int 1, .int (m15.I 39 4), .ref 40]) (h2 := (sh_rep m15.T m15.I m15.J)) rfl rfl rfl ?_
      refine sh_w (i := .iadd) (len := 1) (pc2 := 68) (lv2 := [(2, .int ((m.I 39 4) + 1)), (0, .ref 40), (1, .int x1)]) (st2 := [.int ((m15.I 39 4) + 1), .ref 40]) (h2 := (sh_rep m15.T m15.I m15.J)) rfl rfl rfl ?_
      refine sh_pI1 (x := (m15.I 39 4) + 1) (pc2 := 71) rfl rfl (sh_s39 hT.st) rfl rfl rfl rfl ?_
      refine sh_w (i := (.aload_n 0)) (len := 1) (pc2 := 72) (lv2 := [(2, .int ((m.I 39 4) + 1)), (0, .ref 40), (1, .int x1)]) (st2 := [.ref 40]) (h2 := (sh_rep m15.T (sh_u2 m15.I 39 4 ((m15.I 39 4) + 1)) m15.J)) rfl rfl rfl ?_
      refine sh_w (i := (.iload_n 1)) (len := 1) (pc2 := 73) (lv2 := [(2, .int ((m.I 39 4) + 1)), (0, .ref 40), (1, .int x1)]) (st2 := [.int x1, .ref 40]) (h2 := (sh_rep m15.T (sh_u2 m15.I 39 4 ((m15.I 39 4) + 1)) m15.J)) rfl rfl rfl ?_
      exact kk
    rcases sh_bt_e e with ⟨m16, e6, rfl⟩ | ⟨r6, m16, e6, e⟩
    · obtain ⟨rfl, rfl⟩ := tg
      exact sh_Lk_tV (k2 := 72) (a := 39) (as := [.ref 40, .int x1]) (rest := []) rfl rfl rfl (fun hT => (sh_s39 hT.st)) rfl rfl ⟨Nat.le_of_ble_eq_true rfl, Nat.le_of_ble_eq_true rfl⟩ (hQ.f72 e6 ⟨rfl, rfl⟩) rfl (show d + 1013 + 1 ≤ d + 1 + 1013 by omega) (show 8 + (2 + 11) + (40 * d + 40310) ≤ 40 * (d + 1) + 40310 by omega) (by omega) (by omega) rfl
    refine sh_Lk_cV (r := none) (st2 := []) (pc2 := 76) (k2 := 72) (a := 39) (as := [.ref 40, .int x1]) (rest := []) rfl rfl rfl (fun hT => (sh_s39 hT.st)) rfl rfl ⟨Nat.le_of_ble_eq_true rfl, Nat.le_of_ble_eq_true rfl⟩ (hQ.f72 e6 ⟨rfl, rfl⟩) rfl rfl (show d + 1013 + 1 ≤ d + 1 + 1013 by omega) (show 8 + (2 + 11) + (40 * d + 40310) ≤ 40 * (d + 1) + 40310 by omega) ?_
    exact sh_Lk_sub (sh_sub_c rfl (sh_sub_c rfl (sh_sub_n))) (sl_71_76 hQ e tg)
  · refine sh_Lk_lift (T := m13.T) (I := m13.I) (J := m13.J) (s := m13.s) (pc2 := 76) (lv2 := [(2, .int ((m.I 39 4) + 1)), (0, .ref 40), (1, .int x1)]) (st2 := []) (I2 := m13.I) (J2 := m13.J) (fun hT v kk => ?_) ?_
    · refine sh_jc (c := .ne) (off := (33)) (pc2 := 76) true rfl (sh_Bnet c) rfl ?_
      exact kk
    exact sh_Lk_sub (sh_sub_c rfl (sh_sub_c rfl (sh_sub_n))) (sl_71_76 hQ e tg)
theorem sl_72 {Q : sh_Q48} {d : Nat} {x1 : Int32} {m m2 : sh_X} {o : Outcome} {z : (Option Unit × sh_X)} (hQ : sh_QL48 Q d) (e : sf_72 Q x1 m = some z) (tg : (sh_tVt o m2) z) : sh_Lk 72 0 [(0, .ref 40), (1, .int x1)] [] m o m2 (d + 1 + 1013) (40 * (d + 1) + 40310) := by
  unfold sf_72 at e
  refine sh_Lk_lift (T := m.T) (I := m.I) (J := m.J) (s := m.s) (pc2 := 3) (lv2 := [(0, .ref 40), (1, .int x1)]) (st2 := [.int 123, .ref 40]) (I2 := m.I) (J2 := m.J) (fun hT v kk => ?_) ?_
  · refine sh_w (i := (.aload_n 0)) (len := 1) (pc2 := 1) (lv2 := [(0, .ref 40), (1, .int x1)]) (st2 := [.ref 40]) (h2 := (sh_rep m.T m.I m.J)) rfl rfl rfl ?_
    refine sh_w (i := (.bipush 123)) (len := 2) (pc2 := 3) (lv2 := [(0, .ref 40), (1, .int x1)]) (st2 := [.int 123, .ref 40]) (h2 := (sh_rep m.T m.I m.J)) rfl rfl rfl ?_
    exact kk
  rcases sh_bt_e e with ⟨m11, e1, rfl⟩ | ⟨r1, m11, e1, e⟩
  · obtain ⟨rfl, rfl⟩ := tg
    exact sh_Lk_tV (k2 := 48) (a := 39) (as := [.ref 40, .int 123]) (rest := []) rfl rfl rfl (fun hT => (sh_s39 hT.st)) rfl rfl ⟨Nat.le_of_ble_eq_true rfl, Nat.le_of_ble_eq_true rfl⟩ (sl_48 e1 ⟨rfl, rfl⟩) rfl (show 10 + 1 ≤ d + 1 + 1013 by omega) (show 8 + (2 + 11) + (242) ≤ 40 * (d + 1) + 40310 by omega) (by omega) (by omega) rfl
  refine sh_Lk_cV (r := none) (st2 := []) (pc2 := 6) (k2 := 48) (a := 39) (as := [.ref 40, .int 123]) (rest := []) rfl rfl rfl (fun hT => (sh_s39 hT.st)) rfl rfl ⟨Nat.le_of_ble_eq_true rfl, Nat.le_of_ble_eq_true rfl⟩ (sl_48 e1 ⟨rfl, rfl⟩) rfl rfl (show 10 + 1 ≤ d + 1 + 1013 by omega) (show 8 + (2 + 11) + (242) ≤ 40 * (d + 1) + 40310 by omega) ?_
  refine sh_Lk_lift (T := m11.T) (I := m11.I) (J := m11.J) (s := m11.s) (pc2 := 10) (lv2 := [(0, .ref 40), (1, .int x1)]) (st2 := [.int (x1 + 1), .ref 40]) (I2 := m11.I) (J2 := m11.J) (fun hT v kk => ?_) ?_
  · refine sh_w (i := (.aload_n 0)) (len := 1) (pc2 := 7) (lv2 := [(0, .ref 40), (1, .int x1)]) (st2 := [.ref 40]) (h2 := (sh_rep m11.T m11.I m11.J)) rfl rfl rfl ?_
    refine sh_w (i := (.iload_n 1)) (len := 1) (pc2 := 8) (lv2 := [(0, .ref 40), (1, .int x1)]) (st2 := [.int x1, .ref 40]) (h2 := (sh_rep m11.T m11.I m11.J)) rfl rfl rfl ?_
    refine sh_w (i := (.iconst 1)) (len := 1) (pc2 := 9) (lv2 := [(0, .ref 40), (1, .int x1)]) (st2 := [.int 1, .int x1, .ref 40]) (h2 := (sh_rep m11.T m11.I m11.J)) rfl rfl rfl ?_
    refine sh_w (i := .iadd) (len := 1) (pc2 := 10) (lv2 := [(0, .ref 40), (1, .int x1)]) (st2 := [.int (x1 + 1), .ref 40]) (h2 := (sh_rep m11.T m11.I m11.J)) rfl rfl rfl ?_
    exact kk
  rcases sh_bt_e e with ⟨m12, e2, rfl⟩ | ⟨r2, m12, e2, e⟩
  · obtain ⟨rfl, rfl⟩ := tg
    exact sh_Lk_tV (k2 := 53) (a := 39) (as := [.ref 40, .int (x1 + 1)]) (rest := []) rfl rfl rfl (fun hT => (sh_s39 hT.st)) rfl rfl ⟨Nat.le_of_ble_eq_true rfl, Nat.le_of_ble_eq_true rfl⟩ (hQ.f53 e2 ⟨rfl, rfl⟩) rfl (show d + 1013 + 1 ≤ d + 1 + 1013 by omega) (show 8 + (3 + 11) + (40 * d + 40310) ≤ 40 * (d + 1) + 40310 by omega) (by omega) (by omega) rfl
  refine sh_Lk_cV (r := none) (st2 := []) (pc2 := 13) (k2 := 53) (a := 39) (as := [.ref 40, .int (x1 + 1)]) (rest := []) rfl rfl rfl (fun hT => (sh_s39 hT.st)) rfl rfl ⟨Nat.le_of_ble_eq_true rfl, Nat.le_of_ble_eq_true rfl⟩ (hQ.f53 e2 ⟨rfl, rfl⟩) rfl rfl (show d + 1013 + 1 ≤ d + 1 + 1013 by omega) (show 8 + (3 + 11) + (40 * d + 40310) ≤ 40 * (d + 1) + 40310 by omega) ?_
  refine sh_Lk_lift (T := m12.T) (I := m12.I) (J := m12.J) (s := m12.s) (pc2 := 16) (lv2 := [(0, .ref 40), (1, .int x1)]) (st2 := [.int 125, .ref 40]) (I2 := m12.I) (J2 := m12.J) (fun hT v kk => ?_) ?_
  · refine sh_w (i := (.aload_n 0)) (len := 1) (pc2 := 14) (lv2 := [(0, .ref 40), (1, .int x1)]) (st2 := [.ref 40]) (h2 := (sh_rep m12.T m12.I m12.J)) rfl rfl rfl ?_
    refine sh_w (i := (.bipush 125)) (len := 2) (pc2 := 16) (lv2 := [(0, .ref 40), (1, .int x1)]) (st2 := [.int 125, .ref 40]) (h2 := (sh_rep m12.T m12.I m12.J)) rfl rfl rfl ?_
    exact kk
  rcases sh_bt_e e with ⟨m13, e3, rfl⟩ | ⟨r3, m13, e3, e⟩
  · obtain ⟨rfl, rfl⟩ := tg
    exact sh_Lk_tV (k2 := 48) (a := 39) (as := [.ref 40, .int 125]) (rest := []) rfl rfl rfl (fun hT => (sh_s39 hT.st)) rfl rfl ⟨Nat.le_of_ble_eq_true rfl, Nat.le_of_ble_eq_true rfl⟩ (sl_48 e3 ⟨rfl, rfl⟩) rfl (show 10 + 1 ≤ d + 1 + 1013 by omega) (show 8 + (2 + 11) + (242) ≤ 40 * (d + 1) + 40310 by omega) (by omega) (by omega) rfl
  refine sh_Lk_cV (r := none) (st2 := []) (pc2 := 19) (k2 := 48) (a := 39) (as := [.ref 40, .int 125]) (rest := []) rfl rfl rfl (fun hT => (sh_s39 hT.st)) rfl rfl ⟨Nat.le_of_ble_eq_true rfl, Nat.le_of_ble_eq_true rfl⟩ (sl_48 e3 ⟨rfl, rfl⟩) rfl rfl (show 10 + 1 ≤ d + 1 + 1013 by omega) (show 8 + (2 + 11) + (242) ≤ 40 * (d + 1) + 40310 by omega) ?_
  obtain rfl := Option.some.inj e
  obtain ⟨rfl, rfl⟩ := tg
  exact sh_Lk_ret (i := .return_) rfl rfl rfl (by omega) (by omega)
theorem sl_73 {Q : sh_Q48} {d : Nat} {x1 : Int32} {m m2 : sh_X} {o : Outcome} {z : (Option Unit × sh_X)} (hQ : sh_QL48 Q d) (e : sf_73 Q x1 m = some z) (tg : (sh_tVt o m2) z) : sh_Lk 73 0 [(0, .ref 40), (1, .int x1)] [] m o m2 (d + 1 + 1013) (40 * (d + 1) + 40310) := by
  unfold sf_73 at e
  refine sh_Lk_lift (T := m.T) (I := m.I) (J := m.J) (s := m.s) (pc2 := 17) (lv2 := [(2, .int ((m.I 39 4) + 1)), (0, .ref 40), (1, .int x1)]) (st2 := [.int 1, .ref 40]) (I2 := sh_u2 m.I 39 4 ((m.I 39 4) + 1)) (J2 := m.J) (fun hT v kk => ?_) ?_
  · refine sh_w (i := (.aload_n 0)) (len := 1) (pc2 := 1) (lv2 := [(0, .ref 40), (1, .int x1)]) (st2 := [.ref 40]) (h2 := (sh_rep m.T m.I m.J)) rfl rfl rfl ?_
    refine sh_w (i := .dup) (len := 1) (pc2 := 2) (lv2 := [(0, .ref 40), (1, .int x1)]) (st2 := [.ref 40, .ref 40]) (h2 := (sh_rep m.T m.I m.J)) rfl rfl rfl ?_
    refine sh_gI1 (len := 3) (x := m.I 39 4) (pc2 := 5) rfl rfl (sh_s39 hT.st) rfl rfl rfl ?_
    refine sh_w (i := (.iconst 1)) (len := 1) (pc2 := 6) (lv2 := [(0, .ref 40), (1, .int x1)]) (st2 := [.int 1, .int (m.I 39 4), .ref 40]) (h2 := (sh_rep m.T m.I m.J)) rfl rfl rfl ?_
    refine sh_w (i := .iadd) (len := 1) (pc2 := 7) (lv2 := [(0, .ref 40), (1, .int x1)]) (st2 := [.int ((m.I 39 4) + 1), .ref 40]) (h2 := (sh_rep m.T m.I m.J)) rfl rfl rfl ?_
    refine sh_pI1 (x := (m.I 39 4) + 1) (pc2 := 10) rfl rfl (sh_s39 hT.st) rfl rfl rfl rfl ?_
    refine sh_w (i := (.aload_n 0)) (len := 1) (pc2 := 11) (lv2 := [(0, .ref 40), (1, .int x1)]) (st2 := [.ref 40]) (h2 := (sh_rep m.T (sh_u2 m.I 39 4 ((m.I 39 4) + 1)) m.J)) rfl rfl rfl ?_
    refine sh_gI1 (len := 3) (x := (m.I 39 4) + 1) (pc2 := 14) rfl rfl (sh_s39 hT.st) rfl rfl rfl ?_
    refine sh_w (i := (.istore_n 2)) (len := 1) (pc2 := 15) (lv2 := [(2, .int ((m.I 39 4) + 1)), (0, .ref 40), (1, .int x1)]) (st2 := []) (h2 := (sh_rep m.T (sh_u2 m.I 39 4 ((m.I 39 4) + 1)) m.J)) rfl rfl rfl ?_
    refine sh_w (i := (.aload_n 0)) (len := 1) (pc2 := 16) (lv2 := [(2, .int ((m.I 39 4) + 1)), (0, .ref 40), (1, .int x1)]) (st2 := [.ref 40]) (h2 := (sh_rep m.T (sh_u2 m.I 39 4 ((m.I 39 4) + 1)) m.J)) rfl rfl rfl ?_
    refine sh_w (i := (.iconst 1)) (len := 1) (pc2 := 17) (lv2 := [(2, .int ((m.I 39 4) + 1)), (0, .ref 40), (1, .int x1)]) (st2 := [.int 1, .ref 40]) (h2 := (sh_rep m.T (sh_u2 m.I 39 4 ((m.I 39 4) + 1)) m.J)) rfl rfl rfl ?_
    exact kk
  rcases sh_bt_e e with ⟨m11, e1, rfl⟩ | ⟨r1, m11, e1, e⟩
  · obtain ⟨rfl, rfl⟩ := tg
    exact sh_Lk_tV (k2 := 48) (a := 39) (as := [.ref 40, .int 1]) (rest := []) rfl rfl rfl (fun hT => (sh_s39 hT.st)) rfl rfl ⟨Nat.le_of_ble_eq_true rfl, Nat.le_of_ble_eq_true rfl⟩ (sl_48 e1 ⟨rfl, rfl⟩) rfl (show 10 + 1 ≤ d + 1 + 1013 by omega) (show 8 + (2 + 11) + (242) ≤ 40 * (d + 1) + 40310 by omega) (by omega) (by omega) rfl
  refine sh_Lk_cV (r := none) (st2 := []) (pc2 := 20) (k2 := 48) (a := 39) (as := [.ref 40, .int 1]) (rest := []) rfl rfl rfl (fun hT => (sh_s39 hT.st)) rfl rfl ⟨Nat.le_of_ble_eq_true rfl, Nat.le_of_ble_eq_true rfl⟩ (sl_48 e1 ⟨rfl, rfl⟩) rfl rfl (show 10 + 1 ≤ d + 1 + 1013 by omega) (show 8 + (2 + 11) + (242) ≤ 40 * (d + 1) + 40310 by omega) ?_
  refine sh_Lk_lift (T := m11.T) (I := m11.I) (J := m11.J) (s := m11.s) (pc2 := 23) (lv2 := [(2, .int ((m.I 39 4) + 1)), (0, .ref 40), (1, .int x1)]) (st2 := [.int 11, .ref 40]) (I2 := m11.I) (J2 := m11.J) (fun hT v kk => ?_) ?_
  · refine sh_w (i := (.aload_n 0)) (len := 1) (pc2 := 21) (lv2 := [(2, .int ((m.I 39 4) + 1)), (0, .ref 40), (1, .int x1)]) (st2 := [.ref 40]) (h2 := (sh_rep m11.T m11.I m11.J)) rfl rfl rfl ?_
    refine sh_w (i := (.bipush 11)) (len := 2) (pc2 := 23) (lv2 := [(2, .int ((m.I 39 4) + 1)), (0, .ref 40), (1, .int x1)]) (st2 := [.int 11, .ref 40]) (h2 := (sh_rep m11.T m11.I m11.J)) rfl rfl rfl ?_
    exact kk
  rcases sh_bt_e e with ⟨m12, e2, rfl⟩ | ⟨r2, m12, e2, e⟩
  · obtain ⟨rfl, rfl⟩ := tg
    exact sh_Lk_tV (k2 := 48) (a := 39) (as := [.ref 40, .int 11]) (rest := []) rfl rfl rfl (fun hT => (sh_s39 hT.st)) rfl rfl ⟨Nat.le_of_ble_eq_true rfl, Nat.le_of_ble_eq_true rfl⟩ (sl_48 e2 ⟨rfl, rfl⟩) rfl (show 10 + 1 ≤ d + 1 + 1013 by omega) (show 8 + (2 + 11) + (242) ≤ 40 * (d + 1) + 40310 by omega) (by omega) (by omega) rfl
  refine sh_Lk_cV (r := none) (st2 := []) (pc2 := 26) (k2 := 48) (a := 39) (as := [.ref 40, .int 11]) (rest := []) rfl rfl rfl (fun hT => (sh_s39 hT.st)) rfl rfl ⟨Nat.le_of_ble_eq_true rfl, Nat.le_of_ble_eq_true rfl⟩ (sl_48 e2 ⟨rfl, rfl⟩) rfl rfl (show 10 + 1 ≤ d + 1 + 1013 by omega) (show 8 + (2 + 11) + (242) ≤ 40 * (d + 1) + 40310 by omega) ?_
  refine sh_Lk_lift (T := m12.T) (I := m12.I) (J := m12.J) (s := m12.s) (pc2 := 28) (lv2 := [(2, .int ((m.I 39 4) + 1)), (0, .ref 40), (1, .int x1)]) (st2 := [.int 2, .ref 40]) (I2 := m12.I) (J2 := m12.J) (fun hT v kk => ?_) ?_
  · refine sh_w (i := (.aload_n 0)) (len := 1) (pc2 := 27) (lv2 := [(2, .int ((m.I 39 4) + 1)), (0, .ref 40), (1, .int x1)]) (st2 := [.ref 40]) (h2 := (sh_rep m12.T m12.I m12.J)) rfl rfl rfl ?_
    refine sh_w (i := (.iconst 2)) (len := 1) (pc2 := 28) (lv2 := [(2, .int ((m.I 39 4) + 1)), (0, .ref 40), (1, .int x1)]) (st2 := [.int 2, .ref 40]) (h2 := (sh_rep m12.T m12.I m12.J)) rfl rfl rfl ?_
    exact kk
  rcases sh_bt_e e with ⟨m13, e3, rfl⟩ | ⟨r3, m13, e3, e⟩
  · obtain ⟨rfl, rfl⟩ := tg
    exact sh_Lk_tV (k2 := 48) (a := 39) (as := [.ref 40, .int 2]) (rest := []) rfl rfl rfl (fun hT => (sh_s39 hT.st)) rfl rfl ⟨Nat.le_of_ble_eq_true rfl, Nat.le_of_ble_eq_true rfl⟩ (sl_48 e3 ⟨rfl, rfl⟩) rfl (show 10 + 1 ≤ d + 1 + 1013 by omega) (show 8 + (2 + 11) + (242) ≤ 40 * (d + 1) + 40310 by omega) (by omega) (by omega) rfl
  refine sh_Lk_cV (r := none) (st2 := []) (pc2 := 31) (k2 := 48) (a := 39) (as := [.ref 40, .int 2]) (rest := []) rfl rfl rfl (fun hT => (sh_s39 hT.st)) rfl rfl ⟨Nat.le_of_ble_eq_true rfl, Nat.le_of_ble_eq_true rfl⟩ (sl_48 e3 ⟨rfl, rfl⟩) rfl rfl (show 10 + 1 ≤ d + 1 + 1013 by omega) (show 8 + (2 + 11) + (242) ≤ 40 * (d + 1) + 40310 by omega) ?_
  refine sh_Lk_lift (T := m13.T) (I := m13.I) (J := m13.J) (s := m13.s) (pc2 := 35) (lv2 := [(2, .int ((m.I 39 4) + 1)), (0, .ref 40), (1, .int x1)]) (st2 := [.int 11822, .ref 40]) (I2 := m13.I) (J2 := m13.J) (fun hT v kk => ?_) ?_
  · refine sh_w (i := (.aload_n 0)) (len := 1) (pc2 := 32) (lv2 := [(2, .int ((m.I 39 4) + 1)), (0, .ref 40), (1, .int x1)]) (st2 := [.ref 40]) (h2 := (sh_rep m13.T m13.I m13.J)) rfl rfl rfl ?_
    refine sh_w (i := (.sipush 11822)) (len := 3) (pc2 := 35) (lv2 := [(2, .int ((m.I 39 4) + 1)), (0, .ref 40), (1, .int x1)]) (st2 := [.int 11822, .ref 40]) (h2 := (sh_rep m13.T m13.I m13.J)) rfl rfl rfl ?_
    exact kk
  rcases sh_bt_e e with ⟨m14, e4, rfl⟩ | ⟨r4, m14, e4, e⟩
  · obtain ⟨rfl, rfl⟩ := tg
    exact sh_Lk_tV (k2 := 48) (a := 39) (as := [.ref 40, .int 11822]) (rest := []) rfl rfl rfl (fun hT => (sh_s39 hT.st)) rfl rfl ⟨Nat.le_of_ble_eq_true rfl, Nat.le_of_ble_eq_true rfl⟩ (sl_48 e4 ⟨rfl, rfl⟩) rfl (show 10 + 1 ≤ d + 1 + 1013 by omega) (show 8 + (2 + 11) + (242) ≤ 40 * (d + 1) + 40310 by omega) (by omega) (by omega) rfl
  refine sh_Lk_cV (r := none) (st2 := []) (pc2 := 38) (k2 := 48) (a := 39) (as := [.ref 40, .int 11822]) (rest := []) rfl rfl rfl (fun hT => (sh_s39 hT.st)) rfl rfl ⟨Nat.le_of_ble_eq_true rfl, Nat.le_of_ble_eq_true rfl⟩ (sl_48 e4 ⟨rfl, rfl⟩) rfl rfl (show 10 + 1 ≤ d + 1 + 1013 by omega) (show 8 + (2 + 11) + (242) ≤ 40 * (d + 1) + 40310 by omega) ?_
  refine sh_Lk_lift (T := m14.T) (I := m14.I) (J := m14.J) (s := m14.s) (pc2 := 40) (lv2 := [(2, .int ((m.I 39 4) + 1)), (0, .ref 40), (1, .int x1)]) (st2 := [.int 2, .ref 40]) (I2 := m14.I) (J2 := m14.J) (fun hT v kk => ?_) ?_
  · refine sh_w (i := (.aload_n 0)) (len := 1) (pc2 := 39) (lv2 := [(2, .int ((m.I 39 4) + 1)), (0, .ref 40), (1, .int x1)]) (st2 := [.ref 40]) (h2 := (sh_rep m14.T m14.I m14.J)) rfl rfl rfl ?_
    refine sh_w (i := (.iconst 2)) (len := 1) (pc2 := 40) (lv2 := [(2, .int ((m.I 39 4) + 1)), (0, .ref 40), (1, .int x1)]) (st2 := [.int 2, .ref 40]) (h2 := (sh_rep m14.T m14.I m14.J)) rfl rfl rfl ?_
    exact kk
  rcases sh_bt_e e with ⟨m15, e5, rfl⟩ | ⟨r5, m15, e5, e⟩
  · obtain ⟨rfl, rfl⟩ := tg
    exact sh_Lk_tV (k2 := 48) (a := 39) (as := [.ref 40, .int 2]) (rest := []) rfl rfl rfl (fun hT => (sh_s39 hT.st)) rfl rfl ⟨Nat.le_of_ble_eq_true rfl, Nat.le_of_ble_eq_true rfl⟩ (sl_48 e5 ⟨rfl, rfl⟩) rfl (show 10 + 1 ≤ d + 1 + 1013 by omega) (show 8 + (2 + 11) + (242) ≤ 40 * (d + 1) + 40310 by omega) (by omega) (by omega) rfl
  refine sh_Lk_cV (r := none) (st2 := []) (pc2 := 43) (k2 := 48) (a := 39) (as := [.ref 40, .int 2]) (rest := []) rfl rfl rfl (fun hT => (sh_s39 hT.st)) rfl rfl ⟨Nat.le_of_ble_eq_true rfl, Nat.le_of_ble_eq_true rfl⟩ (sl_48 e5 ⟨rfl, rfl⟩) rfl rfl (show 10 + 1 ≤ d + 1 + 1013 by omega) (show 8 + (2 + 11) + (242) ≤ 40 * (d + 1) + 40310 by omega) ?_
  refine sh_Lk_lift (T := m15.T) (I := m15.I) (J := m15.J) (s := m15.s) (pc2 := 51) (lv2 := [(2, .int ((m.I 39 4) + 1)), (0, .ref 40), (1, .int x1)]) (st2 := [.int 0, .int ((m.I 39 4) + 1), .int 10, .ref 29]) (I2 := m15.I) (J2 := m15.J) (fun hT v kk => ?_) ?_
  · refine sh_w (i := (.aload_n 0)) (len := 1) (pc2 := 44) (lv2 := [(2, .int ((m.I 39 4) + 1)), (0, .ref 40), (1, .int x1)]) (st2 := [.ref 40]) (h2 := (sh_rep m15.T m15.I m15.J)) rfl rfl rfl ?_
    refine sh_gR1 (len := 3) (x := .ref 29) (pc2 := 47) rfl rfl (sh_s39 hT.st) rfl rfl ?_
    refine sh_w (i := (.bipush 10)) (len := 2) (pc2 := 49) (lv2 := [(2, .int ((m.I 39 4) + 1)), (0, .ref 40), (1, .int x1)]) (st2 := [.int 10, .ref 29]) (h2 := (sh_rep m15.T m15.I m15.J)) rfl rfl rfl ?_
    refine sh_w (i := (.iload_n 2)) (len := 1) (pc2 := 50) (lv2 := [(2, .int ((m.I 39 4) + 1)), (0, .ref 40), (1, .int x1)]) (st2 := [.int ((m.I 39 4) + 1), .int 10, .ref 29]) (h2 := (sh_rep m15.T m15.I m15.J)) rfl rfl rfl ?_
    refine sh_w (i := (.iconst 0)) (len := 1) (pc2 := 51) (lv2 := [(2, .int ((m.I 39 4) + 1)), (0, .ref 40), (1, .int x1)]) (st2 := [.int 0, .int ((m.I 39 4) + 1), .int 10, .ref 29]) (h2 := (sh_rep m15.T m15.I m15.J)) rfl rfl rfl ?_
    exact kk
  obtain ⟨r6, m16, e6, e⟩ := sh_bn_e e
  refine sh_Lk_cV (r := (some (.int r6))) (st2 := [.int r6]) (pc2 := 54) (k2 := 56) (a := 28) (as := [.ref 29, .int 10, .int ((m.I 39 4) + 1), .int 0]) (rest := []) rfl rfl rfl (fun hT => (sh_s28 hT.st)) rfl rfl ⟨Nat.le_of_ble_eq_true rfl, Nat.le_of_ble_eq_true rfl⟩ (sl_56 e6 ⟨rfl, rfl⟩) rfl rfl (show 8 + 1 ≤ d + 1 + 1013 by omega) (show 8 + (4 + 11) + (200) ≤ 40 * (d + 1) + 40310 by omega) ?_
  refine sh_Lk_lift (T := m16.T) (I := m16.I) (J := m16.J) (s := m16.s) (pc2 := 57) (lv2 := [(3, .int r6), (2, .int ((m.I 39 4) + 1)), (0, .ref 40), (1, .int x1)]) (st2 := [.int x1, .ref 40]) (I2 := m16.I) (J2 := m16.J) (fun hT v kk => ?_) ?_
  · refine sh_w (i := (.istore_n 3)) (len := 1) (pc2 := 55) (lv2 := [(3, .int r6), (2, .int ((m.I 39 4) + 1)), (0, .ref 40), (1, .int x1)]) (st2 := []) (h2 := (sh_rep m16.T m16.I m16.J)) rfl rfl rfl ?_
    refine sh_w (i := (.aload_n 0)) (len := 1) (pc2 := 56) (lv2 := [(3, .int r6), (2, .int ((m.I 39 4) + 1)), (0, .ref 40), (1, .int x1)]) (st2 := [.ref 40]) (h2 := (sh_rep m16.T m16.I m16.J)) rfl rfl rfl ?_
    refine sh_w (i := (.iload_n 1)) (len := 1) (pc2 := 57) (lv2 := [(3, .int r6), (2, .int ((m.I 39 4) + 1)), (0, .ref 40), (1, .int x1)]) (st2 := [.int x1, .ref 40]) (h2 := (sh_rep m16.T m16.I m16.J)) rfl rfl rfl ?_
    exact kk
  rcases sh_bt_e e with ⟨m17, e7, rfl⟩ | ⟨r7, m17, e7, e⟩
  · obtain ⟨rfl, rfl⟩ := tg
    exact sh_Lk_tV (k2 := 72) (a := 39) (as := [.ref 40, .int x1]) (rest := []) rfl rfl rfl (fun hT => (sh_s39 hT.st)) rfl rfl ⟨Nat.le_of_ble_eq_true rfl, Nat.le_of_ble_eq_true rfl⟩ (hQ.f72 e7 ⟨rfl, rfl⟩) rfl (show d + 1013 + 1 ≤ d + 1 + 1013 by omega) (show 8 + (2 + 11) + (40 * d + 40310) ≤ 40 * (d + 1) + 40310 by omega) (by omega) (by omega) rfl
  refine sh_Lk_cV (r := none) (st2 := []) (pc2 := 60) (k2 := 72) (a := 39) (as := [.ref 40, .int x1]) (rest := []) rfl rfl rfl (fun hT => (sh_s39 hT.st)) rfl rfl ⟨Nat.le_of_ble_eq_true rfl, Nat.le_of_ble_eq_true rfl⟩ (hQ.f72 e7 ⟨rfl, rfl⟩) rfl rfl (show d + 1013 + 1 ≤ d + 1 + 1013 by omega) (show 8 + (2 + 11) + (40 * d + 40310) ≤ 40 * (d + 1) + 40310 by omega) ?_
  refine sh_Lk_lift (T := m17.T) (I := m17.I) (J := m17.J) (s := m17.s) (pc2 := 68) (lv2 := [(3, .int r6), (2, .int ((m.I 39 4) + 1)), (0, .ref 40), (1, .int x1)]) (st2 := [.int r6, .int ((m.I 39 4) + 1), .int 11, .ref 29]) (I2 := m17.I) (J2 := m17.J) (fun hT v kk => ?_) ?_
  · refine sh_w (i := (.aload_n 0)) (len := 1) (pc2 := 61) (lv2 := [(3, .int r6), (2, .int ((m.I 39 4) + 1)), (0, .ref 40), (1, .int x1)]) (st2 := [.ref 40]) (h2 := (sh_rep m17.T m17.I m17.J)) rfl rfl rfl ?_
    refine sh_gR1 (len := 3) (x := .ref 29) (pc2 := 64) rfl rfl (sh_s39 hT.st) rfl rfl ?_
    refine sh_w (i := (.bipush 11)) (len := 2) (pc2 := 66) (lv2 := [(3, .int r6), (2, .int ((m.I 39 4) + 1)), (0, .ref 40), (1, .int x1)]) (st2 := [.int 11, .ref 29]) (h2 := (sh_rep m17.T m17.I m17.J)) rfl rfl rfl ?_
    refine sh_w (i := (.iload_n 2)) (len := 1) (pc2 := 67) (lv2 := [(3, .int r6), (2, .int ((m.I 39 4) + 1)), (0, .ref 40), (1, .int x1)]) (st2 := [.int ((m.I 39 4) + 1), .int 11, .ref 29]) (h2 := (sh_rep m17.T m17.I m17.J)) rfl rfl rfl ?_
    refine sh_w (i := (.iload_n 3)) (len := 1) (pc2 := 68) (lv2 := [(3, .int r6), (2, .int ((m.I 39 4) + 1)), (0, .ref 40), (1, .int x1)]) (st2 := [.int r6, .int ((m.I 39 4) + 1), .int 11, .ref 29]) (h2 := (sh_rep m17.T m17.I m17.J)) rfl rfl rfl ?_
    exact kk
  obtain ⟨r8, m18, e8, e⟩ := sh_bn_e e
  refine sh_Lk_cV (r := (some (.int r8))) (st2 := [.int r8]) (pc2 := 71) (k2 := 56) (a := 28) (as := [.ref 29, .int 11, .int ((m.I 39 4) + 1), .int r6]) (rest := []) rfl rfl rfl (fun hT => (sh_s28 hT.st)) rfl rfl ⟨Nat.le_of_ble_eq_true rfl, Nat.le_of_ble_eq_true rfl⟩ (sl_56 e8 ⟨rfl, rfl⟩) rfl rfl (show 8 + 1 ≤ d + 1 + 1013 by omega) (show 8 + (4 + 11) + (200) ≤ 40 * (d + 1) + 40310 by omega) ?_
  refine sh_Lk_lift (T := m18.T) (I := m18.I) (J := m18.J) (s := m18.s) (pc2 := 84) (lv2 := [(3, .int r6), (2, .int ((m.I 39 4) + 1)), (0, .ref 40), (1, .int x1)]) (st2 := [.int (m18.I 28 10), .int r6, .ref 29]) (I2 := m18.I) (J2 := m18.J) (fun hT v kk => ?_) ?_
  · refine sh_w (i := .pop) (len := 1) (pc2 := 72) (lv2 := [(3, .int r6), (2, .int ((m.I 39 4) + 1)), (0, .ref 40), (1, .int x1)]) (st2 := []) (h2 := (sh_rep m18.T m18.I m18.J)) rfl rfl rfl ?_
    refine sh_w (i := (.aload_n 0)) (len := 1) (pc2 := 73) (lv2 := [(3, .int r6), (2, .int ((m.I 39 4) + 1)), (0, .ref 40), (1, .int x1)]) (st2 := [.ref 40]) (h2 := (sh_rep m18.T m18.I m18.J)) rfl rfl rfl ?_
    refine sh_gR1 (len := 3) (x := .ref 29) (pc2 := 76) rfl rfl (sh_s39 hT.st) rfl rfl ?_
    refine sh_w (i := (.iload_n 3)) (len := 1) (pc2 := 77) (lv2 := [(3, .int r6), (2, .int ((m.I 39 4) + 1)), (0, .ref 40), (1, .int x1)]) (st2 := [.int r6, .ref 29]) (h2 := (sh_rep m18.T m18.I m18.J)) rfl rfl rfl ?_
    refine sh_w (i := (.aload_n 0)) (len := 1) (pc2 := 78) (lv2 := [(3, .int r6), (2, .int ((m.I 39 4) + 1)), (0, .ref 40), (1, .int x1)]) (st2 := [.ref 40, .int r6, .ref 29]) (h2 := (sh_rep m18.T m18.I m18.J)) rfl rfl rfl ?_
    refine sh_gR1 (len := 3) (x := .ref 29) (pc2 := 81) rfl rfl (sh_s39 hT.st) rfl rfl ?_
    refine sh_gI1 (len := 3) (x := m18.I 28 10) (pc2 := 84) rfl rfl (sh_s28 hT.st) rfl rfl rfl ?_
    exact kk
  obtain ⟨r9, m19, e9, e⟩ := sh_bn_e e
  refine sh_Lk_cV (r := none) (st2 := []) (pc2 := 87) (k2 := 63) (a := 28) (as := [.ref 29, .int r6, .int (m18.I 28 10)]) (rest := []) rfl rfl rfl (fun hT => (sh_s28 hT.st)) rfl rfl ⟨Nat.le_of_ble_eq_true rfl, Nat.le_of_ble_eq_true rfl⟩ (sl_63 e9 ⟨rfl, rfl⟩) rfl rfl (show 9 + 1 ≤ d + 1 + 1013 by omega) (show 8 + (3 + 11) + (221) ≤ 40 * (d + 1) + 40310 by omega) ?_
  obtain rfl := Option.some.inj e
  obtain ⟨rfl, rfl⟩ := tg
  exact sh_Lk_ret (i := .return_) rfl rfl rfl (by omega) (by omega)
theorem sq_48_l : ∀ d, sh_QL48 (sq_48 d) d
  | 0 => ⟨(fun h _ => by cases h), (fun h _ => by cases h), (fun h _ => by cases h), (fun h _ => by cases h), (fun h _ => by cases h)⟩
  | d + 1 => ⟨(fun h t => sl_53 (sq_48_l d) h t), (fun h t => sl_55 (sq_48_l d) h t), (fun h t => sl_71 (sq_48_l d) h t), (fun h t => sl_72 (sq_48_l d) h t), (fun h t => sl_73 (sq_48_l d) h t)⟩
theorem sl_47_25 {x1 : Int32} {m m2 : sh_X} {o : Outcome} {z : (Option Unit × sh_X)} (e : sf_47_25 x1 m = some z) (tg : (sh_tVt o m2) z) : sh_Lk 47 25 [(0, .ref 40), (1, .int x1)] [] m o m2 2014 80332 := by
  unfold sf_47_25 at e
  refine sh_Lk_lift (T := m.T) (I := m.I) (J := m.J) (s := m.s) (pc2 := 37) (lv2 := [(0, .ref 40), (1, .int x1)]) (st2 := [.int (m.I 39 4), .int x1, .ref 30]) (I2 := m.I) (J2 := m.J) (fun hT v kk => ?_) ?_
  · refine sh_w (i := (.aload_n 0)) (len := 1) (pc2 := 26) (lv2 := [(0, .ref 40), (1, .int x1)]) (st2 := [.ref 40]) (h2 := (sh_rep m.T m.I m.J)) rfl rfl rfl ?_
    refine sh_gR1 (len := 3) (x := .ref 29) (pc2 := 29) rfl rfl (sh_s39 hT.st) rfl rfl ?_
    refine sh_gR1 (len := 3) (x := .ref 30) (pc2 := 32) rfl rfl (sh_s28 hT.st) rfl rfl ?_
    refine sh_w (i := (.iload_n 1)) (len := 1) (pc2 := 33) (lv2 := [(0, .ref 40), (1, .int x1)]) (st2 := [.int x1, .ref 30]) (h2 := (sh_rep m.T m.I m.J)) rfl rfl rfl ?_
    refine sh_w (i := (.aload_n 0)) (len := 1) (pc2 := 34) (lv2 := [(0, .ref 40), (1, .int x1)]) (st2 := [.ref 40, .int x1, .ref 30]) (h2 := (sh_rep m.T m.I m.J)) rfl rfl rfl ?_
    refine sh_gI1 (len := 3) (x := m.I 39 4) (pc2 := 37) rfl rfl (sh_s39 hT.st) rfl rfl rfl ?_
    exact kk
  obtain ⟨c, e⟩ := sh_gd e
  refine sh_Lk_lift (T := m.T) (I := m.I) (J := m.J) (s := m.s) (pc2 := 40) (lv2 := [(0, .ref 40), (1, .int x1)]) (st2 := [.int 1, .ref 40]) (I2 := sh_u2 m.I 29 (Int32.toNatClampNeg x1) (m.I 39 4)) (J2 := m.J) (fun hT v kk => ?_) ?_
  · refine sh_is1 (x := m.I 39 4) (i := x1) (pc2 := 38) rfl (sh_s29 hT.st) (sh_okb1 c) (sh_okb2 c) rfl ?_
    refine sh_w (i := (.aload_n 0)) (len := 1) (pc2 := 39) (lv2 := [(0, .ref 40), (1, .int x1)]) (st2 := [.ref 40]) (h2 := (sh_rep m.T (sh_u2 m.I 29 (Int32.toNatClampNeg x1) (m.I 39 4)) m.J)) rfl rfl rfl ?_
    refine sh_w (i := (.iconst 1)) (len := 1) (pc2 := 40) (lv2 := [(0, .ref 40), (1, .int x1)]) (st2 := [.int 1, .ref 40]) (h2 := (sh_rep m.T (sh_u2 m.I 29 (Int32.toNatClampNeg x1) (m.I 39 4)) m.J)) rfl rfl rfl ?_
    exact kk
  rcases sh_bt_e e with ⟨m11, e1, rfl⟩ | ⟨r1, m11, e1, e⟩
  · obtain ⟨rfl, rfl⟩ := tg
    exact sh_Lk_tV (k2 := 48) (a := 39) (as := [.ref 40, .int 1]) (rest := []) rfl rfl rfl (fun hT => (sh_s39 hT.st)) rfl rfl ⟨Nat.le_of_ble_eq_true rfl, Nat.le_of_ble_eq_true rfl⟩ (sl_48 e1 ⟨rfl, rfl⟩) rfl (Nat.le_of_ble_eq_true rfl) (Nat.le_of_ble_eq_true rfl) (Nat.le_of_ble_eq_true rfl) (Nat.le_of_ble_eq_true rfl) rfl
  refine sh_Lk_cV (r := none) (st2 := []) (pc2 := 43) (k2 := 48) (a := 39) (as := [.ref 40, .int 1]) (rest := []) rfl rfl rfl (fun hT => (sh_s39 hT.st)) rfl rfl ⟨Nat.le_of_ble_eq_true rfl, Nat.le_of_ble_eq_true rfl⟩ (sl_48 e1 ⟨rfl, rfl⟩) rfl rfl (Nat.le_of_ble_eq_true rfl) (Nat.le_of_ble_eq_true rfl) ?_
  refine sh_Lk_lift (T := m11.T) (I := m11.I) (J := m11.J) (s := m11.s) (pc2 := 46) (lv2 := [(0, .ref 40), (1, .int x1)]) (st2 := [.int 40, .ref 40]) (I2 := m11.I) (J2 := m11.J) (fun hT v kk => ?_) ?_
  · refine sh_w (i := (.aload_n 0)) (len := 1) (pc2 := 44) (lv2 := [(0, .ref 40), (1, .int x1)]) (st2 := [.ref 40]) (h2 := (sh_rep m11.T m11.I m11.J)) rfl rfl rfl ?_
    refine sh_w (i := (.bipush 40)) (len := 2) (pc2 := 46) (lv2 := [(0, .ref 40), (1, .int x1)]) (st2 := [.int 40, .ref 40]) (h2 := (sh_rep m11.T m11.I m11.J)) rfl rfl rfl ?_
    exact kk
  rcases sh_bt_e e with ⟨m12, e2, rfl⟩ | ⟨r2, m12, e2, e⟩
  · obtain ⟨rfl, rfl⟩ := tg
    exact sh_Lk_tV (k2 := 48) (a := 39) (as := [.ref 40, .int 40]) (rest := []) rfl rfl rfl (fun hT => (sh_s39 hT.st)) rfl rfl ⟨Nat.le_of_ble_eq_true rfl, Nat.le_of_ble_eq_true rfl⟩ (sl_48 e2 ⟨rfl, rfl⟩) rfl (Nat.le_of_ble_eq_true rfl) (Nat.le_of_ble_eq_true rfl) (Nat.le_of_ble_eq_true rfl) (Nat.le_of_ble_eq_true rfl) rfl
  refine sh_Lk_cV (r := none) (st2 := []) (pc2 := 49) (k2 := 48) (a := 39) (as := [.ref 40, .int 40]) (rest := []) rfl rfl rfl (fun hT => (sh_s39 hT.st)) rfl rfl ⟨Nat.le_of_ble_eq_true rfl, Nat.le_of_ble_eq_true rfl⟩ (sl_48 e2 ⟨rfl, rfl⟩) rfl rfl (Nat.le_of_ble_eq_true rfl) (Nat.le_of_ble_eq_true rfl) ?_
  refine sh_Lk_lift (T := m12.T) (I := m12.I) (J := m12.J) (s := m12.s) (pc2 := 51) (lv2 := [(0, .ref 40), (1, .int x1)]) (st2 := [.int x1, .ref 40]) (I2 := m12.I) (J2 := m12.J) (fun hT v kk => ?_) ?_
  · refine sh_w (i := (.aload_n 0)) (len := 1) (pc2 := 50) (lv2 := [(0, .ref 40), (1, .int x1)]) (st2 := [.ref 40]) (h2 := (sh_rep m12.T m12.I m12.J)) rfl rfl rfl ?_
    refine sh_w (i := (.iload_n 1)) (len := 1) (pc2 := 51) (lv2 := [(0, .ref 40), (1, .int x1)]) (st2 := [.int x1, .ref 40]) (h2 := (sh_rep m12.T m12.I m12.J)) rfl rfl rfl ?_
    exact kk
  rcases sh_bt_e e with ⟨m13, e3, rfl⟩ | ⟨r3, m13, e3, e⟩
  · obtain ⟨rfl, rfl⟩ := tg
    exact sh_Lk_tV (k2 := 51) (a := 39) (as := [.ref 40, .int x1]) (rest := []) rfl rfl rfl (fun hT => (sh_s39 hT.st)) rfl rfl ⟨Nat.le_of_ble_eq_true rfl, Nat.le_of_ble_eq_true rfl⟩ (sl_51 e3 ⟨rfl, rfl⟩) rfl (Nat.le_of_ble_eq_true rfl) (Nat.le_of_ble_eq_true rfl) (Nat.le_of_ble_eq_true rfl) (Nat.le_of_ble_eq_true rfl) rfl
  refine sh_Lk_cV (r := none) (st2 := []) (pc2 := 54) (k2 := 51) (a := 39) (as := [.ref 40, .int x1]) (rest := []) rfl rfl rfl (fun hT => (sh_s39 hT.st)) rfl rfl ⟨Nat.le_of_ble_eq_true rfl, Nat.le_of_ble_eq_true rfl⟩ (sl_51 e3 ⟨rfl, rfl⟩) rfl rfl (Nat.le_of_ble_eq_true rfl) (Nat.le_of_ble_eq_true rfl) ?_
  refine sh_Lk_lift (T := m13.T) (I := m13.I) (J := m13.J) (s := m13.s) (pc2 := 57) (lv2 := [(0, .ref 40), (1, .int x1)]) (st2 := [.int 41, .ref 40]) (I2 := m13.I) (J2 := m13.J) (fun hT v kk => ?_) ?_
  · refine sh_w (i := (.aload_n 0)) (len := 1) (pc2 := 55) (lv2 := [(0, .ref 40), (1, .int x1)]) (st2 := [.ref 40]) (h2 := (sh_rep m13.T m13.I m13.J)) rfl rfl rfl ?_
    refine sh_w (i := (.bipush 41)) (len := 2) (pc2 := 57) (lv2 := [(0, .ref 40), (1, .int x1)]) (st2 := [.int 41, .ref 40]) (h2 := (sh_rep m13.T m13.I m13.J)) rfl rfl rfl ?_
    exact kk
  rcases sh_bt_e e with ⟨m14, e4, rfl⟩ | ⟨r4, m14, e4, e⟩
  · obtain ⟨rfl, rfl⟩ := tg
    exact sh_Lk_tV (k2 := 48) (a := 39) (as := [.ref 40, .int 41]) (rest := []) rfl rfl rfl (fun hT => (sh_s39 hT.st)) rfl rfl ⟨Nat.le_of_ble_eq_true rfl, Nat.le_of_ble_eq_true rfl⟩ (sl_48 e4 ⟨rfl, rfl⟩) rfl (Nat.le_of_ble_eq_true rfl) (Nat.le_of_ble_eq_true rfl) (Nat.le_of_ble_eq_true rfl) (Nat.le_of_ble_eq_true rfl) rfl
  refine sh_Lk_cV (r := none) (st2 := []) (pc2 := 60) (k2 := 48) (a := 39) (as := [.ref 40, .int 41]) (rest := []) rfl rfl rfl (fun hT => (sh_s39 hT.st)) rfl rfl ⟨Nat.le_of_ble_eq_true rfl, Nat.le_of_ble_eq_true rfl⟩ (sl_48 e4 ⟨rfl, rfl⟩) rfl rfl (Nat.le_of_ble_eq_true rfl) (Nat.le_of_ble_eq_true rfl) ?_
  refine sh_Lk_lift (T := m14.T) (I := m14.I) (J := m14.J) (s := m14.s) (pc2 := 72) (lv2 := [(0, .ref 40), (1, .int x1)]) (st2 := [.int (m14.I 39 4), .int x1, .ref 32]) (I2 := m14.I) (J2 := m14.J) (fun hT v kk => ?_) ?_
  · refine sh_w (i := (.aload_n 0)) (len := 1) (pc2 := 61) (lv2 := [(0, .ref 40), (1, .int x1)]) (st2 := [.ref 40]) (h2 := (sh_rep m14.T m14.I m14.J)) rfl rfl rfl ?_
    refine sh_gR1 (len := 3) (x := .ref 29) (pc2 := 64) rfl rfl (sh_s39 hT.st) rfl rfl ?_
    refine sh_gR1 (len := 3) (x := .ref 32) (pc2 := 67) rfl rfl (sh_s28 hT.st) rfl rfl ?_
    refine sh_w (i := (.iload_n 1)) (len := 1) (pc2 := 68) (lv2 := [(0, .ref 40), (1, .int x1)]) (st2 := [.int x1, .ref 32]) (h2 := (sh_rep m14.T m14.I m14.J)) rfl rfl rfl ?_
    refine sh_w (i := (.aload_n 0)) (len := 1) (pc2 := 69) (lv2 := [(0, .ref 40), (1, .int x1)]) (st2 := [.ref 40, .int x1, .ref 32]) (h2 := (sh_rep m14.T m14.I m14.J)) rfl rfl rfl ?_
    refine sh_gI1 (len := 3) (x := m14.I 39 4) (pc2 := 72) rfl rfl (sh_s39 hT.st) rfl rfl rfl ?_
    exact kk
  obtain ⟨c, e⟩ := sh_gd e
  refine sh_Lk_lift (T := m14.T) (I := m14.I) (J := m14.J) (s := m14.s) (pc2 := 74) (lv2 := [(0, .ref 40), (1, .int x1)]) (st2 := [.ref 40]) (I2 := sh_u2 m14.I 31 (Int32.toNatClampNeg x1) (m14.I 39 4)) (J2 := m14.J) (fun hT v kk => ?_) ?_
  · refine sh_is1 (x := m14.I 39 4) (i := x1) (pc2 := 73) rfl (sh_s31 hT.st) (sh_okb1 c) (sh_okb2 c) rfl ?_
    refine sh_w (i := (.aload_n 0)) (len := 1) (pc2 := 74) (lv2 := [(0, .ref 40), (1, .int x1)]) (st2 := [.ref 40]) (h2 := (sh_rep m14.T (sh_u2 m14.I 31 (Int32.toNatClampNeg x1) (m14.I 39 4)) m14.J)) rfl rfl rfl ?_
    exact kk
  rcases sh_bt_e e with ⟨m15, e5, rfl⟩ | ⟨r5, m15, e5, e⟩
  · obtain ⟨rfl, rfl⟩ := tg
    exact sh_Lk_tV (k2 := 52) (a := 39) (as := [.ref 40]) (rest := []) rfl rfl rfl (fun hT => (sh_s39 hT.st)) rfl rfl ⟨Nat.le_of_ble_eq_true rfl, Nat.le_of_ble_eq_true rfl⟩ (sl_52 e5 ⟨rfl, rfl⟩) rfl (Nat.le_of_ble_eq_true rfl) (Nat.le_of_ble_eq_true rfl) (Nat.le_of_ble_eq_true rfl) (Nat.le_of_ble_eq_true rfl) rfl
  refine sh_Lk_cV (r := none) (st2 := []) (pc2 := 77) (k2 := 52) (a := 39) (as := [.ref 40]) (rest := []) rfl rfl rfl (fun hT => (sh_s39 hT.st)) rfl rfl ⟨Nat.le_of_ble_eq_true rfl, Nat.le_of_ble_eq_true rfl⟩ (sl_52 e5 ⟨rfl, rfl⟩) rfl rfl (Nat.le_of_ble_eq_true rfl) (Nat.le_of_ble_eq_true rfl) ?_
  refine sh_Lk_lift (T := m15.T) (I := m15.I) (J := m15.J) (s := m15.s) (pc2 := 80) (lv2 := [(0, .ref 40), (1, .int x1)]) (st2 := [.int 123, .ref 40]) (I2 := m15.I) (J2 := m15.J) (fun hT v kk => ?_) ?_
  · refine sh_w (i := (.aload_n 0)) (len := 1) (pc2 := 78) (lv2 := [(0, .ref 40), (1, .int x1)]) (st2 := [.ref 40]) (h2 := (sh_rep m15.T m15.I m15.J)) rfl rfl rfl ?_
    refine sh_w (i := (.bipush 123)) (len := 2) (pc2 := 80) (lv2 := [(0, .ref 40), (1, .int x1)]) (st2 := [.int 123, .ref 40]) (h2 := (sh_rep m15.T m15.I m15.J)) rfl rfl rfl ?_
    exact kk
  rcases sh_bt_e e with ⟨m16, e6, rfl⟩ | ⟨r6, m16, e6, e⟩
  · obtain ⟨rfl, rfl⟩ := tg
    exact sh_Lk_tV (k2 := 48) (a := 39) (as := [.ref 40, .int 123]) (rest := []) rfl rfl rfl (fun hT => (sh_s39 hT.st)) rfl rfl ⟨Nat.le_of_ble_eq_true rfl, Nat.le_of_ble_eq_true rfl⟩ (sl_48 e6 ⟨rfl, rfl⟩) rfl (Nat.le_of_ble_eq_true rfl) (Nat.le_of_ble_eq_true rfl) (Nat.le_of_ble_eq_true rfl) (Nat.le_of_ble_eq_true rfl) rfl
  refine sh_Lk_cV (r := none) (st2 := []) (pc2 := 83) (k2 := 48) (a := 39) (as := [.ref 40, .int 123]) (rest := []) rfl rfl rfl (fun hT => (sh_s39 hT.st)) rfl rfl ⟨Nat.le_of_ble_eq_true rfl, Nat.le_of_ble_eq_true rfl⟩ (sl_48 e6 ⟨rfl, rfl⟩) rfl rfl (Nat.le_of_ble_eq_true rfl) (Nat.le_of_ble_eq_true rfl) ?_
  refine sh_Lk_lift (T := m16.T) (I := m16.I) (J := m16.J) (s := m16.s) (pc2 := 98) (lv2 := [(0, .ref 40), (1, .int x1)]) (st2 := [.int (m16.I 28 10), .int x1, .ref 31]) (I2 := m16.I) (J2 := m16.J) (fun hT v kk => ?_) ?_
  · refine sh_w (i := (.aload_n 0)) (len := 1) (pc2 := 84) (lv2 := [(0, .ref 40), (1, .int x1)]) (st2 := [.ref 40]) (h2 := (sh_rep m16.T m16.I m16.J)) rfl rfl rfl ?_
    refine sh_gR1 (len := 3) (x := .ref 29) (pc2 := 87) rfl rfl (sh_s39 hT.st) rfl rfl ?_
    refine sh_gR1 (len := 3) (x := .ref 31) (pc2 := 90) rfl rfl (sh_s28 hT.st) rfl rfl ?_
    refine sh_w (i := (.iload_n 1)) (len := 1) (pc2 := 91) (lv2 := [(0, .ref 40), (1, .int x1)]) (st2 := [.int x1, .ref 31]) (h2 := (sh_rep m16.T m16.I m16.J)) rfl rfl rfl ?_
    refine sh_w (i := (.aload_n 0)) (len := 1) (pc2 := 92) (lv2 := [(0, .ref 40), (1, .int x1)]) (st2 := [.ref 40, .int x1, .ref 31]) (h2 := (sh_rep m16.T m16.I m16.J)) rfl rfl rfl ?_
    refine sh_gR1 (len := 3) (x := .ref 29) (pc2 := 95) rfl rfl (sh_s39 hT.st) rfl rfl ?_
    refine sh_gI1 (len := 3) (x := m16.I 28 10) (pc2 := 98) rfl rfl (sh_s28 hT.st) rfl rfl rfl ?_
    exact kk
  obtain ⟨c, e⟩ := sh_gd e
  refine sh_Lk_lift (T := m16.T) (I := m16.I) (J := m16.J) (s := m16.s) (pc2 := 114) (lv2 := [(0, .ref 40), (1, .int x1)]) (st2 := [.int 1, .ref 40]) (I2 := sh_u2 (sh_u2 m16.I 30 (Int32.toNatClampNeg x1) (m16.I 28 10)) 28 12 ((m16.I 28 12) + 1)) (J2 := m16.J) (fun hT v kk => ?_) ?_
  · refine sh_is1 (x := m16.I 28 10) (i := x1) (pc2 := 99) rfl (sh_s30 hT.st) (sh_okb1 c) (sh_okb2 c) rfl ?_
    refine sh_w (i := (.aload_n 0)) (len := 1) (pc2 := 100) (lv2 := [(0, .ref 40), (1, .int x1)]) (st2 := [.ref 40]) (h2 := (sh_rep m16.T (sh_u2 m16.I 30 (Int32.toNatClampNeg x1) (m16.I 28 10)) m16.J)) rfl rfl rfl ?_
    refine sh_gR1 (len := 3) (x := .ref 29) (pc2 := 103) rfl rfl (sh_s39 hT.st) rfl rfl ?_
    refine sh_w (i := .dup) (len := 1) (pc2 := 104) (lv2 := [(0, .ref 40), (1, .int x1)]) (st2 := [.ref 29, .ref 29]) (h2 := (sh_rep m16.T (sh_u2 m16.I 30 (Int32.toNatClampNeg x1) (m16.I 28 10)) m16.J)) rfl rfl rfl ?_
    refine sh_gI1 (len := 3) (x := m16.I 28 12) (pc2 := 107) rfl rfl (sh_s28 hT.st) rfl rfl rfl ?_
    refine sh_w (i := (.iconst 1)) (len := 1) (pc2 := 108) (lv2 := [(0, .ref 40), (1, .int x1)]) (st2 := [.int 1, .int (m16.I 28 12), .ref 29]) (h2 := (sh_rep m16.T (sh_u2 m16.I 30 (Int32.toNatClampNeg x1) (m16.I 28 10)) m16.J)) rfl rfl rfl ?_
    refine sh_w (i := .iadd) (len := 1) (pc2 := 109) (lv2 := [(0, .ref 40), (1, .int x1)]) (st2 := [.int ((m16.I 28 12) + 1), .ref 29]) (h2 := (sh_rep m16.T (sh_u2 m16.I 30 (Int32.toNatClampNeg x1) (m16.I 28 10)) m16.J)) rfl rfl rfl ?_
    refine sh_pI1 (x := (m16.I 28 12) + 1) (pc2 := 112) rfl rfl (sh_s28 hT.st) rfl rfl rfl rfl ?_
    refine sh_w (i := (.aload_n 0)) (len := 1) (pc2 := 113) (lv2 := [(0, .ref 40), (1, .int x1)]) (st2 := [.ref 40]) (h2 := (sh_rep m16.T (sh_u2 (sh_u2 m16.I 30 (Int32.toNatClampNeg x1) (m16.I 28 10)) 28 12 ((m16.I 28 12) + 1)) m16.J)) rfl rfl rfl ?_
    refine sh_w (i := (.iconst 1)) (len := 1) (pc2 := 114) (lv2 := [(0, .ref 40), (1, .int x1)]) (st2 := [.int 1, .ref 40]) (h2 := (sh_rep m16.T (sh_u2 (sh_u2 m16.I 30 (Int32.toNatClampNeg x1) (m16.I 28 10)) 28 12 ((m16.I 28 12) + 1)) m16.J)) rfl rfl rfl ?_
    exact kk
  rcases sh_bt_e e with ⟨m17, e7, rfl⟩ | ⟨r7, m17, e7, e⟩
  · obtain ⟨rfl, rfl⟩ := tg
    exact sh_Lk_tV (k2 := 53) (a := 39) (as := [.ref 40, .int 1]) (rest := []) rfl rfl rfl (fun hT => (sh_s39 hT.st)) rfl rfl ⟨Nat.le_of_ble_eq_true rfl, Nat.le_of_ble_eq_true rfl⟩ ((sq_48_l sh_dp).f53 e7 ⟨rfl, rfl⟩) rfl (Nat.le_of_ble_eq_true rfl) (Nat.le_of_ble_eq_true rfl) (Nat.le_of_ble_eq_true rfl) (Nat.le_of_ble_eq_true rfl) rfl
  refine sh_Lk_cV (r := none) (st2 := []) (pc2 := 117) (k2 := 53) (a := 39) (as := [.ref 40, .int 1]) (rest := []) rfl rfl rfl (fun hT => (sh_s39 hT.st)) rfl rfl ⟨Nat.le_of_ble_eq_true rfl, Nat.le_of_ble_eq_true rfl⟩ ((sq_48_l sh_dp).f53 e7 ⟨rfl, rfl⟩) rfl rfl (Nat.le_of_ble_eq_true rfl) (Nat.le_of_ble_eq_true rfl) ?_
  refine sh_Lk_lift (T := m17.T) (I := m17.I) (J := m17.J) (s := m17.s) (pc2 := 120) (lv2 := [(0, .ref 40), (1, .int x1)]) (st2 := [.int 14, .ref 40]) (I2 := m17.I) (J2 := m17.J) (fun hT v kk => ?_) ?_
  · refine sh_w (i := (.aload_n 0)) (len := 1) (pc2 := 118) (lv2 := [(0, .ref 40), (1, .int x1)]) (st2 := [.ref 40]) (h2 := (sh_rep m17.T m17.I m17.J)) rfl rfl rfl ?_
    refine sh_w (i := (.bipush 14)) (len := 2) (pc2 := 120) (lv2 := [(0, .ref 40), (1, .int x1)]) (st2 := [.int 14, .ref 40]) (h2 := (sh_rep m17.T m17.I m17.J)) rfl rfl rfl ?_
    exact kk
  rcases sh_bt_e e with ⟨m18, e8, rfl⟩ | ⟨r8, m18, e8, e⟩
  · obtain ⟨rfl, rfl⟩ := tg
    exact sh_Lk_tV (k2 := 48) (a := 39) (as := [.ref 40, .int 14]) (rest := []) rfl rfl rfl (fun hT => (sh_s39 hT.st)) rfl rfl ⟨Nat.le_of_ble_eq_true rfl, Nat.le_of_ble_eq_true rfl⟩ (sl_48 e8 ⟨rfl, rfl⟩) rfl (Nat.le_of_ble_eq_true rfl) (Nat.le_of_ble_eq_true rfl) (Nat.le_of_ble_eq_true rfl) (Nat.le_of_ble_eq_true rfl) rfl
  refine sh_Lk_cV (r := none) (st2 := []) (pc2 := 123) (k2 := 48) (a := 39) (as := [.ref 40, .int 14]) (rest := []) rfl rfl rfl (fun hT => (sh_s39 hT.st)) rfl rfl ⟨Nat.le_of_ble_eq_true rfl, Nat.le_of_ble_eq_true rfl⟩ (sl_48 e8 ⟨rfl, rfl⟩) rfl rfl (Nat.le_of_ble_eq_true rfl) (Nat.le_of_ble_eq_true rfl) ?_
  refine sh_Lk_lift (T := m18.T) (I := m18.I) (J := m18.J) (s := m18.s) (pc2 := 130) (lv2 := [(2, .int (m18.I 39 4)), (0, .ref 40), (1, .int x1)]) (st2 := [.int 1, .ref 40]) (I2 := m18.I) (J2 := m18.J) (fun hT v kk => ?_) ?_
  · refine sh_w (i := (.aload_n 0)) (len := 1) (pc2 := 124) (lv2 := [(0, .ref 40), (1, .int x1)]) (st2 := [.ref 40]) (h2 := (sh_rep m18.T m18.I m18.J)) rfl rfl rfl ?_
    refine sh_gI1 (len := 3) (x := m18.I 39 4) (pc2 := 127) rfl rfl (sh_s39 hT.st) rfl rfl rfl ?_
    refine sh_w (i := (.istore_n 2)) (len := 1) (pc2 := 128) (lv2 := [(2, .int (m18.I 39 4)), (0, .ref 40), (1, .int x1)]) (st2 := []) (h2 := (sh_rep m18.T m18.I m18.J)) rfl rfl rfl ?_
    refine sh_w (i := (.aload_n 0)) (len := 1) (pc2 := 129) (lv2 := [(2, .int (m18.I 39 4)), (0, .ref 40), (1, .int x1)]) (st2 := [.ref 40]) (h2 := (sh_rep m18.T m18.I m18.J)) rfl rfl rfl ?_
    refine sh_w (i := (.iconst 1)) (len := 1) (pc2 := 130) (lv2 := [(2, .int (m18.I 39 4)), (0, .ref 40), (1, .int x1)]) (st2 := [.int 1, .ref 40]) (h2 := (sh_rep m18.T m18.I m18.J)) rfl rfl rfl ?_
    exact kk
  rcases sh_bt_e e with ⟨m19, e9, rfl⟩ | ⟨r9, m19, e9, e⟩
  · obtain ⟨rfl, rfl⟩ := tg
    exact sh_Lk_tV (k2 := 58) (a := 39) (as := [.ref 40, .int 1]) (rest := []) rfl rfl rfl (fun hT => (sh_s39 hT.st)) rfl rfl ⟨Nat.le_of_ble_eq_true rfl, Nat.le_of_ble_eq_true rfl⟩ ((sq_44_l sh_dp).f58 e9 ⟨rfl, rfl⟩) rfl (Nat.le_of_ble_eq_true rfl) (Nat.le_of_ble_eq_true rfl) (Nat.le_of_ble_eq_true rfl) (Nat.le_of_ble_eq_true rfl) rfl
  refine sh_Lk_cV (r := none) (st2 := []) (pc2 := 133) (k2 := 58) (a := 39) (as := [.ref 40, .int 1]) (rest := []) rfl rfl rfl (fun hT => (sh_s39 hT.st)) rfl rfl ⟨Nat.le_of_ble_eq_true rfl, Nat.le_of_ble_eq_true rfl⟩ ((sq_44_l sh_dp).f58 e9 ⟨rfl, rfl⟩) rfl rfl (Nat.le_of_ble_eq_true rfl) (Nat.le_of_ble_eq_true rfl) ?_
  refine sh_Lk_lift (T := m19.T) (I := m19.I) (J := m19.J) (s := m19.s) (pc2 := 136) (lv2 := [(2, .int (m18.I 39 4)), (0, .ref 40), (1, .int x1)]) (st2 := [.int 59, .ref 40]) (I2 := m19.I) (J2 := m19.J) (fun hT v kk => ?_) ?_
  · refine sh_w (i := (.aload_n 0)) (len := 1) (pc2 := 134) (lv2 := [(2, .int (m18.I 39 4)), (0, .ref 40), (1, .int x1)]) (st2 := [.ref 40]) (h2 := (sh_rep m19.T m19.I m19.J)) rfl rfl rfl ?_
    refine sh_w (i := (.bipush 59)) (len := 2) (pc2 := 136) (lv2 := [(2, .int (m18.I 39 4)), (0, .ref 40), (1, .int x1)]) (st2 := [.int 59, .ref 40]) (h2 := (sh_rep m19.T m19.I m19.J)) rfl rfl rfl ?_
    exact kk
  rcases sh_bt_e e with ⟨m20, e10, rfl⟩ | ⟨r10, m20, e10, e⟩
  · obtain ⟨rfl, rfl⟩ := tg
    exact sh_Lk_tV (k2 := 48) (a := 39) (as := [.ref 40, .int 59]) (rest := []) rfl rfl rfl (fun hT => (sh_s39 hT.st)) rfl rfl ⟨Nat.le_of_ble_eq_true rfl, Nat.le_of_ble_eq_true rfl⟩ (sl_48 e10 ⟨rfl, rfl⟩) rfl (Nat.le_of_ble_eq_true rfl) (Nat.le_of_ble_eq_true rfl) (Nat.le_of_ble_eq_true rfl) (Nat.le_of_ble_eq_true rfl) rfl
  refine sh_Lk_cV (r := none) (st2 := []) (pc2 := 139) (k2 := 48) (a := 39) (as := [.ref 40, .int 59]) (rest := []) rfl rfl rfl (fun hT => (sh_s39 hT.st)) rfl rfl ⟨Nat.le_of_ble_eq_true rfl, Nat.le_of_ble_eq_true rfl⟩ (sl_48 e10 ⟨rfl, rfl⟩) rfl rfl (Nat.le_of_ble_eq_true rfl) (Nat.le_of_ble_eq_true rfl) ?_
  refine sh_Lk_lift (T := m20.T) (I := m20.I) (J := m20.J) (s := m20.s) (pc2 := 147) (lv2 := [(2, .int (m18.I 39 4)), (0, .ref 40), (1, .int x1)]) (st2 := [.int 0, .int (m18.I 39 4), .int 18, .ref 29]) (I2 := m20.I) (J2 := m20.J) (fun hT v kk => ?_) ?_
  · refine sh_w (i := (.aload_n 0)) (len := 1) (pc2 := 140) (lv2 := [(2, .int (m18.I 39 4)), (0, .ref 40), (1, .int x1)]) (st2 := [.ref 40]) (h2 := (sh_rep m20.T m20.I m20.J)) rfl rfl rfl ?_
    refine sh_gR1 (len := 3) (x := .ref 29) (pc2 := 143) rfl rfl (sh_s39 hT.st) rfl rfl ?_
    refine sh_w (i := (.bipush 18)) (len := 2) (pc2 := 145) (lv2 := [(2, .int (m18.I 39 4)), (0, .ref 40), (1, .int x1)]) (st2 := [.int 18, .ref 29]) (h2 := (sh_rep m20.T m20.I m20.J)) rfl rfl rfl ?_
    refine sh_w (i := (.iload_n 2)) (len := 1) (pc2 := 146) (lv2 := [(2, .int (m18.I 39 4)), (0, .ref 40), (1, .int x1)]) (st2 := [.int (m18.I 39 4), .int 18, .ref 29]) (h2 := (sh_rep m20.T m20.I m20.J)) rfl rfl rfl ?_
    refine sh_w (i := (.iconst 0)) (len := 1) (pc2 := 147) (lv2 := [(2, .int (m18.I 39 4)), (0, .ref 40), (1, .int x1)]) (st2 := [.int 0, .int (m18.I 39 4), .int 18, .ref 29]) (h2 := (sh_rep m20.T m20.I m20.J)) rfl rfl rfl ?_
    exact kk
  obtain ⟨r11, m21, e11, e⟩ := sh_bn_e e
  refine sh_Lk_cV (r := (some (.int r11))) (st2 := [.int r11]) (pc2 := 150) (k2 := 56) (a := 28) (as := [.ref 29, .int 18, .int (m18.I 39 4), .int 0]) (rest := []) rfl rfl rfl (fun hT => (sh_s28 hT.st)) rfl rfl ⟨Nat.le_of_ble_eq_true rfl, Nat.le_of_ble_eq_true rfl⟩ (sl_56 e11 ⟨rfl, rfl⟩) rfl rfl (Nat.le_of_ble_eq_true rfl) (Nat.le_of_ble_eq_true rfl) ?_
  refine sh_Lk_lift (T := m21.T) (I := m21.I) (J := m21.J) (s := m21.s) (pc2 := 154) (lv2 := [(2, .int (m18.I 39 4)), (0, .ref 40), (1, .int x1)]) (st2 := [.int 125, .ref 40]) (I2 := m21.I) (J2 := m21.J) (fun hT v kk => ?_) ?_
  · refine sh_w (i := .pop) (len := 1) (pc2 := 151) (lv2 := [(2, .int (m18.I 39 4)), (0, .ref 40), (1, .int x1)]) (st2 := []) (h2 := (sh_rep m21.T m21.I m21.J)) rfl rfl rfl ?_
    refine sh_w (i := (.aload_n 0)) (len := 1) (pc2 := 152) (lv2 := [(2, .int (m18.I 39 4)), (0, .ref 40), (1, .int x1)]) (st2 := [.ref 40]) (h2 := (sh_rep m21.T m21.I m21.J)) rfl rfl rfl ?_
    refine sh_w (i := (.bipush 125)) (len := 2) (pc2 := 154) (lv2 := [(2, .int (m18.I 39 4)), (0, .ref 40), (1, .int x1)]) (st2 := [.int 125, .ref 40]) (h2 := (sh_rep m21.T m21.I m21.J)) rfl rfl rfl ?_
    exact kk
  rcases sh_bt_e e with ⟨m22, e12, rfl⟩ | ⟨r12, m22, e12, e⟩
  · obtain ⟨rfl, rfl⟩ := tg
    exact sh_Lk_tV (k2 := 48) (a := 39) (as := [.ref 40, .int 125]) (rest := []) rfl rfl rfl (fun hT => (sh_s39 hT.st)) rfl rfl ⟨Nat.le_of_ble_eq_true rfl, Nat.le_of_ble_eq_true rfl⟩ (sl_48 e12 ⟨rfl, rfl⟩) rfl (Nat.le_of_ble_eq_true rfl) (Nat.le_of_ble_eq_true rfl) (Nat.le_of_ble_eq_true rfl) (Nat.le_of_ble_eq_true rfl) rfl
  refine sh_Lk_cV (r := none) (st2 := []) (pc2 := 157) (k2 := 48) (a := 39) (as := [.ref 40, .int 125]) (rest := []) rfl rfl rfl (fun hT => (sh_s39 hT.st)) rfl rfl ⟨Nat.le_of_ble_eq_true rfl, Nat.le_of_ble_eq_true rfl⟩ (sl_48 e12 ⟨rfl, rfl⟩) rfl rfl (Nat.le_of_ble_eq_true rfl) (Nat.le_of_ble_eq_true rfl) ?_
  obtain rfl := Option.some.inj e
  obtain ⟨rfl, rfl⟩ := tg
  exact sh_Lk_ret (i := .return_) rfl rfl rfl (Nat.le_of_ble_eq_true rfl) (Nat.le_of_ble_eq_true rfl)
theorem sl_47 {m m2 : sh_X} {o : Outcome} {z : (Option Unit × sh_X)} (e : sf_47 m = some z) (tg : (sh_tVt o m2) z) : sh_Lk 47 0 [(0, .ref 40)] [] m o m2 2014 80332 := by
  unfold sf_47 at e
  refine sh_Lk_lift (T := m.T) (I := m.I) (J := m.J) (s := m.s) (pc2 := 11) (lv2 := [(1, .int (m.I 28 12)), (0, .ref 40)]) (st2 := [.int 8, .ref 40]) (I2 := m.I) (J2 := m.J) (fun hT v kk => ?_) ?_
  · refine sh_w (i := (.aload_n 0)) (len := 1) (pc2 := 1) (lv2 := [(0, .ref 40)]) (st2 := [.ref 40]) (h2 := (sh_rep m.T m.I m.J)) rfl rfl rfl ?_
    refine sh_gR1 (len := 3) (x := .ref 29) (pc2 := 4) rfl rfl (sh_s39 hT.st) rfl rfl ?_
    refine sh_gI1 (len := 3) (x := m.I 28 12) (pc2 := 7) rfl rfl (sh_s28 hT.st) rfl rfl rfl ?_
    refine sh_w (i := (.istore_n 1)) (len := 1) (pc2 := 8) (lv2 := [(1, .int (m.I 28 12)), (0, .ref 40)]) (st2 := []) (h2 := (sh_rep m.T m.I m.J)) rfl rfl rfl ?_
    refine sh_w (i := (.aload_n 0)) (len := 1) (pc2 := 9) (lv2 := [(1, .int (m.I 28 12)), (0, .ref 40)]) (st2 := [.ref 40]) (h2 := (sh_rep m.T m.I m.J)) rfl rfl rfl ?_
    refine sh_w (i := (.bipush 8)) (len := 2) (pc2 := 11) (lv2 := [(1, .int (m.I 28 12)), (0, .ref 40)]) (st2 := [.int 8, .ref 40]) (h2 := (sh_rep m.T m.I m.J)) rfl rfl rfl ?_
    exact kk
  rcases sh_bt_e e with ⟨m11, e1, rfl⟩ | ⟨r1, m11, e1, e⟩
  · obtain ⟨rfl, rfl⟩ := tg
    exact sh_Lk_tV (k2 := 48) (a := 39) (as := [.ref 40, .int 8]) (rest := []) rfl rfl rfl (fun hT => (sh_s39 hT.st)) rfl rfl ⟨Nat.le_of_ble_eq_true rfl, Nat.le_of_ble_eq_true rfl⟩ (sl_48 e1 ⟨rfl, rfl⟩) rfl (Nat.le_of_ble_eq_true rfl) (Nat.le_of_ble_eq_true rfl) (Nat.le_of_ble_eq_true rfl) (Nat.le_of_ble_eq_true rfl) rfl
  refine sh_Lk_cV (r := none) (st2 := []) (pc2 := 14) (k2 := 48) (a := 39) (as := [.ref 40, .int 8]) (rest := []) rfl rfl rfl (fun hT => (sh_s39 hT.st)) rfl rfl ⟨Nat.le_of_ble_eq_true rfl, Nat.le_of_ble_eq_true rfl⟩ (sl_48 e1 ⟨rfl, rfl⟩) rfl rfl (Nat.le_of_ble_eq_true rfl) (Nat.le_of_ble_eq_true rfl) ?_
  refine sh_Lk_lift (T := m11.T) (I := m11.I) (J := m11.J) (s := m11.s) (pc2 := 18) (lv2 := [(1, .int (m.I 28 12)), (0, .ref 40)]) (st2 := [.int 256, .int (m.I 28 12)]) (I2 := m11.I) (J2 := m11.J) (fun hT v kk => ?_) ?_
  · refine sh_w (i := (.iload_n 1)) (len := 1) (pc2 := 15) (lv2 := [(1, .int (m.I 28 12)), (0, .ref 40)]) (st2 := [.int (m.I 28 12)]) (h2 := (sh_rep m11.T m11.I m11.J)) rfl rfl rfl ?_
    refine sh_w (i := (.sipush 256)) (len := 3) (pc2 := 18) (lv2 := [(1, .int (m.I 28 12)), (0, .ref 40)]) (st2 := [.int 256, .int (m.I 28 12)]) (h2 := (sh_rep m11.T m11.I m11.J)) rfl rfl rfl ?_
    exact kk
  rcases sh_ite e with ⟨c, e⟩ | ⟨c, e⟩
  · refine sh_Lk_lift (T := m11.T) (I := m11.I) (J := m11.J) (s := m11.s) (pc2 := 25) (lv2 := [(1, .int (m.I 28 12)), (0, .ref 40)]) (st2 := []) (I2 := m11.I) (J2 := m11.J) (fun hT v kk => ?_) ?_
    · refine sh_jc (c := .lt) (off := (7)) (pc2 := 25) true rfl (sh_Bltt c) rfl ?_
      exact kk
    exact sh_Lk_sub (sh_sub_c rfl (sh_sub_c rfl (sh_sub_n))) (sl_47_25 e tg)
  · refine sh_Lk_lift (T := m11.T) (I := m11.I) (J := m11.J) (s := m11.s) (pc2 := 22) (lv2 := [(1, .int (m.I 28 12)), (0, .ref 40)]) (st2 := [.ref 40]) (I2 := m11.I) (J2 := m11.J) (fun hT v kk => ?_) ?_
    · refine sh_jc (c := .lt) (off := (7)) (pc2 := 21) false rfl (sh_Bltf c) rfl ?_
      refine sh_w (i := (.aload_n 0)) (len := 1) (pc2 := 22) (lv2 := [(1, .int (m.I 28 12)), (0, .ref 40)]) (st2 := [.ref 40]) (h2 := (sh_rep m11.T m11.I m11.J)) rfl rfl rfl ?_
      exact kk
    rcases sh_bt_e e with ⟨m12, e2, rfl⟩ | ⟨r2, m12, e2, e⟩
    · obtain ⟨rfl, rfl⟩ := tg
      exact sh_Lk_tV (k2 := 49) (a := 39) (as := [.ref 40]) (rest := []) rfl rfl rfl (fun hT => (sh_s39 hT.st)) rfl rfl ⟨Nat.le_of_ble_eq_true rfl, Nat.le_of_ble_eq_true rfl⟩ (sl_49 e2 ⟨rfl, rfl⟩) rfl (Nat.le_of_ble_eq_true rfl) (Nat.le_of_ble_eq_true rfl) (Nat.le_of_ble_eq_true rfl) (Nat.le_of_ble_eq_true rfl) rfl
    refine sh_Lk_cV (r := none) (st2 := []) (pc2 := 25) (k2 := 49) (a := 39) (as := [.ref 40]) (rest := []) rfl rfl rfl (fun hT => (sh_s39 hT.st)) rfl rfl ⟨Nat.le_of_ble_eq_true rfl, Nat.le_of_ble_eq_true rfl⟩ (sl_49 e2 ⟨rfl, rfl⟩) rfl rfl (Nat.le_of_ble_eq_true rfl) (Nat.le_of_ble_eq_true rfl) ?_
    exact sh_Lk_sub (sh_sub_c rfl (sh_sub_c rfl (sh_sub_n))) (sl_47_25 e tg)
theorem sl_76_10 {m m2 : sh_X} {o : Outcome} {z : Bool} (e : sf_76_10 = z) (tg : (sh_tZc m o m2) z) : sh_Lk 76 10 [] [] m o m2 8 200 := by
  unfold sf_76_10 at e
  refine sh_Lk_lift (T := m.T) (I := m.I) (J := m.J) (s := m.s) (pc2 := 15) (lv2 := []) (st2 := [.int 1]) (I2 := m.I) (J2 := m.J) (fun hT v kk => ?_) ?_
  · refine sh_w (i := (.iconst 1)) (len := 1) (pc2 := 11) (lv2 := []) (st2 := [.int 1]) (h2 := (sh_rep m.T m.I m.J)) rfl rfl rfl ?_
    refine sh_w (i := (.goto 4)) (len := 3) (pc2 := 15) (lv2 := []) (st2 := [.int 1]) (h2 := (sh_rep m.T m.I m.J)) rfl rfl rfl ?_
    exact kk
  obtain rfl := e
  obtain ⟨rfl, rfl⟩ := tg
  exact sh_Lk_ret (i := .ireturn) rfl rfl rfl (Nat.le_of_ble_eq_true rfl) (Nat.le_of_ble_eq_true rfl)
theorem sl_76 {x0 : Int32} {m m2 : sh_X} {o : Outcome} {z : Bool} (e : sf_76 x0 = z) (tg : (sh_tZc m o m2) z) : sh_Lk 76 0 [(0, .int x0)] [] m o m2 8 200 := by
  unfold sf_76 at e
  refine sh_Lk_lift (T := m.T) (I := m.I) (J := m.J) (s := m.s) (pc2 := 2) (lv2 := [(0, .int x0)]) (st2 := [.int 4, .int x0]) (I2 := m.I) (J2 := m.J) (fun hT v kk => ?_) ?_
  · refine sh_w (i := (.iload_n 0)) (len := 1) (pc2 := 1) (lv2 := [(0, .int x0)]) (st2 := [.int x0]) (h2 := (sh_rep m.T m.I m.J)) rfl rfl rfl ?_
    refine sh_w (i := (.iconst 4)) (len := 1) (pc2 := 2) (lv2 := [(0, .int x0)]) (st2 := [.int 4, .int x0]) (h2 := (sh_rep m.T m.I m.J)) rfl rfl rfl ?_
    exact kk
  rcases sh_ite e with ⟨c, e⟩ | ⟨c, e⟩
  · refine sh_Lk_lift (T := m.T) (I := m.I) (J := m.J) (s := m.s) (pc2 := 10) (lv2 := [(0, .int x0)]) (st2 := []) (I2 := m.I) (J2 := m.J) (fun hT v kk => ?_) ?_
    · refine sh_jc (c := .eq) (off := (8)) (pc2 := 10) true rfl (sh_Beqt c) rfl ?_
      exact kk
    exact sh_Lk_sub (sh_sub_n) (sl_76_10 e tg)
  · refine sh_Lk_lift (T := m.T) (I := m.I) (J := m.J) (s := m.s) (pc2 := 7) (lv2 := [(0, .int x0)]) (st2 := [.int 5, .int x0]) (I2 := m.I) (J2 := m.J) (fun hT v kk => ?_) ?_
    · refine sh_jc (c := .eq) (off := (8)) (pc2 := 5) false rfl (sh_Beqf c) rfl ?_
      refine sh_w (i := (.iload_n 0)) (len := 1) (pc2 := 6) (lv2 := [(0, .int x0)]) (st2 := [.int x0]) (h2 := (sh_rep m.T m.I m.J)) rfl rfl rfl ?_
      refine sh_w (i := (.iconst 5)) (len := 1) (pc2 := 7) (lv2 := [(0, .int x0)]) (st2 := [.int 5, .int x0]) (h2 := (sh_rep m.T m.I m.J)) rfl rfl rfl ?_
      exact kk
    rcases sh_ite e with ⟨c, e⟩ | ⟨c, e⟩
    · refine sh_Lk_lift (T := m.T) (I := m.I) (J := m.J) (s := m.s) (pc2 := 10) (lv2 := [(0, .int x0)]) (st2 := []) (I2 := m.I) (J2 := m.J) (fun hT v kk => ?_) ?_
      · refine sh_jc (c := .ne) (off := (7)) (pc2 := 10) false rfl (sh_Bnef c) rfl ?_
        exact kk
      exact sh_Lk_sub (sh_sub_n) (sl_76_10 e tg)
    · refine sh_Lk_lift (T := m.T) (I := m.I) (J := m.J) (s := m.s) (pc2 := 15) (lv2 := [(0, .int x0)]) (st2 := [.int 0]) (I2 := m.I) (J2 := m.J) (fun hT v kk => ?_) ?_
      · refine sh_jc (c := .ne) (off := (7)) (pc2 := 14) true rfl (sh_Bnet c) rfl ?_
        refine sh_w (i := (.iconst 0)) (len := 1) (pc2 := 15) (lv2 := [(0, .int x0)]) (st2 := [.int 0]) (h2 := (sh_rep m.T m.I m.J)) rfl rfl rfl ?_
        exact kk
      obtain rfl := e
      obtain ⟨rfl, rfl⟩ := tg
      exact sh_Lk_ret (i := .ireturn) rfl rfl rfl (Nat.le_of_ble_eq_true rfl) (Nat.le_of_ble_eq_true rfl)
theorem sl_77 {m m2 : sh_X} {o : Outcome} {z : (Option Unit × sh_X)} (e : sf_77 m = some z) (tg : (sh_tVt o m2) z) : sh_Lk 77 0 [(0, .ref 40)] [] m o m2 12 283 := by
  unfold sf_77 at e
  refine sh_Lk_lift (T := m.T) (I := m.I) (J := m.J) (s := m.s) (pc2 := 10) (lv2 := [(0, .ref 40)]) (st2 := [.int 0, .int (m.I 39 4), .int 1, .ref 29]) (I2 := m.I) (J2 := m.J) (fun hT v kk => ?_) ?_
  · refine sh_w (i := (.aload_n 0)) (len := 1) (pc2 := 1) (lv2 := [(0, .ref 40)]) (st2 := [.ref 40]) (h2 := (sh_rep m.T m.I m.J)) rfl rfl rfl ?_
    refine sh_gR1 (len := 3) (x := .ref 29) (pc2 := 4) rfl rfl (sh_s39 hT.st) rfl rfl ?_
    refine sh_w (i := (.iconst 1)) (len := 1) (pc2 := 5) (lv2 := [(0, .ref 40)]) (st2 := [.int 1, .ref 29]) (h2 := (sh_rep m.T m.I m.J)) rfl rfl rfl ?_
    refine sh_w (i := (.aload_n 0)) (len := 1) (pc2 := 6) (lv2 := [(0, .ref 40)]) (st2 := [.ref 40, .int 1, .ref 29]) (h2 := (sh_rep m.T m.I m.J)) rfl rfl rfl ?_
    refine sh_gI1 (len := 3) (x := m.I 39 4) (pc2 := 9) rfl rfl (sh_s39 hT.st) rfl rfl rfl ?_
    refine sh_w (i := (.iconst 0)) (len := 1) (pc2 := 10) (lv2 := [(0, .ref 40)]) (st2 := [.int 0, .int (m.I 39 4), .int 1, .ref 29]) (h2 := (sh_rep m.T m.I m.J)) rfl rfl rfl ?_
    exact kk
  obtain ⟨r1, m11, e1, e⟩ := sh_bn_e e
  refine sh_Lk_cV (r := (some (.int r1))) (st2 := [.int r1]) (pc2 := 13) (k2 := 56) (a := 28) (as := [.ref 29, .int 1, .int (m.I 39 4), .int 0]) (rest := []) rfl rfl rfl (fun hT => (sh_s28 hT.st)) rfl rfl ⟨Nat.le_of_ble_eq_true rfl, Nat.le_of_ble_eq_true rfl⟩ (sl_56 e1 ⟨rfl, rfl⟩) rfl rfl (Nat.le_of_ble_eq_true rfl) (Nat.le_of_ble_eq_true rfl) ?_
  refine sh_Lk_lift (T := m11.T) (I := m11.I) (J := m11.J) (s := m11.s) (pc2 := 26) (lv2 := [(0, .ref 40)]) (st2 := [.int 1, .ref 40]) (I2 := sh_u2 m11.I 39 4 ((m11.I 39 4) + 1)) (J2 := m11.J) (fun hT v kk => ?_) ?_
  · refine sh_w (i := .pop) (len := 1) (pc2 := 14) (lv2 := [(0, .ref 40)]) (st2 := []) (h2 := (sh_rep m11.T m11.I m11.J)) rfl rfl rfl ?_
    refine sh_w (i := (.aload_n 0)) (len := 1) (pc2 := 15) (lv2 := [(0, .ref 40)]) (st2 := [.ref 40]) (h2 := (sh_rep m11.T m11.I m11.J)) rfl rfl rfl ?_
    refine sh_w (i := .dup) (len := 1) (pc2 := 16) (lv2 := [(0, .ref 40)]) (st2 := [.ref 40, .ref 40]) (h2 := (sh_rep m11.T m11.I m11.J)) rfl rfl rfl ?_
    refine sh_gI1 (len := 3) (x := m11.I 39 4) (pc2 := 19) rfl rfl (sh_s39 hT.st) rfl rfl rfl ?_
    refine sh_w (i := (.iconst 1)) (len := 1) (pc2 := 20) (lv2 := [(0, .ref 40)]) (st2 := [.int 1, .int (m11.I 39 4), .ref 40]) (h2 := (sh_rep m11.T m11.I m11.J)) rfl rfl rfl ?_
    refine sh_w (i := .iadd) (len := 1) (pc2 := 21) (lv2 := [(0, .ref 40)]) (st2 := [.int ((m11.I 39 4) + 1), .ref 40]) (h2 := (sh_rep m11.T m11.I m11.J)) rfl rfl rfl ?_
    refine sh_pI1 (x := (m11.I 39 4) + 1) (pc2 := 24) rfl rfl (sh_s39 hT.st) rfl rfl rfl rfl ?_
    refine sh_w (i := (.aload_n 0)) (len := 1) (pc2 := 25) (lv2 := [(0, .ref 40)]) (st2 := [.ref 40]) (h2 := (sh_rep m11.T (sh_u2 m11.I 39 4 ((m11.I 39 4) + 1)) m11.J)) rfl rfl rfl ?_
    refine sh_w (i := (.iconst 1)) (len := 1) (pc2 := 26) (lv2 := [(0, .ref 40)]) (st2 := [.int 1, .ref 40]) (h2 := (sh_rep m11.T (sh_u2 m11.I 39 4 ((m11.I 39 4) + 1)) m11.J)) rfl rfl rfl ?_
    exact kk
  rcases sh_bt_e e with ⟨m12, e2, rfl⟩ | ⟨r2, m12, e2, e⟩
  · obtain ⟨rfl, rfl⟩ := tg
    exact sh_Lk_tV (k2 := 48) (a := 39) (as := [.ref 40, .int 1]) (rest := []) rfl rfl rfl (fun hT => (sh_s39 hT.st)) rfl rfl ⟨Nat.le_of_ble_eq_true rfl, Nat.le_of_ble_eq_true rfl⟩ (sl_48 e2 ⟨rfl, rfl⟩) rfl (Nat.le_of_ble_eq_true rfl) (Nat.le_of_ble_eq_true rfl) (Nat.le_of_ble_eq_true rfl) (Nat.le_of_ble_eq_true rfl) rfl
  refine sh_Lk_cV (r := none) (st2 := []) (pc2 := 29) (k2 := 48) (a := 39) (as := [.ref 40, .int 1]) (rest := []) rfl rfl rfl (fun hT => (sh_s39 hT.st)) rfl rfl ⟨Nat.le_of_ble_eq_true rfl, Nat.le_of_ble_eq_true rfl⟩ (sl_48 e2 ⟨rfl, rfl⟩) rfl rfl (Nat.le_of_ble_eq_true rfl) (Nat.le_of_ble_eq_true rfl) ?_
  refine sh_Lk_lift (T := m12.T) (I := m12.I) (J := m12.J) (s := m12.s) (pc2 := 30) (lv2 := [(0, .ref 40)]) (st2 := [.ref 40]) (I2 := m12.I) (J2 := m12.J) (fun hT v kk => ?_) ?_
  · refine sh_w (i := (.aload_n 0)) (len := 1) (pc2 := 30) (lv2 := [(0, .ref 40)]) (st2 := [.ref 40]) (h2 := (sh_rep m12.T m12.I m12.J)) rfl rfl rfl ?_
    exact kk
  rcases sh_bt_e e with ⟨m13, e3, rfl⟩ | ⟨r3, m13, e3, e⟩
  · obtain ⟨rfl, rfl⟩ := tg
    exact sh_Lk_tV (k2 := 52) (a := 39) (as := [.ref 40]) (rest := []) rfl rfl rfl (fun hT => (sh_s39 hT.st)) rfl rfl ⟨Nat.le_of_ble_eq_true rfl, Nat.le_of_ble_eq_true rfl⟩ (sl_52 e3 ⟨rfl, rfl⟩) rfl (Nat.le_of_ble_eq_true rfl) (Nat.le_of_ble_eq_true rfl) (Nat.le_of_ble_eq_true rfl) (Nat.le_of_ble_eq_true rfl) rfl
  refine sh_Lk_cV (r := none) (st2 := []) (pc2 := 33) (k2 := 52) (a := 39) (as := [.ref 40]) (rest := []) rfl rfl rfl (fun hT => (sh_s39 hT.st)) rfl rfl ⟨Nat.le_of_ble_eq_true rfl, Nat.le_of_ble_eq_true rfl⟩ (sl_52 e3 ⟨rfl, rfl⟩) rfl rfl (Nat.le_of_ble_eq_true rfl) (Nat.le_of_ble_eq_true rfl) ?_
  refine sh_Lk_lift (T := m13.T) (I := m13.I) (J := m13.J) (s := m13.s) (pc2 := 36) (lv2 := [(0, .ref 40)]) (st2 := [.int 59, .ref 40]) (I2 := m13.I) (J2 := m13.J) (fun hT v kk => ?_) ?_
  · refine sh_w (i := (.aload_n 0)) (len := 1) (pc2 := 34) (lv2 := [(0, .ref 40)]) (st2 := [.ref 40]) (h2 := (sh_rep m13.T m13.I m13.J)) rfl rfl rfl ?_
    refine sh_w (i := (.bipush 59)) (len := 2) (pc2 := 36) (lv2 := [(0, .ref 40)]) (st2 := [.int 59, .ref 40]) (h2 := (sh_rep m13.T m13.I m13.J)) rfl rfl rfl ?_
    exact kk
  rcases sh_bt_e e with ⟨m14, e4, rfl⟩ | ⟨r4, m14, e4, e⟩
  · obtain ⟨rfl, rfl⟩ := tg
    exact sh_Lk_tV (k2 := 48) (a := 39) (as := [.ref 40, .int 59]) (rest := []) rfl rfl rfl (fun hT => (sh_s39 hT.st)) rfl rfl ⟨Nat.le_of_ble_eq_true rfl, Nat.le_of_ble_eq_true rfl⟩ (sl_48 e4 ⟨rfl, rfl⟩) rfl (Nat.le_of_ble_eq_true rfl) (Nat.le_of_ble_eq_true rfl) (Nat.le_of_ble_eq_true rfl) (Nat.le_of_ble_eq_true rfl) rfl
  refine sh_Lk_cV (r := none) (st2 := []) (pc2 := 39) (k2 := 48) (a := 39) (as := [.ref 40, .int 59]) (rest := []) rfl rfl rfl (fun hT => (sh_s39 hT.st)) rfl rfl ⟨Nat.le_of_ble_eq_true rfl, Nat.le_of_ble_eq_true rfl⟩ (sl_48 e4 ⟨rfl, rfl⟩) rfl rfl (Nat.le_of_ble_eq_true rfl) (Nat.le_of_ble_eq_true rfl) ?_
  obtain rfl := Option.some.inj e
  obtain ⟨rfl, rfl⟩ := tg
  exact sh_Lk_ret (i := .return_) rfl rfl rfl (Nat.le_of_ble_eq_true rfl) (Nat.le_of_ble_eq_true rfl)
theorem sl_43_88 {m m2 : sh_X} {o : Outcome} {z : (Option Unit × sh_X)} (e : sf_43_88 m = some z) (tg : (sh_tVt o m2) z) : sh_Lk 43 88 [(0, .ref 40)] [] m o m2 2015 80354 := by
  unfold sf_43_88 at e
  refine sh_Lk_lift (T := m.T) (I := m.I) (J := m.J) (s := m.s) (pc2 := 90) (lv2 := [(0, .ref 40)]) (st2 := [.int 0, .ref 40]) (I2 := m.I) (J2 := m.J) (fun hT v kk => ?_) ?_
  · refine sh_w (i := (.aload_n 0)) (len := 1) (pc2 := 89) (lv2 := [(0, .ref 40)]) (st2 := [.ref 40]) (h2 := (sh_rep m.T m.I m.J)) rfl rfl rfl ?_
    refine sh_w (i := (.iconst 0)) (len := 1) (pc2 := 90) (lv2 := [(0, .ref 40)]) (st2 := [.int 0, .ref 40]) (h2 := (sh_rep m.T m.I m.J)) rfl rfl rfl ?_
    exact kk
  rcases sh_bt_e e with ⟨m11, e1, rfl⟩ | ⟨r1, m11, e1, e⟩
  · obtain ⟨rfl, rfl⟩ := tg
    exact sh_Lk_tV (k2 := 53) (a := 39) (as := [.ref 40, .int 0]) (rest := []) rfl rfl rfl (fun hT => (sh_s39 hT.st)) rfl rfl ⟨Nat.le_of_ble_eq_true rfl, Nat.le_of_ble_eq_true rfl⟩ ((sq_48_l sh_dp).f53 e1 ⟨rfl, rfl⟩) rfl (Nat.le_of_ble_eq_true rfl) (Nat.le_of_ble_eq_true rfl) (Nat.le_of_ble_eq_true rfl) (Nat.le_of_ble_eq_true rfl) rfl
  refine sh_Lk_cV (r := none) (st2 := []) (pc2 := 93) (k2 := 53) (a := 39) (as := [.ref 40, .int 0]) (rest := []) rfl rfl rfl (fun hT => (sh_s39 hT.st)) rfl rfl ⟨Nat.le_of_ble_eq_true rfl, Nat.le_of_ble_eq_true rfl⟩ ((sq_48_l sh_dp).f53 e1 ⟨rfl, rfl⟩) rfl rfl (Nat.le_of_ble_eq_true rfl) (Nat.le_of_ble_eq_true rfl) ?_
  refine sh_Lk_lift (T := m11.T) (I := m11.I) (J := m11.J) (s := m11.s) (pc2 := 95) (lv2 := [(0, .ref 40)]) (st2 := [.int 0, .ref 40]) (I2 := m11.I) (J2 := m11.J) (fun hT v kk => ?_) ?_
  · refine sh_w (i := (.aload_n 0)) (len := 1) (pc2 := 94) (lv2 := [(0, .ref 40)]) (st2 := [.ref 40]) (h2 := (sh_rep m11.T m11.I m11.J)) rfl rfl rfl ?_
    refine sh_w (i := (.iconst 0)) (len := 1) (pc2 := 95) (lv2 := [(0, .ref 40)]) (st2 := [.int 0, .ref 40]) (h2 := (sh_rep m11.T m11.I m11.J)) rfl rfl rfl ?_
    exact kk
  rcases sh_bt_e e with ⟨m12, e2, rfl⟩ | ⟨r2, m12, e2, e⟩
  · obtain ⟨rfl, rfl⟩ := tg
    exact sh_Lk_tV (k2 := 48) (a := 39) (as := [.ref 40, .int 0]) (rest := []) rfl rfl rfl (fun hT => (sh_s39 hT.st)) rfl rfl ⟨Nat.le_of_ble_eq_true rfl, Nat.le_of_ble_eq_true rfl⟩ (sl_48 e2 ⟨rfl, rfl⟩) rfl (Nat.le_of_ble_eq_true rfl) (Nat.le_of_ble_eq_true rfl) (Nat.le_of_ble_eq_true rfl) (Nat.le_of_ble_eq_true rfl) rfl
  refine sh_Lk_cV (r := none) (st2 := []) (pc2 := 98) (k2 := 48) (a := 39) (as := [.ref 40, .int 0]) (rest := []) rfl rfl rfl (fun hT => (sh_s39 hT.st)) rfl rfl ⟨Nat.le_of_ble_eq_true rfl, Nat.le_of_ble_eq_true rfl⟩ (sl_48 e2 ⟨rfl, rfl⟩) rfl rfl (Nat.le_of_ble_eq_true rfl) (Nat.le_of_ble_eq_true rfl) ?_
  obtain rfl := Option.some.inj e
  obtain ⟨rfl, rfl⟩ := tg
  exact sh_Lk_ret (i := .return_) rfl rfl rfl (Nat.le_of_ble_eq_true rfl) (Nat.le_of_ble_eq_true rfl)
theorem sl_43_61s {x1 : Int32} {m m2 : sh_X} {o : Outcome} {z : ((Int32 × sh_X) ⊕ (Option Unit × sh_X))} (e : sf_43_61s x1 m = some z) (tg : (sh_el (fun q => sh_Lk 43 61 [(0, .ref 40), (1, .int q.1)] [] q.2 o m2 2015 80354) (sh_tVt o m2)) z) : sh_Lk 43 61 [(0, .ref 40), (1, .int x1)] [] m o m2 2015 80354 := by
  unfold sf_43_61s at e
  refine sh_Lk_lift (T := m.T) (I := m.I) (J := m.J) (s := m.s) (pc2 := 65) (lv2 := [(0, .ref 40), (1, .int x1)]) (st2 := [.int 4000, .int x1]) (I2 := m.I) (J2 := m.J) (fun hT v kk => ?_) ?_
  · refine sh_w (i := (.iload_n 1)) (len := 1) (pc2 := 62) (lv2 := [(0, .ref 40), (1, .int x1)]) (st2 := [.int x1]) (h2 := (sh_rep m.T m.I m.J)) rfl rfl rfl ?_
    refine sh_w (i := (.sipush 4000)) (len := 3) (pc2 := 65) (lv2 := [(0, .ref 40), (1, .int x1)]) (st2 := [.int 4000, .int x1]) (h2 := (sh_rep m.T m.I m.J)) rfl rfl rfl ?_
    exact kk
  rcases sh_ite e with ⟨c, e⟩ | ⟨c, e⟩
  · refine sh_Lk_lift (T := m.T) (I := m.I) (J := m.J) (s := m.s) (pc2 := 69) (lv2 := [(0, .ref 40), (1, .int x1)]) (st2 := [.ref 40]) (I2 := m.I) (J2 := m.J) (fun hT v kk => ?_) ?_
    · refine sh_jc (c := .ge) (off := (23)) (pc2 := 68) false rfl (sh_Bgef c) rfl ?_
      refine sh_w (i := (.aload_n 0)) (len := 1) (pc2 := 69) (lv2 := [(0, .ref 40), (1, .int x1)]) (st2 := [.ref 40]) (h2 := (sh_rep m.T m.I m.J)) rfl rfl rfl ?_
      exact kk
    obtain ⟨r1, e1, e⟩ := sh_bc_e e
    refine sh_Lk_cV (r := (some (.int r1))) (st2 := [.int r1]) (pc2 := 72) (k2 := 45) (a := 39) (as := [.ref 40]) (rest := []) rfl rfl rfl (fun hT => (sh_s39 hT.st)) rfl rfl ⟨Nat.le_of_ble_eq_true rfl, Nat.le_of_ble_eq_true rfl⟩ (sl_45 e1 ⟨rfl, rfl⟩) rfl rfl (Nat.le_of_ble_eq_true rfl) (Nat.le_of_ble_eq_true rfl) ?_
    refine sh_Lk_cS (r := (some (.int (sh_b2 (sf_76 r1))))) (st2 := [.int (sh_b2 (sf_76 r1))]) (pc2 := 75) (k2 := 76) (as := [.int r1]) (rest := []) rfl rfl (by decide) (Nat.le_of_ble_eq_true rfl) rfl rfl ⟨Nat.le_of_ble_eq_true rfl, Nat.le_of_ble_eq_true rfl⟩ (sl_76 (m := m) rfl ⟨rfl, rfl⟩) rfl rfl (Nat.le_of_ble_eq_true rfl) (Nat.le_of_ble_eq_true rfl) ?_
    rcases sh_ite e with ⟨c, e⟩ | ⟨c, e⟩
    · refine sh_Lk_lift (T := m.T) (I := m.I) (J := m.J) (s := m.s) (pc2 := 79) (lv2 := [(0, .ref 40), (1, .int x1)]) (st2 := [.ref 40]) (I2 := m.I) (J2 := m.J) (fun hT v kk => ?_) ?_
      · refine sh_j0 (c := .eq) (off := (13)) (pc2 := 78) false rfl (sh_Zeqf c) rfl ?_
        refine sh_w (i := (.aload_n 0)) (len := 1) (pc2 := 79) (lv2 := [(0, .ref 40), (1, .int x1)]) (st2 := [.ref 40]) (h2 := (sh_rep m.T m.I m.J)) rfl rfl rfl ?_
        exact kk
      rcases sh_bt_e e with ⟨m13, e3, rfl⟩ | ⟨r3, m13, e3, e⟩
      · obtain ⟨rfl, rfl⟩ := tg
        exact sh_Lk_tV (k2 := 77) (a := 39) (as := [.ref 40]) (rest := []) rfl rfl rfl (fun hT => (sh_s39 hT.st)) rfl rfl ⟨Nat.le_of_ble_eq_true rfl, Nat.le_of_ble_eq_true rfl⟩ (sl_77 e3 ⟨rfl, rfl⟩) rfl (Nat.le_of_ble_eq_true rfl) (Nat.le_of_ble_eq_true rfl) (Nat.le_of_ble_eq_true rfl) (Nat.le_of_ble_eq_true rfl) rfl
      refine sh_Lk_cV (r := none) (st2 := []) (pc2 := 82) (k2 := 77) (a := 39) (as := [.ref 40]) (rest := []) rfl rfl rfl (fun hT => (sh_s39 hT.st)) rfl rfl ⟨Nat.le_of_ble_eq_true rfl, Nat.le_of_ble_eq_true rfl⟩ (sl_77 e3 ⟨rfl, rfl⟩) rfl rfl (Nat.le_of_ble_eq_true rfl) (Nat.le_of_ble_eq_true rfl) ?_
      refine sh_Lk_lift (T := m13.T) (I := m13.I) (J := m13.J) (s := m13.s) (pc2 := 61) (lv2 := [(1, .int (x1 + 1)), (0, .ref 40)]) (st2 := []) (I2 := m13.I) (J2 := m13.J) (fun hT v kk => ?_) ?_
      · refine sh_w (i := (.iinc 1 1)) (len := 3) (pc2 := 85) (lv2 := [(1, .int (x1 + 1)), (0, .ref 40)]) (st2 := []) (h2 := (sh_rep m13.T m13.I m13.J)) rfl rfl rfl ?_
        refine sh_w (i := (.goto (-24))) (len := 3) (pc2 := 61) (lv2 := [(1, .int (x1 + 1)), (0, .ref 40)]) (st2 := []) (h2 := (sh_rep m13.T m13.I m13.J)) rfl rfl rfl ?_
        exact kk
      obtain rfl := Option.some.inj e
      exact sh_Lk_sub (sh_sub_c rfl (sh_sub_c rfl (sh_sub_n))) tg
    · refine sh_Lk_lift (T := m.T) (I := m.I) (J := m.J) (s := m.s) (pc2 := 88) (lv2 := [(0, .ref 40), (1, .int x1)]) (st2 := []) (I2 := m.I) (J2 := m.J) (fun hT v kk => ?_) ?_
      · refine sh_j0 (c := .eq) (off := (13)) (pc2 := 88) true rfl (sh_Zeqt c) rfl ?_
        exact kk
      obtain ⟨_, eu, rfl⟩ := sh_up_e e
      exact sh_Lk_sub (sh_sub_c rfl (sh_sub_n)) (sl_43_88 eu tg)
  · refine sh_Lk_lift (T := m.T) (I := m.I) (J := m.J) (s := m.s) (pc2 := 88) (lv2 := [(0, .ref 40), (1, .int x1)]) (st2 := []) (I2 := m.I) (J2 := m.J) (fun hT v kk => ?_) ?_
    · refine sh_jc (c := .ge) (off := (23)) (pc2 := 88) true rfl (sh_Bget c) rfl ?_
      exact kk
    obtain ⟨_, eu, rfl⟩ := sh_up_e e
    exact sh_Lk_sub (sh_sub_c rfl (sh_sub_n)) (sl_43_88 eu tg)
theorem sl_43_61 {x1 : Int32} {m m2 : sh_X} {o : Outcome} {z : (Option Unit × sh_X)} (e : sf_43_61 x1 m = some z) (tg : (sh_tVt o m2) z) : sh_Lk 43 61 [(0, .ref 40), (1, .int x1)] [] m o m2 2015 80354 := by
  unfold sf_43_61 at e
  exact sh_while_lk (P := fun q => sh_Lk 43 61 [(0, .ref 40), (1, .int q.1)] [] q.2 o m2 2015 80354) (Q := (sh_tVt o m2)) (fun q z e tg => sl_43_61s (x1 := q.1) (m := q.2) e tg) (s := (x1, m)) e tg
theorem sl_43_45 {m m2 : sh_X} {o : Outcome} {z : (Option Unit × sh_X)} (e : sf_43_45 m = some z) (tg : (sh_tVt o m2) z) : sh_Lk 43 45 [(0, .ref 40)] [] m o m2 2015 80354 := by
  unfold sf_43_45 at e
  refine sh_Lk_lift (T := m.T) (I := m.I) (J := m.J) (s := m.s) (pc2 := 61) (lv2 := [(1, .int 0), (0, .ref 40)]) (st2 := []) (I2 := sh_u2 m.I 28 11 (m.I 28 10)) (J2 := m.J) (fun hT v kk => ?_) ?_
  · refine sh_w (i := (.aload_n 0)) (len := 1) (pc2 := 46) (lv2 := [(0, .ref 40)]) (st2 := [.ref 40]) (h2 := (sh_rep m.T m.I m.J)) rfl rfl rfl ?_
    refine sh_gR1 (len := 3) (x := .ref 29) (pc2 := 49) rfl rfl (sh_s39 hT.st) rfl rfl ?_
    refine sh_w (i := (.aload_n 0)) (len := 1) (pc2 := 50) (lv2 := [(0, .ref 40)]) (st2 := [.ref 40, .ref 29]) (h2 := (sh_rep m.T m.I m.J)) rfl rfl rfl ?_
    refine sh_gR1 (len := 3) (x := .ref 29) (pc2 := 53) rfl rfl (sh_s39 hT.st) rfl rfl ?_
    refine sh_gI1 (len := 3) (x := m.I 28 10) (pc2 := 56) rfl rfl (sh_s28 hT.st) rfl rfl rfl ?_
    refine sh_pI1 (x := m.I 28 10) (pc2 := 59) rfl rfl (sh_s28 hT.st) rfl rfl rfl rfl ?_
    refine sh_w (i := (.iconst 0)) (len := 1) (pc2 := 60) (lv2 := [(0, .ref 40)]) (st2 := [.int 0]) (h2 := (sh_rep m.T (sh_u2 m.I 28 11 (m.I 28 10)) m.J)) rfl rfl rfl ?_
    refine sh_w (i := (.istore_n 1)) (len := 1) (pc2 := 61) (lv2 := [(1, .int 0), (0, .ref 40)]) (st2 := []) (h2 := (sh_rep m.T (sh_u2 m.I 28 11 (m.I 28 10)) m.J)) rfl rfl rfl ?_
    exact kk
  exact sh_Lk_sub (sh_sub_c rfl (sh_sub_c rfl (sh_sub_n))) (sl_43_61 e tg)
theorem sl_43_19s {x1 : Int32} {m m2 : sh_X} {o : Outcome} {z : ((Int32 × sh_X) ⊕ (Option Unit × sh_X))} (e : sf_43_19s x1 m = some z) (tg : (sh_el (fun q => sh_Lk 43 19 [(0, .ref 40), (1, .int q.1)] [] q.2 o m2 2015 80354) (sh_tVt o m2)) z) : sh_Lk 43 19 [(0, .ref 40), (1, .int x1)] [] m o m2 2015 80354 := by
  unfold sf_43_19s at e
  refine sh_Lk_lift (T := m.T) (I := m.I) (J := m.J) (s := m.s) (pc2 := 23) (lv2 := [(0, .ref 40), (1, .int x1)]) (st2 := [.int 4000, .int x1]) (I2 := m.I) (J2 := m.J) (fun hT v kk => ?_) ?_
  · refine sh_w (i := (.iload_n 1)) (len := 1) (pc2 := 20) (lv2 := [(0, .ref 40), (1, .int x1)]) (st2 := [.int x1]) (h2 := (sh_rep m.T m.I m.J)) rfl rfl rfl ?_
    refine sh_w (i := (.sipush 4000)) (len := 3) (pc2 := 23) (lv2 := [(0, .ref 40), (1, .int x1)]) (st2 := [.int 4000, .int x1]) (h2 := (sh_rep m.T m.I m.J)) rfl rfl rfl ?_
    exact kk
  rcases sh_ite e with ⟨c, e⟩ | ⟨c, e⟩
  · refine sh_Lk_lift (T := m.T) (I := m.I) (J := m.J) (s := m.s) (pc2 := 27) (lv2 := [(0, .ref 40), (1, .int x1)]) (st2 := [.ref 40]) (I2 := m.I) (J2 := m.J) (fun hT v kk => ?_) ?_
    · refine sh_jc (c := .ge) (off := (22)) (pc2 := 26) false rfl (sh_Bgef c) rfl ?_
      refine sh_w (i := (.aload_n 0)) (len := 1) (pc2 := 27) (lv2 := [(0, .ref 40), (1, .int x1)]) (st2 := [.ref 40]) (h2 := (sh_rep m.T m.I m.J)) rfl rfl rfl ?_
      exact kk
    obtain ⟨r1, e1, e⟩ := sh_bc_e e
    refine sh_Lk_cV (r := (some (.int r1))) (st2 := [.int r1]) (pc2 := 30) (k2 := 45) (a := 39) (as := [.ref 40]) (rest := []) rfl rfl rfl (fun hT => (sh_s39 hT.st)) rfl rfl ⟨Nat.le_of_ble_eq_true rfl, Nat.le_of_ble_eq_true rfl⟩ (sl_45 e1 ⟨rfl, rfl⟩) rfl rfl (Nat.le_of_ble_eq_true rfl) (Nat.le_of_ble_eq_true rfl) ?_
    refine sh_Lk_lift (T := m.T) (I := m.I) (J := m.J) (s := m.s) (pc2 := 32) (lv2 := [(0, .ref 40), (1, .int x1)]) (st2 := [.int 8, .int r1]) (I2 := m.I) (J2 := m.J) (fun hT v kk => ?_) ?_
    · refine sh_w (i := (.bipush 8)) (len := 2) (pc2 := 32) (lv2 := [(0, .ref 40), (1, .int x1)]) (st2 := [.int 8, .int r1]) (h2 := (sh_rep m.T m.I m.J)) rfl rfl rfl ?_
      exact kk
    rcases sh_ite e with ⟨c, e⟩ | ⟨c, e⟩
    · refine sh_Lk_lift (T := m.T) (I := m.I) (J := m.J) (s := m.s) (pc2 := 36) (lv2 := [(0, .ref 40), (1, .int x1)]) (st2 := [.ref 40]) (I2 := m.I) (J2 := m.J) (fun hT v kk => ?_) ?_
      · refine sh_jc (c := .ne) (off := (13)) (pc2 := 35) false rfl (sh_Bnef c) rfl ?_
        refine sh_w (i := (.aload_n 0)) (len := 1) (pc2 := 36) (lv2 := [(0, .ref 40), (1, .int x1)]) (st2 := [.ref 40]) (h2 := (sh_rep m.T m.I m.J)) rfl rfl rfl ?_
        exact kk
      rcases sh_bt_e e with ⟨m12, e2, rfl⟩ | ⟨r2, m12, e2, e⟩
      · obtain ⟨rfl, rfl⟩ := tg
        exact sh_Lk_tV (k2 := 47) (a := 39) (as := [.ref 40]) (rest := []) rfl rfl rfl (fun hT => (sh_s39 hT.st)) rfl rfl ⟨Nat.le_of_ble_eq_true rfl, Nat.le_of_ble_eq_true rfl⟩ (sl_47 e2 ⟨rfl, rfl⟩) rfl (Nat.le_of_ble_eq_true rfl) (Nat.le_of_ble_eq_true rfl) (Nat.le_of_ble_eq_true rfl) (Nat.le_of_ble_eq_true rfl) rfl
      refine sh_Lk_cV (r := none) (st2 := []) (pc2 := 39) (k2 := 47) (a := 39) (as := [.ref 40]) (rest := []) rfl rfl rfl (fun hT => (sh_s39 hT.st)) rfl rfl ⟨Nat.le_of_ble_eq_true rfl, Nat.le_of_ble_eq_true rfl⟩ (sl_47 e2 ⟨rfl, rfl⟩) rfl rfl (Nat.le_of_ble_eq_true rfl) (Nat.le_of_ble_eq_true rfl) ?_
      refine sh_Lk_lift (T := m12.T) (I := m12.I) (J := m12.J) (s := m12.s) (pc2 := 19) (lv2 := [(1, .int (x1 + 1)), (0, .ref 40)]) (st2 := []) (I2 := m12.I) (J2 := m12.J) (fun hT v kk => ?_) ?_
      · refine sh_w (i := (.iinc 1 1)) (len := 3) (pc2 := 42) (lv2 := [(1, .int (x1 + 1)), (0, .ref 40)]) (st2 := []) (h2 := (sh_rep m12.T m12.I m12.J)) rfl rfl rfl ?_
        refine sh_w (i := (.goto (-23))) (len := 3) (pc2 := 19) (lv2 := [(1, .int (x1 + 1)), (0, .ref 40)]) (st2 := []) (h2 := (sh_rep m12.T m12.I m12.J)) rfl rfl rfl ?_
        exact kk
      obtain rfl := Option.some.inj e
      exact sh_Lk_sub (sh_sub_c rfl (sh_sub_c rfl (sh_sub_n))) tg
    · refine sh_Lk_lift (T := m.T) (I := m.I) (J := m.J) (s := m.s) (pc2 := 45) (lv2 := [(0, .ref 40), (1, .int x1)]) (st2 := []) (I2 := m.I) (J2 := m.J) (fun hT v kk => ?_) ?_
      · refine sh_jc (c := .ne) (off := (13)) (pc2 := 45) true rfl (sh_Bnet c) rfl ?_
        exact kk
      obtain ⟨_, eu, rfl⟩ := sh_up_e e
      exact sh_Lk_sub (sh_sub_c rfl (sh_sub_n)) (sl_43_45 eu tg)
  · refine sh_Lk_lift (T := m.T) (I := m.I) (J := m.J) (s := m.s) (pc2 := 45) (lv2 := [(0, .ref 40), (1, .int x1)]) (st2 := []) (I2 := m.I) (J2 := m.J) (fun hT v kk => ?_) ?_
    · refine sh_jc (c := .ge) (off := (22)) (pc2 := 45) true rfl (sh_Bget c) rfl ?_
      exact kk
    obtain ⟨_, eu, rfl⟩ := sh_up_e e
    exact sh_Lk_sub (sh_sub_c rfl (sh_sub_n)) (sl_43_45 eu tg)
theorem sl_43_19 {x1 : Int32} {m m2 : sh_X} {o : Outcome} {z : (Option Unit × sh_X)} (e : sf_43_19 x1 m = some z) (tg : (sh_tVt o m2) z) : sh_Lk 43 19 [(0, .ref 40), (1, .int x1)] [] m o m2 2015 80354 := by
  unfold sf_43_19 at e
  exact sh_while_lk (P := fun q => sh_Lk 43 19 [(0, .ref 40), (1, .int q.1)] [] q.2 o m2 2015 80354) (Q := (sh_tVt o m2)) (fun q z e tg => sl_43_19s (x1 := q.1) (m := q.2) e tg) (s := (x1, m)) e tg
theorem sl_43 {m m2 : sh_X} {o : Outcome} {z : (Option Unit × sh_X)} (e : sf_43 m = some z) (tg : (sh_tVt o m2) z) : sh_Lk 43 0 [(0, .ref 40)] [] m o m2 2015 80354 := by
  unfold sf_43 at e
  refine sh_Lk_lift (T := m.T) (I := m.I) (J := m.J) (s := m.s) (pc2 := 4) (lv2 := [(0, .ref 40)]) (st2 := [.ref 29]) (I2 := m.I) (J2 := m.J) (fun hT v kk => ?_) ?_
  · refine sh_w (i := (.aload_n 0)) (len := 1) (pc2 := 1) (lv2 := [(0, .ref 40)]) (st2 := [.ref 40]) (h2 := (sh_rep m.T m.I m.J)) rfl rfl rfl ?_
    refine sh_gR1 (len := 3) (x := .ref 29) (pc2 := 4) rfl rfl (sh_s39 hT.st) rfl rfl ?_
    exact kk
  obtain ⟨r1, m11, e1, e⟩ := sh_bn_e e
  refine sh_Lk_cV (r := none) (st2 := []) (pc2 := 7) (k2 := 44) (a := 28) (as := [.ref 29]) (rest := []) rfl rfl rfl (fun hT => (sh_s28 hT.st)) rfl rfl ⟨Nat.le_of_ble_eq_true rfl, Nat.le_of_ble_eq_true rfl⟩ (sl_44 e1 ⟨rfl, rfl⟩) rfl rfl (Nat.le_of_ble_eq_true rfl) (Nat.le_of_ble_eq_true rfl) ?_
  refine sh_Lk_lift (T := m11.T) (I := m11.I) (J := m11.J) (s := m11.s) (pc2 := 19) (lv2 := [(1, .int 0), (0, .ref 40)]) (st2 := []) (I2 := sh_u2 (sh_u2 m11.I 39 3 0) 39 4 0) (J2 := m11.J) (fun hT v kk => ?_) ?_
  · refine sh_w (i := (.aload_n 0)) (len := 1) (pc2 := 8) (lv2 := [(0, .ref 40)]) (st2 := [.ref 40]) (h2 := (sh_rep m11.T m11.I m11.J)) rfl rfl rfl ?_
    refine sh_w (i := (.iconst 0)) (len := 1) (pc2 := 9) (lv2 := [(0, .ref 40)]) (st2 := [.int 0, .ref 40]) (h2 := (sh_rep m11.T m11.I m11.J)) rfl rfl rfl ?_
    refine sh_pI1 (x := 0) (pc2 := 12) rfl rfl (sh_s39 hT.st) rfl rfl rfl rfl ?_
    refine sh_w (i := (.aload_n 0)) (len := 1) (pc2 := 13) (lv2 := [(0, .ref 40)]) (st2 := [.ref 40]) (h2 := (sh_rep m11.T (sh_u2 m11.I 39 3 0) m11.J)) rfl rfl rfl ?_
    refine sh_w (i := (.iconst 0)) (len := 1) (pc2 := 14) (lv2 := [(0, .ref 40)]) (st2 := [.int 0, .ref 40]) (h2 := (sh_rep m11.T (sh_u2 m11.I 39 3 0) m11.J)) rfl rfl rfl ?_
    refine sh_pI1 (x := 0) (pc2 := 17) rfl rfl (sh_s39 hT.st) rfl rfl rfl rfl ?_
    refine sh_w (i := (.iconst 0)) (len := 1) (pc2 := 18) (lv2 := [(0, .ref 40)]) (st2 := [.int 0]) (h2 := (sh_rep m11.T (sh_u2 (sh_u2 m11.I 39 3 0) 39 4 0) m11.J)) rfl rfl rfl ?_
    refine sh_w (i := (.istore_n 1)) (len := 1) (pc2 := 19) (lv2 := [(1, .int 0), (0, .ref 40)]) (st2 := []) (h2 := (sh_rep m11.T (sh_u2 (sh_u2 m11.I 39 3 0) 39 4 0) m11.J)) rfl rfl rfl ?_
    exact kk
  exact sh_Lk_sub (sh_sub_c rfl (sh_sub_c rfl (sh_sub_n))) (sl_43_19 e tg)
theorem sl_80 {m m2 : sh_X} {o : Outcome} {z : (Unit × sh_X)} (e : sf_80 m = some z) (tg : (sh_tV o m2) z) : sh_Lk 80 0 [(0, .ref 45)] [] m o m2 8 200 := by
  unfold sf_80 at e
  refine sh_Lk_lift (T := m.T) (I := m.I) (J := m.J) (s := m.s) (pc2 := 19) (lv2 := [(0, .ref 45)]) (st2 := []) (I2 := sh_u2 (sh_u2 (sh_u2 m.I 44 4 2) 45 0 0) 45 1 1) (J2 := m.J) (fun hT v kk => ?_) ?_
  · refine sh_w (i := (.aload_n 0)) (len := 1) (pc2 := 1) (lv2 := [(0, .ref 45)]) (st2 := [.ref 45]) (h2 := (sh_rep m.T m.I m.J)) rfl rfl rfl ?_
    refine sh_w (i := (.iconst 2)) (len := 1) (pc2 := 2) (lv2 := [(0, .ref 45)]) (st2 := [.int 2, .ref 45]) (h2 := (sh_rep m.T m.I m.J)) rfl rfl rfl ?_
    refine sh_pI1 (x := 2) (pc2 := 5) rfl rfl (sh_s44 hT.st) rfl rfl rfl rfl ?_
    refine sh_w (i := (.aload_n 0)) (len := 1) (pc2 := 6) (lv2 := [(0, .ref 45)]) (st2 := [.ref 45]) (h2 := (sh_rep m.T (sh_u2 m.I 44 4 2) m.J)) rfl rfl rfl ?_
    refine sh_gR1 (len := 3) (x := .ref 46) (pc2 := 9) rfl rfl (sh_s44 hT.st) rfl rfl ?_
    refine sh_w (i := (.iconst 0)) (len := 1) (pc2 := 10) (lv2 := [(0, .ref 45)]) (st2 := [.int 0, .ref 46]) (h2 := (sh_rep m.T (sh_u2 m.I 44 4 2) m.J)) rfl rfl rfl ?_
    refine sh_w (i := (.iconst 0)) (len := 1) (pc2 := 11) (lv2 := [(0, .ref 45)]) (st2 := [.int 0, .int 0, .ref 46]) (h2 := (sh_rep m.T (sh_u2 m.I 44 4 2) m.J)) rfl rfl rfl ?_
    refine sh_is1 (x := 0) (i := 0) (pc2 := 12) rfl (sh_s45 hT.st) (by decide) (by decide) rfl ?_
    refine sh_w (i := (.aload_n 0)) (len := 1) (pc2 := 13) (lv2 := [(0, .ref 45)]) (st2 := [.ref 45]) (h2 := (sh_rep m.T (sh_u2 (sh_u2 m.I 44 4 2) 45 0 0) m.J)) rfl rfl rfl ?_
    refine sh_gR1 (len := 3) (x := .ref 46) (pc2 := 16) rfl rfl (sh_s44 hT.st) rfl rfl ?_
    refine sh_w (i := (.iconst 1)) (len := 1) (pc2 := 17) (lv2 := [(0, .ref 45)]) (st2 := [.int 1, .ref 46]) (h2 := (sh_rep m.T (sh_u2 (sh_u2 m.I 44 4 2) 45 0 0) m.J)) rfl rfl rfl ?_
    refine sh_w (i := (.iconst 1)) (len := 1) (pc2 := 18) (lv2 := [(0, .ref 45)]) (st2 := [.int 1, .int 1, .ref 46]) (h2 := (sh_rep m.T (sh_u2 (sh_u2 m.I 44 4 2) 45 0 0) m.J)) rfl rfl rfl ?_
    refine sh_is1 (x := 1) (i := 1) (pc2 := 19) rfl (sh_s45 hT.st) (by decide) (by decide) rfl ?_
    exact kk
  obtain rfl := Option.some.inj e
  obtain ⟨rfl, rfl⟩ := tg
  exact sh_Lk_ret (i := .return_) rfl rfl rfl (Nat.le_of_ble_eq_true rfl) (Nat.le_of_ble_eq_true rfl)
theorem sl_81 {m m2 : sh_X} {o : Outcome} {z : (Unit × sh_X)} (e : sf_81 m = some z) (tg : (sh_tV o m2) z) : sh_Lk 81 0 [(0, .ref 54)] [] m o m2 8 200 := by
  unfold sf_81 at e
  refine sh_Lk_lift (T := m.T) (I := m.I) (J := m.J) (s := m.s) (pc2 := 10) (lv2 := [(0, .ref 54)]) (st2 := []) (I2 := sh_u2 (sh_u2 m.I 53 4 0) 53 5 0) (J2 := m.J) (fun hT v kk => ?_) ?_
  · refine sh_w (i := (.aload_n 0)) (len := 1) (pc2 := 1) (lv2 := [(0, .ref 54)]) (st2 := [.ref 54]) (h2 := (sh_rep m.T m.I m.J)) rfl rfl rfl ?_
    refine sh_w (i := (.iconst 0)) (len := 1) (pc2 := 2) (lv2 := [(0, .ref 54)]) (st2 := [.int 0, .ref 54]) (h2 := (sh_rep m.T m.I m.J)) rfl rfl rfl ?_
    refine sh_pI1 (x := 0) (pc2 := 5) rfl rfl (sh_s53 hT.st) rfl rfl rfl rfl ?_
    refine sh_w (i := (.aload_n 0)) (len := 1) (pc2 := 6) (lv2 := [(0, .ref 54)]) (st2 := [.ref 54]) (h2 := (sh_rep m.T (sh_u2 m.I 53 4 0) m.J)) rfl rfl rfl ?_
    refine sh_w (i := (.iconst 0)) (len := 1) (pc2 := 7) (lv2 := [(0, .ref 54)]) (st2 := [.int 0, .ref 54]) (h2 := (sh_rep m.T (sh_u2 m.I 53 4 0) m.J)) rfl rfl rfl ?_
    refine sh_pI1 (x := 0) (pc2 := 10) rfl rfl (sh_s53 hT.st) rfl rfl rfl rfl ?_
    exact kk
  obtain rfl := Option.some.inj e
  obtain ⟨rfl, rfl⟩ := tg
  exact sh_Lk_ret (i := .return_) rfl rfl rfl (Nat.le_of_ble_eq_true rfl) (Nat.le_of_ble_eq_true rfl)
theorem sl_79 {m m2 : sh_X} {o : Outcome} {z : (Unit × sh_X)} (e : sf_79 m = some z) (tg : (sh_tV o m2) z) : sh_Lk 79 0 [(0, .ref 42)] [] m o m2 9 220 := by
  unfold sf_79 at e
  refine sh_Lk_lift (T := m.T) (I := m.I) (J := m.J) (s := m.s) (pc2 := 4) (lv2 := [(0, .ref 42)]) (st2 := [.ref 45]) (I2 := m.I) (J2 := m.J) (fun hT v kk => ?_) ?_
  · refine sh_w (i := (.aload_n 0)) (len := 1) (pc2 := 1) (lv2 := [(0, .ref 42)]) (st2 := [.ref 42]) (h2 := (sh_rep m.T m.I m.J)) rfl rfl rfl ?_
    refine sh_gR1 (len := 3) (x := .ref 45) (pc2 := 4) rfl rfl (sh_s41 hT.st) rfl rfl ?_
    exact kk
  obtain ⟨r1, m11, e1, e⟩ := sh_bn_e e
  refine sh_Lk_cV (r := none) (st2 := []) (pc2 := 7) (k2 := 80) (a := 44) (as := [.ref 45]) (rest := []) rfl rfl rfl (fun hT => (sh_s44 hT.st)) rfl rfl ⟨Nat.le_of_ble_eq_true rfl, Nat.le_of_ble_eq_true rfl⟩ (sl_80 e1 ⟨rfl, rfl⟩) rfl rfl (Nat.le_of_ble_eq_true rfl) (Nat.le_of_ble_eq_true rfl) ?_
  refine sh_Lk_lift (T := m11.T) (I := m11.I) (J := m11.J) (s := m11.s) (pc2 := 11) (lv2 := [(0, .ref 42)]) (st2 := [.ref 54]) (I2 := m11.I) (J2 := m11.J) (fun hT v kk => ?_) ?_
  · refine sh_w (i := (.aload_n 0)) (len := 1) (pc2 := 8) (lv2 := [(0, .ref 42)]) (st2 := [.ref 42]) (h2 := (sh_rep m11.T m11.I m11.J)) rfl rfl rfl ?_
    refine sh_gR1 (len := 3) (x := .ref 54) (pc2 := 11) rfl rfl (sh_s41 hT.st) rfl rfl ?_
    exact kk
  obtain ⟨r2, m12, e2, e⟩ := sh_bn_e e
  refine sh_Lk_cV (r := none) (st2 := []) (pc2 := 14) (k2 := 81) (a := 53) (as := [.ref 54]) (rest := []) rfl rfl rfl (fun hT => (sh_s53 hT.st)) rfl rfl ⟨Nat.le_of_ble_eq_true rfl, Nat.le_of_ble_eq_true rfl⟩ (sl_81 e2 ⟨rfl, rfl⟩) rfl rfl (Nat.le_of_ble_eq_true rfl) (Nat.le_of_ble_eq_true rfl) ?_
  refine sh_Lk_lift (T := m12.T) (I := m12.I) (J := m12.J) (s := m12.s) (pc2 := 74) (lv2 := [(0, .ref 42)]) (st2 := []) (I2 := sh_u2 (sh_u2 (sh_u2 (sh_u2 (sh_u2 (sh_u2 (sh_u2 (sh_u2 (sh_u2 m12.I 48 4 0) 41 11 0) 41 12 0) 41 14 0) 41 15 1) 41 16 0) 41 17 0) 41 18 (m12.I 28 12)) 41 13 (m12.I 28 11)) (J2 := m12.J) (fun hT v kk => ?_) ?_
  · refine sh_w (i := (.aload_n 0)) (len := 1) (pc2 := 15) (lv2 := [(0, .ref 42)]) (st2 := [.ref 42]) (h2 := (sh_rep m12.T m12.I m12.J)) rfl rfl rfl ?_
    refine sh_gR1 (len := 3) (x := .ref 49) (pc2 := 18) rfl rfl (sh_s41 hT.st) rfl rfl ?_
    refine sh_w (i := (.iconst 0)) (len := 1) (pc2 := 19) (lv2 := [(0, .ref 42)]) (st2 := [.int 0, .ref 49]) (h2 := (sh_rep m12.T m12.I m12.J)) rfl rfl rfl ?_
    refine sh_pI1 (x := 0) (pc2 := 22) rfl rfl (sh_s48 hT.st) rfl rfl rfl rfl ?_
    refine sh_w (i := (.aload_n 0)) (len := 1) (pc2 := 23) (lv2 := [(0, .ref 42)]) (st2 := [.ref 42]) (h2 := (sh_rep m12.T (sh_u2 m12.I 48 4 0) m12.J)) rfl rfl rfl ?_
    refine sh_w (i := (.iconst 0)) (len := 1) (pc2 := 24) (lv2 := [(0, .ref 42)]) (st2 := [.int 0, .ref 42]) (h2 := (sh_rep m12.T (sh_u2 m12.I 48 4 0) m12.J)) rfl rfl rfl ?_
    refine sh_pI1 (x := 0) (pc2 := 27) rfl rfl (sh_s41 hT.st) rfl rfl rfl rfl ?_
    refine sh_w (i := (.aload_n 0)) (len := 1) (pc2 := 28) (lv2 := [(0, .ref 42)]) (st2 := [.ref 42]) (h2 := (sh_rep m12.T (sh_u2 (sh_u2 m12.I 48 4 0) 41 11 0) m12.J)) rfl rfl rfl ?_
    refine sh_w (i := (.iconst 0)) (len := 1) (pc2 := 29) (lv2 := [(0, .ref 42)]) (st2 := [.int 0, .ref 42]) (h2 := (sh_rep m12.T (sh_u2 (sh_u2 m12.I 48 4 0) 41 11 0) m12.J)) rfl rfl rfl ?_
    refine sh_pI1 (x := 0) (pc2 := 32) rfl rfl (sh_s41 hT.st) rfl rfl rfl rfl ?_
    refine sh_w (i := (.aload_n 0)) (len := 1) (pc2 := 33) (lv2 := [(0, .ref 42)]) (st2 := [.ref 42]) (h2 := (sh_rep m12.T (sh_u2 (sh_u2 (sh_u2 m12.I 48 4 0) 41 11 0) 41 12 0) m12.J)) rfl rfl rfl ?_
    refine sh_w (i := (.iconst 0)) (len := 1) (pc2 := 34) (lv2 := [(0, .ref 42)]) (st2 := [.int 0, .ref 42]) (h2 := (sh_rep m12.T (sh_u2 (sh_u2 (sh_u2 m12.I 48 4 0) 41 11 0) 41 12 0) m12.J)) rfl rfl rfl ?_
    refine sh_pI1 (x := 0) (pc2 := 37) rfl rfl (sh_s41 hT.st) rfl rfl rfl rfl ?_
    refine sh_w (i := (.aload_n 0)) (len := 1) (pc2 := 38) (lv2 := [(0, .ref 42)]) (st2 := [.ref 42]) (h2 := (sh_rep m12.T (sh_u2 (sh_u2 (sh_u2 (sh_u2 m12.I 48 4 0) 41 11 0) 41 12 0) 41 14 0) m12.J)) rfl rfl rfl ?_
    refine sh_w (i := (.iconst 1)) (len := 1) (pc2 := 39) (lv2 := [(0, .ref 42)]) (st2 := [.int 1, .ref 42]) (h2 := (sh_rep m12.T (sh_u2 (sh_u2 (sh_u2 (sh_u2 m12.I 48 4 0) 41 11 0) 41 12 0) 41 14 0) m12.J)) rfl rfl rfl ?_
    refine sh_pI1 (x := 1) (pc2 := 42) rfl rfl (sh_s41 hT.st) rfl rfl rfl rfl ?_
    refine sh_w (i := (.aload_n 0)) (len := 1) (pc2 := 43) (lv2 := [(0, .ref 42)]) (st2 := [.ref 42]) (h2 := (sh_rep m12.T (sh_u2 (sh_u2 (sh_u2 (sh_u2 (sh_u2 m12.I 48 4 0) 41 11 0) 41 12 0) 41 14 0) 41 15 1) m12.J)) rfl rfl rfl ?_
    refine sh_w (i := (.iconst 0)) (len := 1) (pc2 := 44) (lv2 := [(0, .ref 42)]) (st2 := [.int 0, .ref 42]) (h2 := (sh_rep m12.T (sh_u2 (sh_u2 (sh_u2 (sh_u2 (sh_u2 m12.I 48 4 0) 41 11 0) 41 12 0) 41 14 0) 41 15 1) m12.J)) rfl rfl rfl ?_
    refine sh_pI1 (x := 0) (pc2 := 47) rfl rfl (sh_s41 hT.st) rfl rfl rfl rfl ?_
    refine sh_w (i := (.aload_n 0)) (len := 1) (pc2 := 48) (lv2 := [(0, .ref 42)]) (st2 := [.ref 42]) (h2 := (sh_rep m12.T (sh_u2 (sh_u2 (sh_u2 (sh_u2 (sh_u2 (sh_u2 m12.I 48 4 0) 41 11 0) 41 12 0) 41 14 0) 41 15 1) 41 16 0) m12.J)) rfl rfl rfl ?_
    refine sh_w (i := (.iconst 0)) (len := 1) (pc2 := 49) (lv2 := [(0, .ref 42)]) (st2 := [.int 0, .ref 42]) (h2 := (sh_rep m12.T (sh_u2 (sh_u2 (sh_u2 (sh_u2 (sh_u2 (sh_u2 m12.I 48 4 0) 41 11 0) 41 12 0) 41 14 0) 41 15 1) 41 16 0) m12.J)) rfl rfl rfl ?_
    refine sh_pI1 (x := 0) (pc2 := 52) rfl rfl (sh_s41 hT.st) rfl rfl rfl rfl ?_
    refine sh_w (i := (.aload_n 0)) (len := 1) (pc2 := 53) (lv2 := [(0, .ref 42)]) (st2 := [.ref 42]) (h2 := (sh_rep m12.T (sh_u2 (sh_u2 (sh_u2 (sh_u2 (sh_u2 (sh_u2 (sh_u2 m12.I 48 4 0) 41 11 0) 41 12 0) 41 14 0) 41 15 1) 41 16 0) 41 17 0) m12.J)) rfl rfl rfl ?_
    refine sh_w (i := (.aload_n 0)) (len := 1) (pc2 := 54) (lv2 := [(0, .ref 42)]) (st2 := [.ref 42, .ref 42]) (h2 := (sh_rep m12.T (sh_u2 (sh_u2 (sh_u2 (sh_u2 (sh_u2 (sh_u2 (sh_u2 m12.I 48 4 0) 41 11 0) 41 12 0) 41 14 0) 41 15 1) 41 16 0) 41 17 0) m12.J)) rfl rfl rfl ?_
    refine sh_gR1 (len := 3) (x := .ref 29) (pc2 := 57) rfl rfl (sh_s41 hT.st) rfl rfl ?_
    refine sh_gI1 (len := 3) (x := m12.I 28 12) (pc2 := 60) rfl rfl (sh_s28 hT.st) rfl rfl rfl ?_
    refine sh_pI1 (x := m12.I 28 12) (pc2 := 63) rfl rfl (sh_s41 hT.st) rfl rfl rfl rfl ?_
    refine sh_w (i := (.aload_n 0)) (len := 1) (pc2 := 64) (lv2 := [(0, .ref 42)]) (st2 := [.ref 42]) (h2 := (sh_rep m12.T (sh_u2 (sh_u2 (sh_u2 (sh_u2 (sh_u2 (sh_u2 (sh_u2 (sh_u2 m12.I 48 4 0) 41 11 0) 41 12 0) 41 14 0) 41 15 1) 41 16 0) 41 17 0) 41 18 (m12.I 28 12)) m12.J)) rfl rfl rfl ?_
    refine sh_w (i := (.aload_n 0)) (len := 1) (pc2 := 65) (lv2 := [(0, .ref 42)]) (st2 := [.ref 42, .ref 42]) (h2 := (sh_rep m12.T (sh_u2 (sh_u2 (sh_u2 (sh_u2 (sh_u2 (sh_u2 (sh_u2 (sh_u2 m12.I 48 4 0) 41 11 0) 41 12 0) 41 14 0) 41 15 1) 41 16 0) 41 17 0) 41 18 (m12.I 28 12)) m12.J)) rfl rfl rfl ?_
    refine sh_gR1 (len := 3) (x := .ref 29) (pc2 := 68) rfl rfl (sh_s41 hT.st) rfl rfl ?_
    refine sh_gI1 (len := 3) (x := m12.I 28 11) (pc2 := 71) rfl rfl (sh_s28 hT.st) rfl rfl rfl ?_
    refine sh_pI1 (x := m12.I 28 11) (pc2 := 74) rfl rfl (sh_s41 hT.st) rfl rfl rfl rfl ?_
    exact kk
  obtain rfl := Option.some.inj e
  obtain ⟨rfl, rfl⟩ := tg
  exact sh_Lk_ret (i := .return_) rfl rfl rfl (Nat.le_of_ble_eq_true rfl) (Nat.le_of_ble_eq_true rfl)
theorem sl_83 {x1 : Int32} {m m2 : sh_X} {o : Outcome} {z : Int32} (e : sf_83 x1 m = some z) (tg : (sh_tIc m o m2) z) : sh_Lk 83 0 [(0, .ref 3), (1, .int x1)] [] m o m2 9 221 := by
  unfold sf_83 at e
  refine sh_Lk_lift (T := m.T) (I := m.I) (J := m.J) (s := m.s) (pc2 := 2) (lv2 := [(0, .ref 3), (1, .int x1)]) (st2 := [.int x1, .ref 3]) (I2 := m.I) (J2 := m.J) (fun hT v kk => ?_) ?_
  · refine sh_w (i := (.aload_n 0)) (len := 1) (pc2 := 1) (lv2 := [(0, .ref 3), (1, .int x1)]) (st2 := [.ref 3]) (h2 := (sh_rep m.T m.I m.J)) rfl rfl rfl ?_
    refine sh_w (i := (.iload_n 1)) (len := 1) (pc2 := 2) (lv2 := [(0, .ref 3), (1, .int x1)]) (st2 := [.int x1, .ref 3]) (h2 := (sh_rep m.T m.I m.J)) rfl rfl rfl ?_
    exact kk
  obtain ⟨r1, e1, e⟩ := sh_bc_e e
  refine sh_Lk_cV (r := (some (.long r1))) (st2 := [.long r1]) (pc2 := 5) (k2 := 66) (a := 2) (as := [.ref 3, .int x1]) (rest := []) rfl rfl rfl (fun hT => hT.t2) rfl rfl ⟨Nat.le_of_ble_eq_true rfl, Nat.le_of_ble_eq_true rfl⟩ (sl_66 e1 ⟨rfl, rfl⟩) rfl rfl (Nat.le_of_ble_eq_true rfl) (Nat.le_of_ble_eq_true rfl) ?_
  refine sh_Lk_lift (T := m.T) (I := m.I) (J := m.J) (s := m.s) (pc2 := 6) (lv2 := [(0, .ref 3), (1, .int x1)]) (st2 := [.int (Int64.toInt32 r1)]) (I2 := m.I) (J2 := m.J) (fun hT v kk => ?_) ?_
  · refine sh_w (i := .l2i) (len := 1) (pc2 := 6) (lv2 := [(0, .ref 3), (1, .int x1)]) (st2 := [.int (Int64.toInt32 r1)]) (h2 := (sh_rep m.T m.I m.J)) rfl rfl rfl ?_
    exact kk
  obtain rfl := Option.some.inj e
  obtain ⟨rfl, rfl⟩ := tg
  exact sh_Lk_ret (i := .ireturn) rfl rfl rfl (Nat.le_of_ble_eq_true rfl) (Nat.le_of_ble_eq_true rfl)
theorem sl_84_2s {x1 : Int32} {x2 : Int32} {x3 : Int32} {m m2 : sh_X} {o : Outcome} {z : (Int32 ⊕ Int32)} (e : sf_84_2s x1 x2 x3 m = some z) (tg : (sh_el (fun q => sh_Lk 84 2 [(0, .ref 42), (1, .int x1), (2, .int x2), (3, .int q)] [] m o m2 10 242) (sh_tIc m o m2)) z) : sh_Lk 84 2 [(0, .ref 42), (1, .int x1), (2, .int x2), (3, .int x3)] [] m o m2 10 242 := by
  unfold sf_84_2s at e
  refine sh_Lk_lift (T := m.T) (I := m.I) (J := m.J) (s := m.s) (pc2 := 4) (lv2 := [(0, .ref 42), (1, .int x1), (2, .int x2), (3, .int x3)]) (st2 := [.int x2, .int x3]) (I2 := m.I) (J2 := m.J) (fun hT v kk => ?_) ?_
  · refine sh_w (i := (.iload_n 3)) (len := 1) (pc2 := 3) (lv2 := [(0, .ref 42), (1, .int x1), (2, .int x2), (3, .int x3)]) (st2 := [.int x3]) (h2 := (sh_rep m.T m.I m.J)) rfl rfl rfl ?_
    refine sh_w (i := (.iload_n 2)) (len := 1) (pc2 := 4) (lv2 := [(0, .ref 42), (1, .int x1), (2, .int x2), (3, .int x3)]) (st2 := [.int x2, .int x3]) (h2 := (sh_rep m.T m.I m.J)) rfl rfl rfl ?_
    exact kk
  rcases sh_ite e with ⟨c, e⟩ | ⟨c, e⟩
  · refine sh_Lk_lift (T := m.T) (I := m.I) (J := m.J) (s := m.s) (pc2 := 11) (lv2 := [(0, .ref 42), (1, .int x1), (2, .int x2), (3, .int x3)]) (st2 := [.int 256, .int x3]) (I2 := m.I) (J2 := m.J) (fun hT v kk => ?_) ?_
    · refine sh_jc (c := .ge) (off := (38)) (pc2 := 7) false rfl (sh_Bgef c) rfl ?_
      refine sh_w (i := (.iload_n 3)) (len := 1) (pc2 := 8) (lv2 := [(0, .ref 42), (1, .int x1), (2, .int x2), (3, .int x3)]) (st2 := [.int x3]) (h2 := (sh_rep m.T m.I m.J)) rfl rfl rfl ?_
      refine sh_w (i := (.sipush 256)) (len := 3) (pc2 := 11) (lv2 := [(0, .ref 42), (1, .int x1), (2, .int x2), (3, .int x3)]) (st2 := [.int 256, .int x3]) (h2 := (sh_rep m.T m.I m.J)) rfl rfl rfl ?_
      exact kk
    rcases sh_ite e with ⟨c, e⟩ | ⟨c, e⟩
    · refine sh_Lk_lift (T := m.T) (I := m.I) (J := m.J) (s := m.s) (pc2 := 26) (lv2 := [(0, .ref 42), (1, .int x1), (2, .int x2), (3, .int x3)]) (st2 := [.int x3, .ref 30, .ref 3]) (I2 := m.I) (J2 := m.J) (fun hT v kk => ?_) ?_
      · refine sh_jc (c := .ge) (off := (31)) (pc2 := 14) false rfl (sh_Bgef c) rfl ?_
        refine sh_w (i := (.aload_n 0)) (len := 1) (pc2 := 15) (lv2 := [(0, .ref 42), (1, .int x1), (2, .int x2), (3, .int x3)]) (st2 := [.ref 42]) (h2 := (sh_rep m.T m.I m.J)) rfl rfl rfl ?_
        refine sh_gR1 (len := 3) (x := .ref 3) (pc2 := 18) rfl rfl (sh_s41 hT.st) rfl rfl ?_
        refine sh_w (i := (.aload_n 0)) (len := 1) (pc2 := 19) (lv2 := [(0, .ref 42), (1, .int x1), (2, .int x2), (3, .int x3)]) (st2 := [.ref 42, .ref 3]) (h2 := (sh_rep m.T m.I m.J)) rfl rfl rfl ?_
        refine sh_gR1 (len := 3) (x := .ref 29) (pc2 := 22) rfl rfl (sh_s41 hT.st) rfl rfl ?_
        refine sh_gR1 (len := 3) (x := .ref 30) (pc2 := 25) rfl rfl (sh_s28 hT.st) rfl rfl ?_
        refine sh_w (i := (.iload_n 3)) (len := 1) (pc2 := 26) (lv2 := [(0, .ref 42), (1, .int x1), (2, .int x2), (3, .int x3)]) (st2 := [.int x3, .ref 30, .ref 3]) (h2 := (sh_rep m.T m.I m.J)) rfl rfl rfl ?_
        exact kk
      obtain ⟨c, e⟩ := sh_gd e
      refine sh_Lk_lift (T := m.T) (I := m.I) (J := m.J) (s := m.s) (pc2 := 27) (lv2 := [(0, .ref 42), (1, .int x1), (2, .int x2), (3, .int x3)]) (st2 := [.int (m.I 29 (Int32.toNatClampNeg x3)), .ref 3]) (I2 := m.I) (J2 := m.J) (fun hT v kk => ?_) ?_
      · refine sh_ia1 (x := m.I 29 (Int32.toNatClampNeg x3)) (pc2 := 27) rfl (sh_s29 hT.st) (sh_okb1 c) (sh_okb2 c) rfl rfl ?_
        exact kk
      obtain ⟨r1, e1, e⟩ := sh_bc_e e
      refine sh_Lk_cV (r := (some (.int r1))) (st2 := [.int r1]) (pc2 := 30) (k2 := 83) (a := 2) (as := [.ref 3, .int (m.I 29 (Int32.toNatClampNeg x3))]) (rest := []) rfl rfl rfl (fun hT => hT.t2) rfl rfl ⟨Nat.le_of_ble_eq_true rfl, Nat.le_of_ble_eq_true rfl⟩ (sl_83 e1 ⟨rfl, rfl⟩) rfl rfl (Nat.le_of_ble_eq_true rfl) (Nat.le_of_ble_eq_true rfl) ?_
      refine sh_Lk_lift (T := m.T) (I := m.I) (J := m.J) (s := m.s) (pc2 := 31) (lv2 := [(0, .ref 42), (1, .int x1), (2, .int x2), (3, .int x3)]) (st2 := [.int x1, .int r1]) (I2 := m.I) (J2 := m.J) (fun hT v kk => ?_) ?_
      · refine sh_w (i := (.iload_n 1)) (len := 1) (pc2 := 31) (lv2 := [(0, .ref 42), (1, .int x1), (2, .int x2), (3, .int x3)]) (st2 := [.int x1, .int r1]) (h2 := (sh_rep m.T m.I m.J)) rfl rfl rfl ?_
        exact kk
      rcases sh_ite e with ⟨c, e⟩ | ⟨c, e⟩
      · refine sh_Lk_lift (T := m.T) (I := m.I) (J := m.J) (s := m.s) (pc2 := 35) (lv2 := [(0, .ref 42), (1, .int x1), (2, .int x2), (3, .int x3)]) (st2 := [.int x3]) (I2 := m.I) (J2 := m.J) (fun hT v kk => ?_) ?_
        · refine sh_jc (c := .ne) (off := (5)) (pc2 := 34) false rfl (sh_Bnef c) rfl ?_
          refine sh_w (i := (.iload_n 3)) (len := 1) (pc2 := 35) (lv2 := [(0, .ref 42), (1, .int x1), (2, .int x2), (3, .int x3)]) (st2 := [.int x3]) (h2 := (sh_rep m.T m.I m.J)) rfl rfl rfl ?_
          exact kk
        obtain rfl := Option.some.inj e
        obtain ⟨rfl, rfl⟩ := tg
        exact sh_Lk_ret (i := .ireturn) rfl rfl rfl (Nat.le_of_ble_eq_true rfl) (Nat.le_of_ble_eq_true rfl)
      · refine sh_Lk_lift (T := m.T) (I := m.I) (J := m.J) (s := m.s) (pc2 := 2) (lv2 := [(3, .int (x3 + 1)), (0, .ref 42), (1, .int x1), (2, .int x2)]) (st2 := []) (I2 := m.I) (J2 := m.J) (fun hT v kk => ?_) ?_
        · refine sh_jc (c := .ne) (off := (5)) (pc2 := 36) true rfl (sh_Bnet c) rfl ?_
          refine sh_w (i := (.iinc 3 1)) (len := 3) (pc2 := 39) (lv2 := [(3, .int (x3 + 1)), (0, .ref 42), (1, .int x1), (2, .int x2)]) (st2 := []) (h2 := (sh_rep m.T m.I m.J)) rfl rfl rfl ?_
          refine sh_w (i := (.goto (-37))) (len := 3) (pc2 := 2) (lv2 := [(3, .int (x3 + 1)), (0, .ref 42), (1, .int x1), (2, .int x2)]) (st2 := []) (h2 := (sh_rep m.T m.I m.J)) rfl rfl rfl ?_
          exact kk
        obtain rfl := Option.some.inj e
        exact sh_Lk_sub (sh_sub_c rfl (sh_sub_c rfl (sh_sub_c rfl (sh_sub_c rfl (sh_sub_n))))) tg
    · refine sh_Lk_lift (T := m.T) (I := m.I) (J := m.J) (s := m.s) (pc2 := 43) (lv2 := [(0, .ref 42), (1, .int x1), (2, .int x2), (3, .int x3)]) (st2 := [.int (-1)]) (I2 := m.I) (J2 := m.J) (fun hT v kk => ?_) ?_
      · refine sh_jc (c := .ge) (off := (31)) (pc2 := 42) true rfl (sh_Bget c) rfl ?_
        refine sh_w (i := (.iconst (-1))) (len := 1) (pc2 := 43) (lv2 := [(0, .ref 42), (1, .int x1), (2, .int x2), (3, .int x3)]) (st2 := [.int (-1)]) (h2 := (sh_rep m.T m.I m.J)) rfl rfl rfl ?_
        exact kk
      obtain rfl := Option.some.inj e
      obtain ⟨rfl, rfl⟩ := tg
      exact sh_Lk_ret (i := .ireturn) rfl rfl rfl (Nat.le_of_ble_eq_true rfl) (Nat.le_of_ble_eq_true rfl)
  · refine sh_Lk_lift (T := m.T) (I := m.I) (J := m.J) (s := m.s) (pc2 := 43) (lv2 := [(0, .ref 42), (1, .int x1), (2, .int x2), (3, .int x3)]) (st2 := [.int (-1)]) (I2 := m.I) (J2 := m.J) (fun hT v kk => ?_) ?_
    · refine sh_jc (c := .ge) (off := (38)) (pc2 := 42) true rfl (sh_Bget c) rfl ?_
      refine sh_w (i := (.iconst (-1))) (len := 1) (pc2 := 43) (lv2 := [(0, .ref 42), (1, .int x1), (2, .int x2), (3, .int x3)]) (st2 := [.int (-1)]) (h2 := (sh_rep m.T m.I m.J)) rfl rfl rfl ?_
      exact kk
    obtain rfl := Option.some.inj e
    obtain ⟨rfl, rfl⟩ := tg
    exact sh_Lk_ret (i := .ireturn) rfl rfl rfl (Nat.le_of_ble_eq_true rfl) (Nat.le_of_ble_eq_true rfl)
theorem sl_84_2 {x1 : Int32} {x2 : Int32} {x3 : Int32} {m m2 : sh_X} {o : Outcome} {z : Int32} (e : sf_84_2 x1 x2 x3 m = some z) (tg : (sh_tIc m o m2) z) : sh_Lk 84 2 [(0, .ref 42), (1, .int x1), (2, .int x2), (3, .int x3)] [] m o m2 10 242 := by
  unfold sf_84_2 at e
  exact sh_while_lk (P := fun q => sh_Lk 84 2 [(0, .ref 42), (1, .int x1), (2, .int x2), (3, .int q)] [] m o m2 10 242) (Q := (sh_tIc m o m2)) (fun q z e tg => sl_84_2s (x1 := x1) (x2 := x2) (x3 := q) (m := m) e tg) (s := x3) e tg
theorem sl_84 {x1 : Int32} {x2 : Int32} {m m2 : sh_X} {o : Outcome} {z : Int32} (e : sf_84 x1 x2 m = some z) (tg : (sh_tIc m o m2) z) : sh_Lk 84 0 [(0, .ref 42), (1, .int x1), (2, .int x2)] [] m o m2 10 242 := by
  unfold sf_84 at e
  refine sh_Lk_lift (T := m.T) (I := m.I) (J := m.J) (s := m.s) (pc2 := 2) (lv2 := [(3, .int 0), (0, .ref 42), (1, .int x1), (2, .int x2)]) (st2 := []) (I2 := m.I) (J2 := m.J) (fun hT v kk => ?_) ?_
  · refine sh_w (i := (.iconst 0)) (len := 1) (pc2 := 1) (lv2 := [(0, .ref 42), (1, .int x1), (2, .int x2)]) (st2 := [.int 0]) (h2 := (sh_rep m.T m.I m.J)) rfl rfl rfl ?_
    refine sh_w (i := (.istore_n 3)) (len := 1) (pc2 := 2) (lv2 := [(3, .int 0), (0, .ref 42), (1, .int x1), (2, .int x2)]) (st2 := []) (h2 := (sh_rep m.T m.I m.J)) rfl rfl rfl ?_
    exact kk
  exact sh_Lk_sub (sh_sub_c rfl (sh_sub_c rfl (sh_sub_c rfl (sh_sub_c rfl (sh_sub_n))))) (sl_84_2 e tg)
theorem sl_86_63 {x2 : Int32} {x3 : Int64} {m m2 : sh_X} {o : Outcome} {z : (Option Int32 × sh_X)} (e : sf_86_63 x2 x3 m = some z) (tg : (sh_tIt o m2) z) : sh_Lk 86 63 [(2, .int x2), (3, .long x3)] [] m o m2 9 222 := by
  unfold sf_86_63 at e
  refine sh_Lk_lift (T := m.T) (I := m.I) (J := m.J) (s := m.s) (pc2 := 71) (lv2 := [(2, .int x2), (3, .long x3)]) (st2 := [.int (x2 + (512 * (Int64.toInt32 x3)))]) (I2 := m.I) (J2 := m.J) (fun hT v kk => ?_) ?_
  · refine sh_w (i := (.iload_n 2)) (len := 1) (pc2 := 64) (lv2 := [(2, .int x2), (3, .long x3)]) (st2 := [.int x2]) (h2 := (sh_rep m.T m.I m.J)) rfl rfl rfl ?_
    refine sh_w (i := (.sipush 512)) (len := 3) (pc2 := 67) (lv2 := [(2, .int x2), (3, .long x3)]) (st2 := [.int 512, .int x2]) (h2 := (sh_rep m.T m.I m.J)) rfl rfl rfl ?_
    refine sh_w (i := (.lload_n 3)) (len := 1) (pc2 := 68) (lv2 := [(2, .int x2), (3, .long x3)]) (st2 := [.long x3, .int 512, .int x2]) (h2 := (sh_rep m.T m.I m.J)) rfl rfl rfl ?_
    refine sh_w (i := .l2i) (len := 1) (pc2 := 69) (lv2 := [(2, .int x2), (3, .long x3)]) (st2 := [.int (Int64.toInt32 x3), .int 512, .int x2]) (h2 := (sh_rep m.T m.I m.J)) rfl rfl rfl ?_
    refine sh_w (i := .imul) (len := 1) (pc2 := 70) (lv2 := [(2, .int x2), (3, .long x3)]) (st2 := [.int (512 * (Int64.toInt32 x3)), .int x2]) (h2 := (sh_rep m.T m.I m.J)) rfl rfl rfl ?_
    refine sh_w (i := .iadd) (len := 1) (pc2 := 71) (lv2 := [(2, .int x2), (3, .long x3)]) (st2 := [.int (x2 + (512 * (Int64.toInt32 x3)))]) (h2 := (sh_rep m.T m.I m.J)) rfl rfl rfl ?_
    exact kk
  obtain rfl := Option.some.inj e
  obtain ⟨rfl, rfl⟩ := tg
  exact sh_Lk_ret (i := .ireturn) rfl rfl rfl (Nat.le_of_ble_eq_true rfl) (Nat.le_of_ble_eq_true rfl)
theorem sl_86_52 {x1 : Int32} {x2 : Int32} {x3 : Int64} {m m2 : sh_X} {o : Outcome} {z : (Option Int32 × sh_X)} (e : sf_86_52 x1 x2 x3 m = some z) (tg : (sh_tIt o m2) z) : sh_Lk 86 52 [(0, .ref 42), (1, .int x1), (2, .int x2), (3, .long x3)] [] m o m2 9 222 := by
  unfold sf_86_52 at e
  refine sh_Lk_lift (T := m.T) (I := m.I) (J := m.J) (s := m.s) (pc2 := 60) (lv2 := [(0, .ref 42), (1, .int x1), (2, .int x2), (3, .long x3)]) (st2 := [.int (x1 + 2), .int 4, .ref 3]) (I2 := m.I) (J2 := m.J) (fun hT v kk => ?_) ?_
  · refine sh_w (i := (.aload_n 0)) (len := 1) (pc2 := 53) (lv2 := [(0, .ref 42), (1, .int x1), (2, .int x2), (3, .long x3)]) (st2 := [.ref 42]) (h2 := (sh_rep m.T m.I m.J)) rfl rfl rfl ?_
    refine sh_gR1 (len := 3) (x := .ref 3) (pc2 := 56) rfl rfl (sh_s41 hT.st) rfl rfl ?_
    refine sh_w (i := (.iconst 4)) (len := 1) (pc2 := 57) (lv2 := [(0, .ref 42), (1, .int x1), (2, .int x2), (3, .long x3)]) (st2 := [.int 4, .ref 3]) (h2 := (sh_rep m.T m.I m.J)) rfl rfl rfl ?_
    refine sh_w (i := (.iload_n 1)) (len := 1) (pc2 := 58) (lv2 := [(0, .ref 42), (1, .int x1), (2, .int x2), (3, .long x3)]) (st2 := [.int x1, .int 4, .ref 3]) (h2 := (sh_rep m.T m.I m.J)) rfl rfl rfl ?_
    refine sh_w (i := (.iconst 2)) (len := 1) (pc2 := 59) (lv2 := [(0, .ref 42), (1, .int x1), (2, .int x2), (3, .long x3)]) (st2 := [.int 2, .int x1, .int 4, .ref 3]) (h2 := (sh_rep m.T m.I m.J)) rfl rfl rfl ?_
    refine sh_w (i := .iadd) (len := 1) (pc2 := 60) (lv2 := [(0, .ref 42), (1, .int x1), (2, .int x2), (3, .long x3)]) (st2 := [.int (x1 + 2), .int 4, .ref 3]) (h2 := (sh_rep m.T m.I m.J)) rfl rfl rfl ?_
    exact kk
  rcases sh_bt_e e with ⟨m11, e1, rfl⟩ | ⟨r1, m11, e1, e⟩
  · obtain ⟨rfl, rfl⟩ := tg
    exact sh_Lk_tV (k2 := 50) (a := 2) (as := [.ref 3, .int 4, .int (x1 + 2)]) (rest := []) rfl rfl rfl (fun hT => hT.t2) rfl rfl ⟨Nat.le_of_ble_eq_true rfl, Nat.le_of_ble_eq_true rfl⟩ (sl_50 e1 ⟨rfl, rfl⟩) rfl (Nat.le_of_ble_eq_true rfl) (Nat.le_of_ble_eq_true rfl) (Nat.le_of_ble_eq_true rfl) (Nat.le_of_ble_eq_true rfl) rfl
  refine sh_Lk_cV (r := none) (st2 := []) (pc2 := 63) (k2 := 50) (a := 2) (as := [.ref 3, .int 4, .int (x1 + 2)]) (rest := []) rfl rfl rfl (fun hT => hT.t2) rfl rfl ⟨Nat.le_of_ble_eq_true rfl, Nat.le_of_ble_eq_true rfl⟩ (sl_50 e1 ⟨rfl, rfl⟩) rfl rfl (Nat.le_of_ble_eq_true rfl) (Nat.le_of_ble_eq_true rfl) ?_
  exact sh_Lk_sub (sh_sub_c rfl (sh_sub_c rfl (sh_sub_n))) (sl_86_63 e tg)
theorem sl_86 {x1 : Int32} {m m2 : sh_X} {o : Outcome} {z : (Option Int32 × sh_X)} (e : sf_86 x1 m = some z) (tg : (sh_tIt o m2) z) : sh_Lk 86 0 [(0, .ref 42), (1, .int x1)] [] m o m2 9 222 := by
  unfold sf_86 at e
  refine sh_Lk_lift (T := m.T) (I := m.I) (J := m.J) (s := m.s) (pc2 := 5) (lv2 := [(0, .ref 42), (1, .int x1)]) (st2 := [.int x1, .ref 3]) (I2 := m.I) (J2 := m.J) (fun hT v kk => ?_) ?_
  · refine sh_w (i := (.aload_n 0)) (len := 1) (pc2 := 1) (lv2 := [(0, .ref 42), (1, .int x1)]) (st2 := [.ref 42]) (h2 := (sh_rep m.T m.I m.J)) rfl rfl rfl ?_
    refine sh_gR1 (len := 3) (x := .ref 3) (pc2 := 4) rfl rfl (sh_s41 hT.st) rfl rfl ?_
    refine sh_w (i := (.iload_n 1)) (len := 1) (pc2 := 5) (lv2 := [(0, .ref 42), (1, .int x1)]) (st2 := [.int x1, .ref 3]) (h2 := (sh_rep m.T m.I m.J)) rfl rfl rfl ?_
    exact kk
  obtain ⟨r1, e1, e⟩ := sh_bc_e e
  refine sh_Lk_cV (r := (some (.long r1))) (st2 := [.long r1]) (pc2 := 8) (k2 := 66) (a := 2) (as := [.ref 3, .int x1]) (rest := []) rfl rfl rfl (fun hT => hT.t2) rfl rfl ⟨Nat.le_of_ble_eq_true rfl, Nat.le_of_ble_eq_true rfl⟩ (sl_66 e1 ⟨rfl, rfl⟩) rfl rfl (Nat.le_of_ble_eq_true rfl) (Nat.le_of_ble_eq_true rfl) ?_
  refine sh_Lk_lift (T := m.T) (I := m.I) (J := m.J) (s := m.s) (pc2 := 17) (lv2 := [(2, .int (Int64.toInt32 r1)), (0, .ref 42), (1, .int x1)]) (st2 := [.int (x1 + 1), .ref 3]) (I2 := m.I) (J2 := m.J) (fun hT v kk => ?_) ?_
  · refine sh_w (i := .l2i) (len := 1) (pc2 := 9) (lv2 := [(0, .ref 42), (1, .int x1)]) (st2 := [.int (Int64.toInt32 r1)]) (h2 := (sh_rep m.T m.I m.J)) rfl rfl rfl ?_
    refine sh_w (i := (.istore_n 2)) (len := 1) (pc2 := 10) (lv2 := [(2, .int (Int64.toInt32 r1)), (0, .ref 42), (1, .int x1)]) (st2 := []) (h2 := (sh_rep m.T m.I m.J)) rfl rfl rfl ?_
    refine sh_w (i := (.aload_n 0)) (len := 1) (pc2 := 11) (lv2 := [(2, .int (Int64.toInt32 r1)), (0, .ref 42), (1, .int x1)]) (st2 := [.ref 42]) (h2 := (sh_rep m.T m.I m.J)) rfl rfl rfl ?_
    refine sh_gR1 (len := 3) (x := .ref 3) (pc2 := 14) rfl rfl (sh_s41 hT.st) rfl rfl ?_
    refine sh_w (i := (.iload_n 1)) (len := 1) (pc2 := 15) (lv2 := [(2, .int (Int64.toInt32 r1)), (0, .ref 42), (1, .int x1)]) (st2 := [.int x1, .ref 3]) (h2 := (sh_rep m.T m.I m.J)) rfl rfl rfl ?_
    refine sh_w (i := (.iconst 1)) (len := 1) (pc2 := 16) (lv2 := [(2, .int (Int64.toInt32 r1)), (0, .ref 42), (1, .int x1)]) (st2 := [.int 1, .int x1, .ref 3]) (h2 := (sh_rep m.T m.I m.J)) rfl rfl rfl ?_
    refine sh_w (i := .iadd) (len := 1) (pc2 := 17) (lv2 := [(2, .int (Int64.toInt32 r1)), (0, .ref 42), (1, .int x1)]) (st2 := [.int (x1 + 1), .ref 3]) (h2 := (sh_rep m.T m.I m.J)) rfl rfl rfl ?_
    exact kk
  obtain ⟨r2, e2, e⟩ := sh_bc_e e
  refine sh_Lk_cV (r := (some (.int r2))) (st2 := [.int r2]) (pc2 := 20) (k2 := 46) (a := 2) (as := [.ref 3, .int (x1 + 1)]) (rest := []) rfl rfl rfl (fun hT => hT.t2) rfl rfl ⟨Nat.le_of_ble_eq_true rfl, Nat.le_of_ble_eq_true rfl⟩ (sl_46 e2 ⟨rfl, rfl⟩) rfl rfl (Nat.le_of_ble_eq_true rfl) (Nat.le_of_ble_eq_true rfl) ?_
  refine sh_Lk_lift (T := m.T) (I := m.I) (J := m.J) (s := m.s) (pc2 := 22) (lv2 := [(2, .int (Int64.toInt32 r1)), (0, .ref 42), (1, .int x1)]) (st2 := [.int 91, .int r2]) (I2 := m.I) (J2 := m.J) (fun hT v kk => ?_) ?_
  · refine sh_w (i := (.bipush 91)) (len := 2) (pc2 := 22) (lv2 := [(2, .int (Int64.toInt32 r1)), (0, .ref 42), (1, .int x1)]) (st2 := [.int 91, .int r2]) (h2 := (sh_rep m.T m.I m.J)) rfl rfl rfl ?_
    exact kk
  rcases sh_ite e with ⟨c, e⟩ | ⟨c, e⟩
  · refine sh_Lk_lift (T := m.T) (I := m.I) (J := m.J) (s := m.s) (pc2 := 34) (lv2 := [(2, .int (Int64.toInt32 r1)), (0, .ref 42), (1, .int x1)]) (st2 := [.int (x1 + 2), .ref 3]) (I2 := m.I) (J2 := m.J) (fun hT v kk => ?_) ?_
    · refine sh_jc (c := .eq) (off := (5)) (pc2 := 27) true rfl (sh_Beqt c) rfl ?_
      refine sh_w (i := (.aload_n 0)) (len := 1) (pc2 := 28) (lv2 := [(2, .int (Int64.toInt32 r1)), (0, .ref 42), (1, .int x1)]) (st2 := [.ref 42]) (h2 := (sh_rep m.T m.I m.J)) rfl rfl rfl ?_
      refine sh_gR1 (len := 3) (x := .ref 3) (pc2 := 31) rfl rfl (sh_s41 hT.st) rfl rfl ?_
      refine sh_w (i := (.iload_n 1)) (len := 1) (pc2 := 32) (lv2 := [(2, .int (Int64.toInt32 r1)), (0, .ref 42), (1, .int x1)]) (st2 := [.int x1, .ref 3]) (h2 := (sh_rep m.T m.I m.J)) rfl rfl rfl ?_
      refine sh_w (i := (.iconst 2)) (len := 1) (pc2 := 33) (lv2 := [(2, .int (Int64.toInt32 r1)), (0, .ref 42), (1, .int x1)]) (st2 := [.int 2, .int x1, .ref 3]) (h2 := (sh_rep m.T m.I m.J)) rfl rfl rfl ?_
      refine sh_w (i := .iadd) (len := 1) (pc2 := 34) (lv2 := [(2, .int (Int64.toInt32 r1)), (0, .ref 42), (1, .int x1)]) (st2 := [.int (x1 + 2), .ref 3]) (h2 := (sh_rep m.T m.I m.J)) rfl rfl rfl ?_
      exact kk
    obtain ⟨r3, e3, e⟩ := sh_bc_e e
    refine sh_Lk_cV (r := (some (.long r3))) (st2 := [.long r3]) (pc2 := 37) (k2 := 66) (a := 2) (as := [.ref 3, .int (x1 + 2)]) (rest := []) rfl rfl rfl (fun hT => hT.t2) rfl rfl ⟨Nat.le_of_ble_eq_true rfl, Nat.le_of_ble_eq_true rfl⟩ (sl_66 e3 ⟨rfl, rfl⟩) rfl rfl (Nat.le_of_ble_eq_true rfl) (Nat.le_of_ble_eq_true rfl) ?_
    refine sh_Lk_lift (T := m.T) (I := m.I) (J := m.J) (s := m.s) (pc2 := 41) (lv2 := [(3, .long r3), (2, .int (Int64.toInt32 r1)), (0, .ref 42), (1, .int x1)]) (st2 := [.int (lg_cmp r3 1)]) (I2 := m.I) (J2 := m.J) (fun hT v kk => ?_) ?_
    · refine sh_w (i := (.lstore_n 3)) (len := 1) (pc2 := 38) (lv2 := [(3, .long r3), (2, .int (Int64.toInt32 r1)), (0, .ref 42), (1, .int x1)]) (st2 := []) (h2 := (sh_rep m.T m.I m.J)) rfl rfl rfl ?_
      refine sh_w (i := (.lload_n 3)) (len := 1) (pc2 := 39) (lv2 := [(3, .long r3), (2, .int (Int64.toInt32 r1)), (0, .ref 42), (1, .int x1)]) (st2 := [.long r3]) (h2 := (sh_rep m.T m.I m.J)) rfl rfl rfl ?_
      refine sh_w (i := (.lconst 1)) (len := 1) (pc2 := 40) (lv2 := [(3, .long r3), (2, .int (Int64.toInt32 r1)), (0, .ref 42), (1, .int x1)]) (st2 := [.long 1, .long r3]) (h2 := (sh_rep m.T m.I m.J)) rfl rfl rfl ?_
      refine sh_w (i := .lcmp) (len := 1) (pc2 := 41) (lv2 := [(3, .long r3), (2, .int (Int64.toInt32 r1)), (0, .ref 42), (1, .int x1)]) (st2 := [.int (lg_cmp r3 1)]) (h2 := (sh_rep m.T m.I m.J)) rfl rfl rfl ?_
      exact kk
    rcases sh_ite e with ⟨c, e⟩ | ⟨c, e⟩
    · refine sh_Lk_lift (T := m.T) (I := m.I) (J := m.J) (s := m.s) (pc2 := 52) (lv2 := [(3, .long r3), (2, .int (Int64.toInt32 r1)), (0, .ref 42), (1, .int x1)]) (st2 := []) (I2 := m.I) (J2 := m.J) (fun hT v kk => ?_) ?_
      · refine sh_j0 (c := .lt) (off := (11)) (pc2 := 52) true rfl (sh_Cltt c) rfl ?_
        exact kk
      exact sh_Lk_sub (sh_sub_c rfl (sh_sub_c rfl (sh_sub_c rfl (sh_sub_c rfl (sh_sub_n))))) (sl_86_52 e tg)
    · refine sh_Lk_lift (T := m.T) (I := m.I) (J := m.J) (s := m.s) (pc2 := 49) (lv2 := [(3, .long r3), (2, .int (Int64.toInt32 r1)), (0, .ref 42), (1, .int x1)]) (st2 := [.int (lg_cmp r3 32)]) (I2 := m.I) (J2 := m.J) (fun hT v kk => ?_) ?_
      · refine sh_j0 (c := .lt) (off := (11)) (pc2 := 44) false rfl (sh_Cltf c) rfl ?_
        refine sh_w (i := (.lload_n 3)) (len := 1) (pc2 := 45) (lv2 := [(3, .long r3), (2, .int (Int64.toInt32 r1)), (0, .ref 42), (1, .int x1)]) (st2 := [.long r3]) (h2 := (sh_rep m.T m.I m.J)) rfl rfl rfl ?_
        refine sh_w (i := (.ldc2_w 232)) (len := 3) (pc2 := 48) (lv2 := [(3, .long r3), (2, .int (Int64.toInt32 r1)), (0, .ref 42), (1, .int x1)]) (st2 := [.long 32, .long r3]) (h2 := (sh_rep m.T m.I m.J)) rfl rfl rfl ?_
        refine sh_w (i := .lcmp) (len := 1) (pc2 := 49) (lv2 := [(3, .long r3), (2, .int (Int64.toInt32 r1)), (0, .ref 42), (1, .int x1)]) (st2 := [.int (lg_cmp r3 32)]) (h2 := (sh_rep m.T m.I m.J)) rfl rfl rfl ?_
        exact kk
      rcases sh_ite e with ⟨c, e⟩ | ⟨c, e⟩
      · refine sh_Lk_lift (T := m.T) (I := m.I) (J := m.J) (s := m.s) (pc2 := 52) (lv2 := [(3, .long r3), (2, .int (Int64.toInt32 r1)), (0, .ref 42), (1, .int x1)]) (st2 := []) (I2 := m.I) (J2 := m.J) (fun hT v kk => ?_) ?_
        · refine sh_j0 (c := .le) (off := (14)) (pc2 := 52) false rfl (sh_Clef c) rfl ?_
          exact kk
        exact sh_Lk_sub (sh_sub_c rfl (sh_sub_c rfl (sh_sub_c rfl (sh_sub_c rfl (sh_sub_n))))) (sl_86_52 e tg)
      · refine sh_Lk_lift (T := m.T) (I := m.I) (J := m.J) (s := m.s) (pc2 := 63) (lv2 := [(3, .long r3), (2, .int (Int64.toInt32 r1)), (0, .ref 42), (1, .int x1)]) (st2 := []) (I2 := m.I) (J2 := m.J) (fun hT v kk => ?_) ?_
        · refine sh_j0 (c := .le) (off := (14)) (pc2 := 63) true rfl (sh_Clet c) rfl ?_
          exact kk
        exact sh_Lk_sub (sh_sub_c rfl (sh_sub_c rfl (sh_sub_n))) (sl_86_63 e tg)
  · refine sh_Lk_lift (T := m.T) (I := m.I) (J := m.J) (s := m.s) (pc2 := 26) (lv2 := [(2, .int (Int64.toInt32 r1)), (0, .ref 42), (1, .int x1)]) (st2 := [.int (Int64.toInt32 r1)]) (I2 := m.I) (J2 := m.J) (fun hT v kk => ?_) ?_
    · refine sh_jc (c := .eq) (off := (5)) (pc2 := 25) false rfl (sh_Beqf c) rfl ?_
      refine sh_w (i := (.iload_n 2)) (len := 1) (pc2 := 26) (lv2 := [(2, .int (Int64.toInt32 r1)), (0, .ref 42), (1, .int x1)]) (st2 := [.int (Int64.toInt32 r1)]) (h2 := (sh_rep m.T m.I m.J)) rfl rfl rfl ?_
      exact kk
    obtain rfl := Option.some.inj e
    obtain ⟨rfl, rfl⟩ := tg
    exact sh_Lk_ret (i := .ireturn) rfl rfl rfl (Nat.le_of_ble_eq_true rfl) (Nat.le_of_ble_eq_true rfl)
theorem sl_85_80 {x1 : Int32} {x2 : Int32} {x3 : Int32} {x4 : Int32} {x5 : Int32} {m m2 : sh_X} {o : Outcome} {z : ((Int32 × sh_X) ⊕ ((Int32 × sh_X) ⊕ (Option Unit × sh_X)))} (e : sf_85_80 x1 x2 x3 x4 x5 m = some z) (tg : (sh_el (fun q => sh_Lk 85 35 [(0, .ref 42), (1, .int x1), (2, .int x2), (3, .int x3), (4, .int x4), (5, .int q.1)] [] q.2 o m2 10 246) (sh_el (fun q => sh_Lk 85 2 [(0, .ref 42), (1, .int x1), (2, .int x2), (3, .int q.1)] [] q.2 o m2 10 246) (sh_tVt o m2))) z) : sh_Lk 85 80 [(0, .ref 42), (1, .int x1), (2, .int x2), (3, .int x3), (4, .int x4), (5, .int x5)] [] m o m2 10 246 := by
  unfold sf_85_80 at e
  refine sh_Lk_lift (T := m.T) (I := m.I) (J := m.J) (s := m.s) (pc2 := 35) (lv2 := [(5, .int (x5 + 1)), (0, .ref 42), (1, .int x1), (2, .int x2), (3, .int x3), (4, .int x4)]) (st2 := []) (I2 := m.I) (J2 := m.J) (fun hT v kk => ?_) ?_
  · refine sh_w (i := (.iinc 5 1)) (len := 3) (pc2 := 83) (lv2 := [(5, .int (x5 + 1)), (0, .ref 42), (1, .int x1), (2, .int x2), (3, .int x3), (4, .int x4)]) (st2 := []) (h2 := (sh_rep m.T m.I m.J)) rfl rfl rfl ?_
    refine sh_w (i := (.goto (-48))) (len := 3) (pc2 := 35) (lv2 := [(5, .int (x5 + 1)), (0, .ref 42), (1, .int x1), (2, .int x2), (3, .int x3), (4, .int x4)]) (st2 := []) (h2 := (sh_rep m.T m.I m.J)) rfl rfl rfl ?_
    exact kk
  obtain rfl := Option.some.inj e
  exact sh_Lk_sub (sh_sub_c rfl (sh_sub_c rfl (sh_sub_c rfl (sh_sub_c rfl (sh_sub_c rfl (sh_sub_c rfl (sh_sub_n))))))) tg
theorem sl_85_35s {x1 : Int32} {x2 : Int32} {x3 : Int32} {x4 : Int32} {x5 : Int32} {m m2 : sh_X} {o : Outcome} {z : ((Int32 × sh_X) ⊕ ((Int32 × sh_X) ⊕ (Option Unit × sh_X)))} (e : sf_85_35s x1 x2 x3 x4 x5 m = some z) (tg : (sh_el (fun q => sh_Lk 85 35 [(0, .ref 42), (1, .int x1), (2, .int x2), (3, .int x3), (4, .int x4), (5, .int q.1)] [] q.2 o m2 10 246) (sh_el (fun q => sh_Lk 85 2 [(0, .ref 42), (1, .int x1), (2, .int x2), (3, .int q.1)] [] q.2 o m2 10 246) (sh_tVt o m2))) z) : sh_Lk 85 35 [(0, .ref 42), (1, .int x1), (2, .int x2), (3, .int x3), (4, .int x4), (5, .int x5)] [] m o m2 10 246 := by
  unfold sf_85_35s at e
  refine sh_Lk_lift (T := m.T) (I := m.I) (J := m.J) (s := m.s) (pc2 := 38) (lv2 := [(0, .ref 42), (1, .int x1), (2, .int x2), (3, .int x3), (4, .int x4), (5, .int x5)]) (st2 := [.int x3, .int x5]) (I2 := m.I) (J2 := m.J) (fun hT v kk => ?_) ?_
  · refine sh_w (i := (.iload 5)) (len := 2) (pc2 := 37) (lv2 := [(0, .ref 42), (1, .int x1), (2, .int x2), (3, .int x3), (4, .int x4), (5, .int x5)]) (st2 := [.int x5]) (h2 := (sh_rep m.T m.I m.J)) rfl rfl rfl ?_
    refine sh_w (i := (.iload_n 3)) (len := 1) (pc2 := 38) (lv2 := [(0, .ref 42), (1, .int x1), (2, .int x2), (3, .int x3), (4, .int x4), (5, .int x5)]) (st2 := [.int x3, .int x5]) (h2 := (sh_rep m.T m.I m.J)) rfl rfl rfl ?_
    exact kk
  rcases sh_ite e with ⟨c, e⟩ | ⟨c, e⟩
  · refine sh_Lk_lift (T := m.T) (I := m.I) (J := m.J) (s := m.s) (pc2 := 54) (lv2 := [(0, .ref 42), (1, .int x1), (2, .int x2), (3, .int x3), (4, .int x4), (5, .int x5)]) (st2 := [.int x5, .ref 35, .ref 3]) (I2 := m.I) (J2 := m.J) (fun hT v kk => ?_) ?_
    · refine sh_jc (c := .ge) (off := (48)) (pc2 := 41) false rfl (sh_Bgef c) rfl ?_
      refine sh_w (i := (.aload_n 0)) (len := 1) (pc2 := 42) (lv2 := [(0, .ref 42), (1, .int x1), (2, .int x2), (3, .int x3), (4, .int x4), (5, .int x5)]) (st2 := [.ref 42]) (h2 := (sh_rep m.T m.I m.J)) rfl rfl rfl ?_
      refine sh_gR1 (len := 3) (x := .ref 3) (pc2 := 45) rfl rfl (sh_s41 hT.st) rfl rfl ?_
      refine sh_w (i := (.aload_n 0)) (len := 1) (pc2 := 46) (lv2 := [(0, .ref 42), (1, .int x1), (2, .int x2), (3, .int x3), (4, .int x4), (5, .int x5)]) (st2 := [.ref 42, .ref 3]) (h2 := (sh_rep m.T m.I m.J)) rfl rfl rfl ?_
      refine sh_gR1 (len := 3) (x := .ref 29) (pc2 := 49) rfl rfl (sh_s41 hT.st) rfl rfl ?_
      refine sh_gR1 (len := 3) (x := .ref 35) (pc2 := 52) rfl rfl (sh_s28 hT.st) rfl rfl ?_
      refine sh_w (i := (.iload 5)) (len := 2) (pc2 := 54) (lv2 := [(0, .ref 42), (1, .int x1), (2, .int x2), (3, .int x3), (4, .int x4), (5, .int x5)]) (st2 := [.int x5, .ref 35, .ref 3]) (h2 := (sh_rep m.T m.I m.J)) rfl rfl rfl ?_
      exact kk
    obtain ⟨c, e⟩ := sh_gd e
    refine sh_Lk_lift (T := m.T) (I := m.I) (J := m.J) (s := m.s) (pc2 := 55) (lv2 := [(0, .ref 42), (1, .int x1), (2, .int x2), (3, .int x3), (4, .int x4), (5, .int x5)]) (st2 := [.int (m.I 34 (Int32.toNatClampNeg x5)), .ref 3]) (I2 := m.I) (J2 := m.J) (fun hT v kk => ?_) ?_
    · refine sh_ia1 (x := m.I 34 (Int32.toNatClampNeg x5)) (pc2 := 55) rfl (sh_s34 hT.st) (sh_okb1 c) (sh_okb2 c) rfl rfl ?_
      exact kk
    obtain ⟨r1, e1, e⟩ := sh_bc_e e
    refine sh_Lk_cV (r := (some (.int r1))) (st2 := [.int r1]) (pc2 := 58) (k2 := 83) (a := 2) (as := [.ref 3, .int (m.I 34 (Int32.toNatClampNeg x5))]) (rest := []) rfl rfl rfl (fun hT => hT.t2) rfl rfl ⟨Nat.le_of_ble_eq_true rfl, Nat.le_of_ble_eq_true rfl⟩ (sl_83 e1 ⟨rfl, rfl⟩) rfl rfl (Nat.le_of_ble_eq_true rfl) (Nat.le_of_ble_eq_true rfl) ?_
    refine sh_Lk_lift (T := m.T) (I := m.I) (J := m.J) (s := m.s) (pc2 := 64) (lv2 := [(0, .ref 42), (1, .int x1), (2, .int x2), (3, .int x3), (4, .int x4), (5, .int x5)]) (st2 := [.int x4, .ref 3, .int r1]) (I2 := m.I) (J2 := m.J) (fun hT v kk => ?_) ?_
    · refine sh_w (i := (.aload_n 0)) (len := 1) (pc2 := 59) (lv2 := [(0, .ref 42), (1, .int x1), (2, .int x2), (3, .int x3), (4, .int x4), (5, .int x5)]) (st2 := [.ref 42, .int r1]) (h2 := (sh_rep m.T m.I m.J)) rfl rfl rfl ?_
      refine sh_gR1 (len := 3) (x := .ref 3) (pc2 := 62) rfl rfl (sh_s41 hT.st) rfl rfl ?_
      refine sh_w (i := (.iload 4)) (len := 2) (pc2 := 64) (lv2 := [(0, .ref 42), (1, .int x1), (2, .int x2), (3, .int x3), (4, .int x4), (5, .int x5)]) (st2 := [.int x4, .ref 3, .int r1]) (h2 := (sh_rep m.T m.I m.J)) rfl rfl rfl ?_
      exact kk
    obtain ⟨r2, e2, e⟩ := sh_bc_e e
    refine sh_Lk_cV (r := (some (.int r2))) (st2 := [.int r2, .int r1]) (pc2 := 67) (k2 := 83) (a := 2) (as := [.ref 3, .int x4]) (rest := [.int r1]) rfl rfl rfl (fun hT => hT.t2) rfl rfl ⟨Nat.le_of_ble_eq_true rfl, Nat.le_of_ble_eq_true rfl⟩ (sl_83 e2 ⟨rfl, rfl⟩) rfl rfl (Nat.le_of_ble_eq_true rfl) (Nat.le_of_ble_eq_true rfl) ?_
    rcases sh_ite e with ⟨c, e⟩ | ⟨c, e⟩
    · refine sh_Lk_lift (T := m.T) (I := m.I) (J := m.J) (s := m.s) (pc2 := 77) (lv2 := [(0, .ref 42), (1, .int x1), (2, .int x2), (3, .int x3), (4, .int x4), (5, .int x5)]) (st2 := [.int x4, .int 3, .ref 3]) (I2 := m.I) (J2 := m.J) (fun hT v kk => ?_) ?_
      · refine sh_jc (c := .ne) (off := (13)) (pc2 := 70) false rfl (sh_Bnef c) rfl ?_
        refine sh_w (i := (.aload_n 0)) (len := 1) (pc2 := 71) (lv2 := [(0, .ref 42), (1, .int x1), (2, .int x2), (3, .int x3), (4, .int x4), (5, .int x5)]) (st2 := [.ref 42]) (h2 := (sh_rep m.T m.I m.J)) rfl rfl rfl ?_
        refine sh_gR1 (len := 3) (x := .ref 3) (pc2 := 74) rfl rfl (sh_s41 hT.st) rfl rfl ?_
        refine sh_w (i := (.iconst 3)) (len := 1) (pc2 := 75) (lv2 := [(0, .ref 42), (1, .int x1), (2, .int x2), (3, .int x3), (4, .int x4), (5, .int x5)]) (st2 := [.int 3, .ref 3]) (h2 := (sh_rep m.T m.I m.J)) rfl rfl rfl ?_
        refine sh_w (i := (.iload 4)) (len := 2) (pc2 := 77) (lv2 := [(0, .ref 42), (1, .int x1), (2, .int x2), (3, .int x3), (4, .int x4), (5, .int x5)]) (st2 := [.int x4, .int 3, .ref 3]) (h2 := (sh_rep m.T m.I m.J)) rfl rfl rfl ?_
        exact kk
      rcases sh_bt_e e with ⟨m13, e3, rfl⟩ | ⟨r3, m13, e3, e⟩
      · obtain ⟨rfl, rfl⟩ := tg
        exact sh_Lk_tV (k2 := 50) (a := 2) (as := [.ref 3, .int 3, .int x4]) (rest := []) rfl rfl rfl (fun hT => hT.t2) rfl rfl ⟨Nat.le_of_ble_eq_true rfl, Nat.le_of_ble_eq_true rfl⟩ (sl_50 e3 ⟨rfl, rfl⟩) rfl (Nat.le_of_ble_eq_true rfl) (Nat.le_of_ble_eq_true rfl) (Nat.le_of_ble_eq_true rfl) (Nat.le_of_ble_eq_true rfl) rfl
      refine sh_Lk_cV (r := none) (st2 := []) (pc2 := 80) (k2 := 50) (a := 2) (as := [.ref 3, .int 3, .int x4]) (rest := []) rfl rfl rfl (fun hT => hT.t2) rfl rfl ⟨Nat.le_of_ble_eq_true rfl, Nat.le_of_ble_eq_true rfl⟩ (sl_50 e3 ⟨rfl, rfl⟩) rfl rfl (Nat.le_of_ble_eq_true rfl) (Nat.le_of_ble_eq_true rfl) ?_
      exact sh_Lk_sub (sh_sub_c rfl (sh_sub_c rfl (sh_sub_c rfl (sh_sub_c rfl (sh_sub_c rfl (sh_sub_c rfl (sh_sub_n))))))) (sl_85_80 e tg)
    · refine sh_Lk_lift (T := m.T) (I := m.I) (J := m.J) (s := m.s) (pc2 := 80) (lv2 := [(0, .ref 42), (1, .int x1), (2, .int x2), (3, .int x3), (4, .int x4), (5, .int x5)]) (st2 := []) (I2 := m.I) (J2 := m.J) (fun hT v kk => ?_) ?_
      · refine sh_jc (c := .ne) (off := (13)) (pc2 := 80) true rfl (sh_Bnet c) rfl ?_
        exact kk
      exact sh_Lk_sub (sh_sub_c rfl (sh_sub_c rfl (sh_sub_c rfl (sh_sub_c rfl (sh_sub_c rfl (sh_sub_c rfl (sh_sub_n))))))) (sl_85_80 e tg)
  · refine sh_Lk_lift (T := m.T) (I := m.I) (J := m.J) (s := m.s) (pc2 := 99) (lv2 := [(0, .ref 42), (1, .int x1), (2, .int x2), (3, .int x3), (4, .int x4), (5, .int x5)]) (st2 := [.int (x4 + 1), .ref 42, .int x3, .ref 36]) (I2 := m.I) (J2 := m.J) (fun hT v kk => ?_) ?_
    · refine sh_jc (c := .ge) (off := (48)) (pc2 := 86) true rfl (sh_Bget c) rfl ?_
      refine sh_w (i := (.aload_n 0)) (len := 1) (pc2 := 87) (lv2 := [(0, .ref 42), (1, .int x1), (2, .int x2), (3, .int x3), (4, .int x4), (5, .int x5)]) (st2 := [.ref 42]) (h2 := (sh_rep m.T m.I m.J)) rfl rfl rfl ?_
      refine sh_gR1 (len := 3) (x := .ref 29) (pc2 := 90) rfl rfl (sh_s41 hT.st) rfl rfl ?_
      refine sh_gR1 (len := 3) (x := .ref 36) (pc2 := 93) rfl rfl (sh_s28 hT.st) rfl rfl ?_
      refine sh_w (i := (.iload_n 3)) (len := 1) (pc2 := 94) (lv2 := [(0, .ref 42), (1, .int x1), (2, .int x2), (3, .int x3), (4, .int x4), (5, .int x5)]) (st2 := [.int x3, .ref 36]) (h2 := (sh_rep m.T m.I m.J)) rfl rfl rfl ?_
      refine sh_w (i := (.aload_n 0)) (len := 1) (pc2 := 95) (lv2 := [(0, .ref 42), (1, .int x1), (2, .int x2), (3, .int x3), (4, .int x4), (5, .int x5)]) (st2 := [.ref 42, .int x3, .ref 36]) (h2 := (sh_rep m.T m.I m.J)) rfl rfl rfl ?_
      refine sh_w (i := (.iload 4)) (len := 2) (pc2 := 97) (lv2 := [(0, .ref 42), (1, .int x1), (2, .int x2), (3, .int x3), (4, .int x4), (5, .int x5)]) (st2 := [.int x4, .ref 42, .int x3, .ref 36]) (h2 := (sh_rep m.T m.I m.J)) rfl rfl rfl ?_
      refine sh_w (i := (.iconst 1)) (len := 1) (pc2 := 98) (lv2 := [(0, .ref 42), (1, .int x1), (2, .int x2), (3, .int x3), (4, .int x4), (5, .int x5)]) (st2 := [.int 1, .int x4, .ref 42, .int x3, .ref 36]) (h2 := (sh_rep m.T m.I m.J)) rfl rfl rfl ?_
      refine sh_w (i := .iadd) (len := 1) (pc2 := 99) (lv2 := [(0, .ref 42), (1, .int x1), (2, .int x2), (3, .int x3), (4, .int x4), (5, .int x5)]) (st2 := [.int (x4 + 1), .ref 42, .int x3, .ref 36]) (h2 := (sh_rep m.T m.I m.J)) rfl rfl rfl ?_
      exact kk
    rcases sh_bt_e e with ⟨m14, e4, rfl⟩ | ⟨r4, m14, e4, e⟩
    · obtain ⟨rfl, rfl⟩ := tg
      exact sh_Lk_tV (k2 := 86) (a := 41) (as := [.ref 42, .int (x4 + 1)]) (rest := [.int x3, .ref 36]) rfl rfl rfl (fun hT => (sh_s41 hT.st)) rfl rfl ⟨Nat.le_of_ble_eq_true rfl, Nat.le_of_ble_eq_true rfl⟩ (sl_86 e4 ⟨rfl, rfl⟩) rfl (Nat.le_of_ble_eq_true rfl) (Nat.le_of_ble_eq_true rfl) (Nat.le_of_ble_eq_true rfl) (Nat.le_of_ble_eq_true rfl) rfl
    refine sh_Lk_cV (r := (some (.int r4))) (st2 := [.int r4, .int x3, .ref 36]) (pc2 := 102) (k2 := 86) (a := 41) (as := [.ref 42, .int (x4 + 1)]) (rest := [.int x3, .ref 36]) rfl rfl rfl (fun hT => (sh_s41 hT.st)) rfl rfl ⟨Nat.le_of_ble_eq_true rfl, Nat.le_of_ble_eq_true rfl⟩ (sl_86 e4 ⟨rfl, rfl⟩) rfl rfl (Nat.le_of_ble_eq_true rfl) (Nat.le_of_ble_eq_true rfl) ?_
    obtain ⟨c, e⟩ := sh_gd e
    refine sh_Lk_lift (T := m14.T) (I := m14.I) (J := m14.J) (s := m14.s) (pc2 := 2) (lv2 := [(3, .int (x3 + 1)), (0, .ref 42), (1, .int x1), (2, .int x2), (4, .int x4), (5, .int x5)]) (st2 := []) (I2 := sh_u2 m14.I 35 (Int32.toNatClampNeg x3) r4) (J2 := m14.J) (fun hT v kk => ?_) ?_
    · refine sh_is1 (x := r4) (i := x3) (pc2 := 103) rfl (sh_s35 hT.st) (sh_okb1 c) (sh_okb2 c) rfl ?_
      refine sh_w (i := (.iinc 3 1)) (len := 3) (pc2 := 106) (lv2 := [(3, .int (x3 + 1)), (0, .ref 42), (1, .int x1), (2, .int x2), (4, .int x4), (5, .int x5)]) (st2 := []) (h2 := (sh_rep m14.T (sh_u2 m14.I 35 (Int32.toNatClampNeg x3) r4) m14.J)) rfl rfl rfl ?_
      refine sh_w (i := (.goto (-104))) (len := 3) (pc2 := 2) (lv2 := [(3, .int (x3 + 1)), (0, .ref 42), (1, .int x1), (2, .int x2), (4, .int x4), (5, .int x5)]) (st2 := []) (h2 := (sh_rep m14.T (sh_u2 m14.I 35 (Int32.toNatClampNeg x3) r4) m14.J)) rfl rfl rfl ?_
      exact kk
    obtain rfl := Option.some.inj e
    exact sh_Lk_sub (sh_sub_c rfl (sh_sub_c rfl (sh_sub_c rfl (sh_sub_c rfl (sh_sub_n))))) tg
theorem sl_85_35 {x1 : Int32} {x2 : Int32} {x3 : Int32} {x4 : Int32} {x5 : Int32} {m m2 : sh_X} {o : Outcome} {z : ((Int32 × sh_X) ⊕ (Option Unit × sh_X))} (e : sf_85_35 x1 x2 x3 x4 x5 m = some z) (tg : (sh_el (fun q => sh_Lk 85 2 [(0, .ref 42), (1, .int x1), (2, .int x2), (3, .int q.1)] [] q.2 o m2 10 246) (sh_tVt o m2)) z) : sh_Lk 85 35 [(0, .ref 42), (1, .int x1), (2, .int x2), (3, .int x3), (4, .int x4), (5, .int x5)] [] m o m2 10 246 := by
  unfold sf_85_35 at e
  exact sh_while_lk (P := fun q => sh_Lk 85 35 [(0, .ref 42), (1, .int x1), (2, .int x2), (3, .int x3), (4, .int x4), (5, .int q.1)] [] q.2 o m2 10 246) (Q := (sh_el (fun q => sh_Lk 85 2 [(0, .ref 42), (1, .int x1), (2, .int x2), (3, .int q.1)] [] q.2 o m2 10 246) (sh_tVt o m2))) (fun q z e tg => sl_85_35s (x1 := x1) (x2 := x2) (x3 := x3) (x4 := x4) (x5 := q.1) (m := q.2) e tg) (s := (x5, m)) e tg
theorem sl_85_2s {x1 : Int32} {x2 : Int32} {x3 : Int32} {m m2 : sh_X} {o : Outcome} {z : ((Int32 × sh_X) ⊕ (Option Unit × sh_X))} (e : sf_85_2s x1 x2 x3 m = some z) (tg : (sh_el (fun q => sh_Lk 85 2 [(0, .ref 42), (1, .int x1), (2, .int x2), (3, .int q.1)] [] q.2 o m2 10 246) (sh_tVt o m2)) z) : sh_Lk 85 2 [(0, .ref 42), (1, .int x1), (2, .int x2), (3, .int x3)] [] m o m2 10 246 := by
  unfold sf_85_2s at e
  refine sh_Lk_lift (T := m.T) (I := m.I) (J := m.J) (s := m.s) (pc2 := 6) (lv2 := [(0, .ref 42), (1, .int x1), (2, .int x2), (3, .int x3)]) (st2 := [.int (x1 + x2), .int x3]) (I2 := m.I) (J2 := m.J) (fun hT v kk => ?_) ?_
  · refine sh_w (i := (.iload_n 3)) (len := 1) (pc2 := 3) (lv2 := [(0, .ref 42), (1, .int x1), (2, .int x2), (3, .int x3)]) (st2 := [.int x3]) (h2 := (sh_rep m.T m.I m.J)) rfl rfl rfl ?_
    refine sh_w (i := (.iload_n 1)) (len := 1) (pc2 := 4) (lv2 := [(0, .ref 42), (1, .int x1), (2, .int x2), (3, .int x3)]) (st2 := [.int x1, .int x3]) (h2 := (sh_rep m.T m.I m.J)) rfl rfl rfl ?_
    refine sh_w (i := (.iload_n 2)) (len := 1) (pc2 := 5) (lv2 := [(0, .ref 42), (1, .int x1), (2, .int x2), (3, .int x3)]) (st2 := [.int x2, .int x1, .int x3]) (h2 := (sh_rep m.T m.I m.J)) rfl rfl rfl ?_
    refine sh_w (i := .iadd) (len := 1) (pc2 := 6) (lv2 := [(0, .ref 42), (1, .int x1), (2, .int x2), (3, .int x3)]) (st2 := [.int (x1 + x2), .int x3]) (h2 := (sh_rep m.T m.I m.J)) rfl rfl rfl ?_
    exact kk
  rcases sh_ite e with ⟨c, e⟩ | ⟨c, e⟩
  · refine sh_Lk_lift (T := m.T) (I := m.I) (J := m.J) (s := m.s) (pc2 := 18) (lv2 := [(0, .ref 42), (1, .int x1), (2, .int x2), (3, .int x3)]) (st2 := [.int 2048, .int x3]) (I2 := m.I) (J2 := m.J) (fun hT v kk => ?_) ?_
    · refine sh_jc (c := .ge) (off := (103)) (pc2 := 9) false rfl (sh_Bgef c) rfl ?_
      refine sh_w (i := (.iload_n 3)) (len := 1) (pc2 := 10) (lv2 := [(0, .ref 42), (1, .int x1), (2, .int x2), (3, .int x3)]) (st2 := [.int x3]) (h2 := (sh_rep m.T m.I m.J)) rfl rfl rfl ?_
      refine sh_w (i := (.aload_n 0)) (len := 1) (pc2 := 11) (lv2 := [(0, .ref 42), (1, .int x1), (2, .int x2), (3, .int x3)]) (st2 := [.ref 42, .int x3]) (h2 := (sh_rep m.T m.I m.J)) rfl rfl rfl ?_
      refine sh_gR1 (len := 3) (x := .ref 29) (pc2 := 14) rfl rfl (sh_s41 hT.st) rfl rfl ?_
      refine sh_gR1 (len := 3) (x := .ref 35) (pc2 := 17) rfl rfl (sh_s28 hT.st) rfl rfl ?_
      refine sh_al1 (pc2 := 18) rfl (sh_s34 hT.st) (by decide) rfl ?_
      exact kk
    rcases sh_ite e with ⟨c, e⟩ | ⟨c, e⟩
    · refine sh_Lk_lift (T := m.T) (I := m.I) (J := m.J) (s := m.s) (pc2 := 29) (lv2 := [(0, .ref 42), (1, .int x1), (2, .int x2), (3, .int x3)]) (st2 := [.int x3, .ref 35]) (I2 := m.I) (J2 := m.J) (fun hT v kk => ?_) ?_
      · refine sh_jc (c := .ge) (off := (91)) (pc2 := 21) false rfl (sh_Bgef c) rfl ?_
        refine sh_w (i := (.aload_n 0)) (len := 1) (pc2 := 22) (lv2 := [(0, .ref 42), (1, .int x1), (2, .int x2), (3, .int x3)]) (st2 := [.ref 42]) (h2 := (sh_rep m.T m.I m.J)) rfl rfl rfl ?_
        refine sh_gR1 (len := 3) (x := .ref 29) (pc2 := 25) rfl rfl (sh_s41 hT.st) rfl rfl ?_
        refine sh_gR1 (len := 3) (x := .ref 35) (pc2 := 28) rfl rfl (sh_s28 hT.st) rfl rfl ?_
        refine sh_w (i := (.iload_n 3)) (len := 1) (pc2 := 29) (lv2 := [(0, .ref 42), (1, .int x1), (2, .int x2), (3, .int x3)]) (st2 := [.int x3, .ref 35]) (h2 := (sh_rep m.T m.I m.J)) rfl rfl rfl ?_
        exact kk
      obtain ⟨c, e⟩ := sh_gd e
      refine sh_Lk_lift (T := m.T) (I := m.I) (J := m.J) (s := m.s) (pc2 := 35) (lv2 := [(5, .int x1), (4, .int (m.I 34 (Int32.toNatClampNeg x3))), (0, .ref 42), (1, .int x1), (2, .int x2), (3, .int x3)]) (st2 := []) (I2 := m.I) (J2 := m.J) (fun hT v kk => ?_) ?_
      · refine sh_ia1 (x := m.I 34 (Int32.toNatClampNeg x3)) (pc2 := 30) rfl (sh_s34 hT.st) (sh_okb1 c) (sh_okb2 c) rfl rfl ?_
        refine sh_w (i := (.istore 4)) (len := 2) (pc2 := 32) (lv2 := [(4, .int (m.I 34 (Int32.toNatClampNeg x3))), (0, .ref 42), (1, .int x1), (2, .int x2), (3, .int x3)]) (st2 := []) (h2 := (sh_rep m.T m.I m.J)) rfl rfl rfl ?_
        refine sh_w (i := (.iload_n 1)) (len := 1) (pc2 := 33) (lv2 := [(4, .int (m.I 34 (Int32.toNatClampNeg x3))), (0, .ref 42), (1, .int x1), (2, .int x2), (3, .int x3)]) (st2 := [.int x1]) (h2 := (sh_rep m.T m.I m.J)) rfl rfl rfl ?_
        refine sh_w (i := (.istore 5)) (len := 2) (pc2 := 35) (lv2 := [(5, .int x1), (4, .int (m.I 34 (Int32.toNatClampNeg x3))), (0, .ref 42), (1, .int x1), (2, .int x2), (3, .int x3)]) (st2 := []) (h2 := (sh_rep m.T m.I m.J)) rfl rfl rfl ?_
        exact kk
      exact sh_Lk_sub (sh_sub_c rfl (sh_sub_c rfl (sh_sub_c rfl (sh_sub_c rfl (sh_sub_c rfl (sh_sub_c rfl (sh_sub_n))))))) (sl_85_35 e tg)
    · refine sh_Lk_lift (T := m.T) (I := m.I) (J := m.J) (s := m.s) (pc2 := 109) (lv2 := [(0, .ref 42), (1, .int x1), (2, .int x2), (3, .int x3)]) (st2 := []) (I2 := m.I) (J2 := m.J) (fun hT v kk => ?_) ?_
      · refine sh_jc (c := .ge) (off := (91)) (pc2 := 109) true rfl (sh_Bget c) rfl ?_
        exact kk
      obtain rfl := Option.some.inj e
      obtain ⟨rfl, rfl⟩ := tg
      exact sh_Lk_ret (i := .return_) rfl rfl rfl (Nat.le_of_ble_eq_true rfl) (Nat.le_of_ble_eq_true rfl)
  · refine sh_Lk_lift (T := m.T) (I := m.I) (J := m.J) (s := m.s) (pc2 := 109) (lv2 := [(0, .ref 42), (1, .int x1), (2, .int x2), (3, .int x3)]) (st2 := []) (I2 := m.I) (J2 := m.J) (fun hT v kk => ?_) ?_
    · refine sh_jc (c := .ge) (off := (103)) (pc2 := 109) true rfl (sh_Bget c) rfl ?_
      exact kk
    obtain rfl := Option.some.inj e
    obtain ⟨rfl, rfl⟩ := tg
    exact sh_Lk_ret (i := .return_) rfl rfl rfl (Nat.le_of_ble_eq_true rfl) (Nat.le_of_ble_eq_true rfl)
theorem sl_85_2 {x1 : Int32} {x2 : Int32} {x3 : Int32} {m m2 : sh_X} {o : Outcome} {z : (Option Unit × sh_X)} (e : sf_85_2 x1 x2 x3 m = some z) (tg : (sh_tVt o m2) z) : sh_Lk 85 2 [(0, .ref 42), (1, .int x1), (2, .int x2), (3, .int x3)] [] m o m2 10 246 := by
  unfold sf_85_2 at e
  exact sh_while_lk (P := fun q => sh_Lk 85 2 [(0, .ref 42), (1, .int x1), (2, .int x2), (3, .int q.1)] [] q.2 o m2 10 246) (Q := (sh_tVt o m2)) (fun q z e tg => sl_85_2s (x1 := x1) (x2 := x2) (x3 := q.1) (m := q.2) e tg) (s := (x3, m)) e tg
theorem sl_85 {x1 : Int32} {x2 : Int32} {m m2 : sh_X} {o : Outcome} {z : (Option Unit × sh_X)} (e : sf_85 x1 x2 m = some z) (tg : (sh_tVt o m2) z) : sh_Lk 85 0 [(0, .ref 42), (1, .int x1), (2, .int x2)] [] m o m2 10 246 := by
  unfold sf_85 at e
  refine sh_Lk_lift (T := m.T) (I := m.I) (J := m.J) (s := m.s) (pc2 := 2) (lv2 := [(3, .int x1), (0, .ref 42), (1, .int x1), (2, .int x2)]) (st2 := []) (I2 := m.I) (J2 := m.J) (fun hT v kk => ?_) ?_
  · refine sh_w (i := (.iload_n 1)) (len := 1) (pc2 := 1) (lv2 := [(0, .ref 42), (1, .int x1), (2, .int x2)]) (st2 := [.int x1]) (h2 := (sh_rep m.T m.I m.J)) rfl rfl rfl ?_
    refine sh_w (i := (.istore_n 3)) (len := 1) (pc2 := 2) (lv2 := [(3, .int x1), (0, .ref 42), (1, .int x1), (2, .int x2)]) (st2 := []) (h2 := (sh_rep m.T m.I m.J)) rfl rfl rfl ?_
    exact kk
  exact sh_Lk_sub (sh_sub_c rfl (sh_sub_c rfl (sh_sub_c rfl (sh_sub_c rfl (sh_sub_n))))) (sl_85_2 e tg)
theorem sl_82_56 {x1 : Int32} {m m2 : sh_X} {o : Outcome} {z : ((Int32 × sh_X) ⊕ (Option Unit × sh_X))} (e : sf_82_56 x1 m = some z) (tg : (sh_el (fun q => sh_Lk 82 2 [(0, .ref 42), (1, .int q.1)] [] q.2 o m2 11 271) (sh_tVt o m2)) z) : sh_Lk 82 56 [(0, .ref 42), (1, .int x1)] [] m o m2 11 271 := by
  unfold sf_82_56 at e
  refine sh_Lk_lift (T := m.T) (I := m.I) (J := m.J) (s := m.s) (pc2 := 69) (lv2 := [(0, .ref 42), (1, .int x1)]) (st2 := [.int x1, .ref 34, .int (x1 * 8), .ref 42]) (I2 := m.I) (J2 := m.J) (fun hT v kk => ?_) ?_
  · refine sh_w (i := (.aload_n 0)) (len := 1) (pc2 := 57) (lv2 := [(0, .ref 42), (1, .int x1)]) (st2 := [.ref 42]) (h2 := (sh_rep m.T m.I m.J)) rfl rfl rfl ?_
    refine sh_w (i := (.iload_n 1)) (len := 1) (pc2 := 58) (lv2 := [(0, .ref 42), (1, .int x1)]) (st2 := [.int x1, .ref 42]) (h2 := (sh_rep m.T m.I m.J)) rfl rfl rfl ?_
    refine sh_w (i := (.bipush 8)) (len := 2) (pc2 := 60) (lv2 := [(0, .ref 42), (1, .int x1)]) (st2 := [.int 8, .int x1, .ref 42]) (h2 := (sh_rep m.T m.I m.J)) rfl rfl rfl ?_
    refine sh_w (i := .imul) (len := 1) (pc2 := 61) (lv2 := [(0, .ref 42), (1, .int x1)]) (st2 := [.int (x1 * 8), .ref 42]) (h2 := (sh_rep m.T m.I m.J)) rfl rfl rfl ?_
    refine sh_w (i := (.aload_n 0)) (len := 1) (pc2 := 62) (lv2 := [(0, .ref 42), (1, .int x1)]) (st2 := [.ref 42, .int (x1 * 8), .ref 42]) (h2 := (sh_rep m.T m.I m.J)) rfl rfl rfl ?_
    refine sh_gR1 (len := 3) (x := .ref 29) (pc2 := 65) rfl rfl (sh_s41 hT.st) rfl rfl ?_
    refine sh_gR1 (len := 3) (x := .ref 34) (pc2 := 68) rfl rfl (sh_s28 hT.st) rfl rfl ?_
    refine sh_w (i := (.iload_n 1)) (len := 1) (pc2 := 69) (lv2 := [(0, .ref 42), (1, .int x1)]) (st2 := [.int x1, .ref 34, .int (x1 * 8), .ref 42]) (h2 := (sh_rep m.T m.I m.J)) rfl rfl rfl ?_
    exact kk
  obtain ⟨c, e⟩ := sh_gd e
  refine sh_Lk_lift (T := m.T) (I := m.I) (J := m.J) (s := m.s) (pc2 := 70) (lv2 := [(0, .ref 42), (1, .int x1)]) (st2 := [.int (m.I 33 (Int32.toNatClampNeg x1)), .int (x1 * 8), .ref 42]) (I2 := m.I) (J2 := m.J) (fun hT v kk => ?_) ?_
  · refine sh_ia1 (x := m.I 33 (Int32.toNatClampNeg x1)) (pc2 := 70) rfl (sh_s33 hT.st) (sh_okb1 c) (sh_okb2 c) rfl rfl ?_
    exact kk
  rcases sh_bt_e e with ⟨m11, e1, rfl⟩ | ⟨r1, m11, e1, e⟩
  · obtain ⟨rfl, rfl⟩ := tg
    exact sh_Lk_tV (k2 := 85) (a := 41) (as := [.ref 42, .int (x1 * 8), .int (m.I 33 (Int32.toNatClampNeg x1))]) (rest := []) rfl rfl rfl (fun hT => (sh_s41 hT.st)) rfl rfl ⟨Nat.le_of_ble_eq_true rfl, Nat.le_of_ble_eq_true rfl⟩ (sl_85 e1 ⟨rfl, rfl⟩) rfl (Nat.le_of_ble_eq_true rfl) (Nat.le_of_ble_eq_true rfl) (Nat.le_of_ble_eq_true rfl) (Nat.le_of_ble_eq_true rfl) rfl
  refine sh_Lk_cV (r := none) (st2 := []) (pc2 := 73) (k2 := 85) (a := 41) (as := [.ref 42, .int (x1 * 8), .int (m.I 33 (Int32.toNatClampNeg x1))]) (rest := []) rfl rfl rfl (fun hT => (sh_s41 hT.st)) rfl rfl ⟨Nat.le_of_ble_eq_true rfl, Nat.le_of_ble_eq_true rfl⟩ (sl_85 e1 ⟨rfl, rfl⟩) rfl rfl (Nat.le_of_ble_eq_true rfl) (Nat.le_of_ble_eq_true rfl) ?_
  refine sh_Lk_lift (T := m11.T) (I := m11.I) (J := m11.J) (s := m11.s) (pc2 := 90) (lv2 := [(0, .ref 42), (1, .int x1)]) (st2 := [.int x1, .ref 32, .ref 42, .int x1, .ref 33]) (I2 := m11.I) (J2 := m11.J) (fun hT v kk => ?_) ?_
  · refine sh_w (i := (.aload_n 0)) (len := 1) (pc2 := 74) (lv2 := [(0, .ref 42), (1, .int x1)]) (st2 := [.ref 42]) (h2 := (sh_rep m11.T m11.I m11.J)) rfl rfl rfl ?_
    refine sh_gR1 (len := 3) (x := .ref 29) (pc2 := 77) rfl rfl (sh_s41 hT.st) rfl rfl ?_
    refine sh_gR1 (len := 3) (x := .ref 33) (pc2 := 80) rfl rfl (sh_s28 hT.st) rfl rfl ?_
    refine sh_w (i := (.iload_n 1)) (len := 1) (pc2 := 81) (lv2 := [(0, .ref 42), (1, .int x1)]) (st2 := [.int x1, .ref 33]) (h2 := (sh_rep m11.T m11.I m11.J)) rfl rfl rfl ?_
    refine sh_w (i := (.aload_n 0)) (len := 1) (pc2 := 82) (lv2 := [(0, .ref 42), (1, .int x1)]) (st2 := [.ref 42, .int x1, .ref 33]) (h2 := (sh_rep m11.T m11.I m11.J)) rfl rfl rfl ?_
    refine sh_w (i := (.aload_n 0)) (len := 1) (pc2 := 83) (lv2 := [(0, .ref 42), (1, .int x1)]) (st2 := [.ref 42, .ref 42, .int x1, .ref 33]) (h2 := (sh_rep m11.T m11.I m11.J)) rfl rfl rfl ?_
    refine sh_gR1 (len := 3) (x := .ref 29) (pc2 := 86) rfl rfl (sh_s41 hT.st) rfl rfl ?_
    refine sh_gR1 (len := 3) (x := .ref 32) (pc2 := 89) rfl rfl (sh_s28 hT.st) rfl rfl ?_
    refine sh_w (i := (.iload_n 1)) (len := 1) (pc2 := 90) (lv2 := [(0, .ref 42), (1, .int x1)]) (st2 := [.int x1, .ref 32, .ref 42, .int x1, .ref 33]) (h2 := (sh_rep m11.T m11.I m11.J)) rfl rfl rfl ?_
    exact kk
  obtain ⟨c, e⟩ := sh_gd e
  refine sh_Lk_lift (T := m11.T) (I := m11.I) (J := m11.J) (s := m11.s) (pc2 := 91) (lv2 := [(0, .ref 42), (1, .int x1)]) (st2 := [.int (m11.I 31 (Int32.toNatClampNeg x1)), .ref 42, .int x1, .ref 33]) (I2 := m11.I) (J2 := m11.J) (fun hT v kk => ?_) ?_
  · refine sh_ia1 (x := m11.I 31 (Int32.toNatClampNeg x1)) (pc2 := 91) rfl (sh_s31 hT.st) (sh_okb1 c) (sh_okb2 c) rfl rfl ?_
    exact kk
  rcases sh_bt_e e with ⟨m12, e2, rfl⟩ | ⟨r2, m12, e2, e⟩
  · obtain ⟨rfl, rfl⟩ := tg
    exact sh_Lk_tV (k2 := 86) (a := 41) (as := [.ref 42, .int (m11.I 31 (Int32.toNatClampNeg x1))]) (rest := [.int x1, .ref 33]) rfl rfl rfl (fun hT => (sh_s41 hT.st)) rfl rfl ⟨Nat.le_of_ble_eq_true rfl, Nat.le_of_ble_eq_true rfl⟩ (sl_86 e2 ⟨rfl, rfl⟩) rfl (Nat.le_of_ble_eq_true rfl) (Nat.le_of_ble_eq_true rfl) (Nat.le_of_ble_eq_true rfl) (Nat.le_of_ble_eq_true rfl) rfl
  refine sh_Lk_cV (r := (some (.int r2))) (st2 := [.int r2, .int x1, .ref 33]) (pc2 := 94) (k2 := 86) (a := 41) (as := [.ref 42, .int (m11.I 31 (Int32.toNatClampNeg x1))]) (rest := [.int x1, .ref 33]) rfl rfl rfl (fun hT => (sh_s41 hT.st)) rfl rfl ⟨Nat.le_of_ble_eq_true rfl, Nat.le_of_ble_eq_true rfl⟩ (sl_86 e2 ⟨rfl, rfl⟩) rfl rfl (Nat.le_of_ble_eq_true rfl) (Nat.le_of_ble_eq_true rfl) ?_
  obtain ⟨c, e⟩ := sh_gd e
  refine sh_Lk_lift (T := m12.T) (I := m12.I) (J := m12.J) (s := m12.s) (pc2 := 2) (lv2 := [(1, .int (x1 + 1)), (0, .ref 42)]) (st2 := []) (I2 := sh_u2 m12.I 32 (Int32.toNatClampNeg x1) r2) (J2 := m12.J) (fun hT v kk => ?_) ?_
  · refine sh_is1 (x := r2) (i := x1) (pc2 := 95) rfl (sh_s32 hT.st) (sh_okb1 c) (sh_okb2 c) rfl ?_
    refine sh_w (i := (.iinc 1 1)) (len := 3) (pc2 := 98) (lv2 := [(1, .int (x1 + 1)), (0, .ref 42)]) (st2 := []) (h2 := (sh_rep m12.T (sh_u2 m12.I 32 (Int32.toNatClampNeg x1) r2) m12.J)) rfl rfl rfl ?_
    refine sh_w (i := (.goto (-96))) (len := 3) (pc2 := 2) (lv2 := [(1, .int (x1 + 1)), (0, .ref 42)]) (st2 := []) (h2 := (sh_rep m12.T (sh_u2 m12.I 32 (Int32.toNatClampNeg x1) r2) m12.J)) rfl rfl rfl ?_
    exact kk
  obtain rfl := Option.some.inj e
  exact sh_Lk_sub (sh_sub_c rfl (sh_sub_c rfl (sh_sub_n))) tg
theorem sl_82_2s {x1 : Int32} {m m2 : sh_X} {o : Outcome} {z : ((Int32 × sh_X) ⊕ (Option Unit × sh_X))} (e : sf_82_2s x1 m = some z) (tg : (sh_el (fun q => sh_Lk 82 2 [(0, .ref 42), (1, .int q.1)] [] q.2 o m2 11 271) (sh_tVt o m2)) z) : sh_Lk 82 2 [(0, .ref 42), (1, .int x1)] [] m o m2 11 271 := by
  unfold sf_82_2s at e
  refine sh_Lk_lift (T := m.T) (I := m.I) (J := m.J) (s := m.s) (pc2 := 10) (lv2 := [(0, .ref 42), (1, .int x1)]) (st2 := [.int (m.I 28 12), .int x1]) (I2 := m.I) (J2 := m.J) (fun hT v kk => ?_) ?_
  · refine sh_w (i := (.iload_n 1)) (len := 1) (pc2 := 3) (lv2 := [(0, .ref 42), (1, .int x1)]) (st2 := [.int x1]) (h2 := (sh_rep m.T m.I m.J)) rfl rfl rfl ?_
    refine sh_w (i := (.aload_n 0)) (len := 1) (pc2 := 4) (lv2 := [(0, .ref 42), (1, .int x1)]) (st2 := [.ref 42, .int x1]) (h2 := (sh_rep m.T m.I m.J)) rfl rfl rfl ?_
    refine sh_gR1 (len := 3) (x := .ref 29) (pc2 := 7) rfl rfl (sh_s41 hT.st) rfl rfl ?_
    refine sh_gI1 (len := 3) (x := m.I 28 12) (pc2 := 10) rfl rfl (sh_s28 hT.st) rfl rfl rfl ?_
    exact kk
  rcases sh_ite e with ⟨c, e⟩ | ⟨c, e⟩
  · refine sh_Lk_lift (T := m.T) (I := m.I) (J := m.J) (s := m.s) (pc2 := 17) (lv2 := [(0, .ref 42), (1, .int x1)]) (st2 := [.int 256, .int x1]) (I2 := m.I) (J2 := m.J) (fun hT v kk => ?_) ?_
    · refine sh_jc (c := .ge) (off := (91)) (pc2 := 13) false rfl (sh_Bgef c) rfl ?_
      refine sh_w (i := (.iload_n 1)) (len := 1) (pc2 := 14) (lv2 := [(0, .ref 42), (1, .int x1)]) (st2 := [.int x1]) (h2 := (sh_rep m.T m.I m.J)) rfl rfl rfl ?_
      refine sh_w (i := (.sipush 256)) (len := 3) (pc2 := 17) (lv2 := [(0, .ref 42), (1, .int x1)]) (st2 := [.int 256, .int x1]) (h2 := (sh_rep m.T m.I m.J)) rfl rfl rfl ?_
      exact kk
    rcases sh_ite e with ⟨c, e⟩ | ⟨c, e⟩
    · refine sh_Lk_lift (T := m.T) (I := m.I) (J := m.J) (s := m.s) (pc2 := 28) (lv2 := [(0, .ref 42), (1, .int x1)]) (st2 := [.int x1, .ref 30]) (I2 := m.I) (J2 := m.J) (fun hT v kk => ?_) ?_
      · refine sh_jc (c := .ge) (off := (84)) (pc2 := 20) false rfl (sh_Bgef c) rfl ?_
        refine sh_w (i := (.aload_n 0)) (len := 1) (pc2 := 21) (lv2 := [(0, .ref 42), (1, .int x1)]) (st2 := [.ref 42]) (h2 := (sh_rep m.T m.I m.J)) rfl rfl rfl ?_
        refine sh_gR1 (len := 3) (x := .ref 29) (pc2 := 24) rfl rfl (sh_s41 hT.st) rfl rfl ?_
        refine sh_gR1 (len := 3) (x := .ref 30) (pc2 := 27) rfl rfl (sh_s28 hT.st) rfl rfl ?_
        refine sh_w (i := (.iload_n 1)) (len := 1) (pc2 := 28) (lv2 := [(0, .ref 42), (1, .int x1)]) (st2 := [.int x1, .ref 30]) (h2 := (sh_rep m.T m.I m.J)) rfl rfl rfl ?_
        exact kk
      obtain ⟨c, e⟩ := sh_gd e
      refine sh_Lk_lift (T := m.T) (I := m.I) (J := m.J) (s := m.s) (pc2 := 36) (lv2 := [(2, .int (m.I 29 (Int32.toNatClampNeg x1))), (0, .ref 42), (1, .int x1)]) (st2 := [.int (m.I 29 (Int32.toNatClampNeg x1)), .ref 3, .ref 42]) (I2 := m.I) (J2 := m.J) (fun hT v kk => ?_) ?_
      · refine sh_ia1 (x := m.I 29 (Int32.toNatClampNeg x1)) (pc2 := 29) rfl (sh_s29 hT.st) (sh_okb1 c) (sh_okb2 c) rfl rfl ?_
        refine sh_w (i := (.istore_n 2)) (len := 1) (pc2 := 30) (lv2 := [(2, .int (m.I 29 (Int32.toNatClampNeg x1))), (0, .ref 42), (1, .int x1)]) (st2 := []) (h2 := (sh_rep m.T m.I m.J)) rfl rfl rfl ?_
        refine sh_w (i := (.aload_n 0)) (len := 1) (pc2 := 31) (lv2 := [(2, .int (m.I 29 (Int32.toNatClampNeg x1))), (0, .ref 42), (1, .int x1)]) (st2 := [.ref 42]) (h2 := (sh_rep m.T m.I m.J)) rfl rfl rfl ?_
        refine sh_w (i := (.aload_n 0)) (len := 1) (pc2 := 32) (lv2 := [(2, .int (m.I 29 (Int32.toNatClampNeg x1))), (0, .ref 42), (1, .int x1)]) (st2 := [.ref 42, .ref 42]) (h2 := (sh_rep m.T m.I m.J)) rfl rfl rfl ?_
        refine sh_gR1 (len := 3) (x := .ref 3) (pc2 := 35) rfl rfl (sh_s41 hT.st) rfl rfl ?_
        refine sh_w (i := (.iload_n 2)) (len := 1) (pc2 := 36) (lv2 := [(2, .int (m.I 29 (Int32.toNatClampNeg x1))), (0, .ref 42), (1, .int x1)]) (st2 := [.int (m.I 29 (Int32.toNatClampNeg x1)), .ref 3, .ref 42]) (h2 := (sh_rep m.T m.I m.J)) rfl rfl rfl ?_
        exact kk
      obtain ⟨r1, e1, e⟩ := sh_bc_e e
      refine sh_Lk_cV (r := (some (.int r1))) (st2 := [.int r1, .ref 42]) (pc2 := 39) (k2 := 83) (a := 2) (as := [.ref 3, .int (m.I 29 (Int32.toNatClampNeg x1))]) (rest := [.ref 42]) rfl rfl rfl (fun hT => hT.t2) rfl rfl ⟨Nat.le_of_ble_eq_true rfl, Nat.le_of_ble_eq_true rfl⟩ (sl_83 e1 ⟨rfl, rfl⟩) rfl rfl (Nat.le_of_ble_eq_true rfl) (Nat.le_of_ble_eq_true rfl) ?_
      refine sh_Lk_lift (T := m.T) (I := m.I) (J := m.J) (s := m.s) (pc2 := 40) (lv2 := [(2, .int (m.I 29 (Int32.toNatClampNeg x1))), (0, .ref 42), (1, .int x1)]) (st2 := [.int x1, .int r1, .ref 42]) (I2 := m.I) (J2 := m.J) (fun hT v kk => ?_) ?_
      · refine sh_w (i := (.iload_n 1)) (len := 1) (pc2 := 40) (lv2 := [(2, .int (m.I 29 (Int32.toNatClampNeg x1))), (0, .ref 42), (1, .int x1)]) (st2 := [.int x1, .int r1, .ref 42]) (h2 := (sh_rep m.T m.I m.J)) rfl rfl rfl ?_
        exact kk
      obtain ⟨r2, e2, e⟩ := sh_bc_e e
      refine sh_Lk_cV (r := (some (.int r2))) (st2 := [.int r2]) (pc2 := 43) (k2 := 84) (a := 41) (as := [.ref 42, .int r1, .int x1]) (rest := []) rfl rfl rfl (fun hT => (sh_s41 hT.st)) rfl rfl ⟨Nat.le_of_ble_eq_true rfl, Nat.le_of_ble_eq_true rfl⟩ (sl_84 e2 ⟨rfl, rfl⟩) rfl rfl (Nat.le_of_ble_eq_true rfl) (Nat.le_of_ble_eq_true rfl) ?_
      refine sh_Lk_lift (T := m.T) (I := m.I) (J := m.J) (s := m.s) (pc2 := 44) (lv2 := [(2, .int (m.I 29 (Int32.toNatClampNeg x1))), (0, .ref 42), (1, .int x1)]) (st2 := [.int (-1), .int r2]) (I2 := m.I) (J2 := m.J) (fun hT v kk => ?_) ?_
      · refine sh_w (i := (.iconst (-1))) (len := 1) (pc2 := 44) (lv2 := [(2, .int (m.I 29 (Int32.toNatClampNeg x1))), (0, .ref 42), (1, .int x1)]) (st2 := [.int (-1), .int r2]) (h2 := (sh_rep m.T m.I m.J)) rfl rfl rfl ?_
        exact kk
      rcases sh_ite e with ⟨c, e⟩ | ⟨c, e⟩
      · refine sh_Lk_lift (T := m.T) (I := m.I) (J := m.J) (s := m.s) (pc2 := 56) (lv2 := [(2, .int (m.I 29 (Int32.toNatClampNeg x1))), (0, .ref 42), (1, .int x1)]) (st2 := []) (I2 := m.I) (J2 := m.J) (fun hT v kk => ?_) ?_
        · refine sh_jc (c := .eq) (off := (12)) (pc2 := 56) true rfl (sh_Beqt c) rfl ?_
          exact kk
        exact sh_Lk_sub (sh_sub_c rfl (sh_sub_c rfl (sh_sub_n))) (sl_82_56 e tg)
      · refine sh_Lk_lift (T := m.T) (I := m.I) (J := m.J) (s := m.s) (pc2 := 53) (lv2 := [(2, .int (m.I 29 (Int32.toNatClampNeg x1))), (0, .ref 42), (1, .int x1)]) (st2 := [.int (m.I 29 (Int32.toNatClampNeg x1)), .int 3, .ref 3]) (I2 := m.I) (J2 := m.J) (fun hT v kk => ?_) ?_
        · refine sh_jc (c := .eq) (off := (12)) (pc2 := 47) false rfl (sh_Beqf c) rfl ?_
          refine sh_w (i := (.aload_n 0)) (len := 1) (pc2 := 48) (lv2 := [(2, .int (m.I 29 (Int32.toNatClampNeg x1))), (0, .ref 42), (1, .int x1)]) (st2 := [.ref 42]) (h2 := (sh_rep m.T m.I m.J)) rfl rfl rfl ?_
          refine sh_gR1 (len := 3) (x := .ref 3) (pc2 := 51) rfl rfl (sh_s41 hT.st) rfl rfl ?_
          refine sh_w (i := (.iconst 3)) (len := 1) (pc2 := 52) (lv2 := [(2, .int (m.I 29 (Int32.toNatClampNeg x1))), (0, .ref 42), (1, .int x1)]) (st2 := [.int 3, .ref 3]) (h2 := (sh_rep m.T m.I m.J)) rfl rfl rfl ?_
          refine sh_w (i := (.iload_n 2)) (len := 1) (pc2 := 53) (lv2 := [(2, .int (m.I 29 (Int32.toNatClampNeg x1))), (0, .ref 42), (1, .int x1)]) (st2 := [.int (m.I 29 (Int32.toNatClampNeg x1)), .int 3, .ref 3]) (h2 := (sh_rep m.T m.I m.J)) rfl rfl rfl ?_
          exact kk
        rcases sh_bt_e e with ⟨m13, e3, rfl⟩ | ⟨r3, m13, e3, e⟩
        · obtain ⟨rfl, rfl⟩ := tg
          exact sh_Lk_tV (k2 := 50) (a := 2) (as := [.ref 3, .int 3, .int (m.I 29 (Int32.toNatClampNeg x1))]) (rest := []) rfl rfl rfl (fun hT => hT.t2) rfl rfl ⟨Nat.le_of_ble_eq_true rfl, Nat.le_of_ble_eq_true rfl⟩ (sl_50 e3 ⟨rfl, rfl⟩) rfl (Nat.le_of_ble_eq_true rfl) (Nat.le_of_ble_eq_true rfl) (Nat.le_of_ble_eq_true rfl) (Nat.le_of_ble_eq_true rfl) rfl
        refine sh_Lk_cV (r := none) (st2 := []) (pc2 := 56) (k2 := 50) (a := 2) (as := [.ref 3, .int 3, .int (m.I 29 (Int32.toNatClampNeg x1))]) (rest := []) rfl rfl rfl (fun hT => hT.t2) rfl rfl ⟨Nat.le_of_ble_eq_true rfl, Nat.le_of_ble_eq_true rfl⟩ (sl_50 e3 ⟨rfl, rfl⟩) rfl rfl (Nat.le_of_ble_eq_true rfl) (Nat.le_of_ble_eq_true rfl) ?_
        exact sh_Lk_sub (sh_sub_c rfl (sh_sub_c rfl (sh_sub_n))) (sl_82_56 e tg)
    · refine sh_Lk_lift (T := m.T) (I := m.I) (J := m.J) (s := m.s) (pc2 := 101) (lv2 := [(0, .ref 42), (1, .int x1)]) (st2 := []) (I2 := m.I) (J2 := m.J) (fun hT v kk => ?_) ?_
      · refine sh_jc (c := .ge) (off := (84)) (pc2 := 101) true rfl (sh_Bget c) rfl ?_
        exact kk
      obtain rfl := Option.some.inj e
      obtain ⟨rfl, rfl⟩ := tg
      exact sh_Lk_ret (i := .return_) rfl rfl rfl (Nat.le_of_ble_eq_true rfl) (Nat.le_of_ble_eq_true rfl)
  · refine sh_Lk_lift (T := m.T) (I := m.I) (J := m.J) (s := m.s) (pc2 := 101) (lv2 := [(0, .ref 42), (1, .int x1)]) (st2 := []) (I2 := m.I) (J2 := m.J) (fun hT v kk => ?_) ?_
    · refine sh_jc (c := .ge) (off := (91)) (pc2 := 101) true rfl (sh_Bget c) rfl ?_
      exact kk
    obtain rfl := Option.some.inj e
    obtain ⟨rfl, rfl⟩ := tg
    exact sh_Lk_ret (i := .return_) rfl rfl rfl (Nat.le_of_ble_eq_true rfl) (Nat.le_of_ble_eq_true rfl)
theorem sl_82_2 {x1 : Int32} {m m2 : sh_X} {o : Outcome} {z : (Option Unit × sh_X)} (e : sf_82_2 x1 m = some z) (tg : (sh_tVt o m2) z) : sh_Lk 82 2 [(0, .ref 42), (1, .int x1)] [] m o m2 11 271 := by
  unfold sf_82_2 at e
  exact sh_while_lk (P := fun q => sh_Lk 82 2 [(0, .ref 42), (1, .int q.1)] [] q.2 o m2 11 271) (Q := (sh_tVt o m2)) (fun q z e tg => sl_82_2s (x1 := q.1) (m := q.2) e tg) (s := (x1, m)) e tg
theorem sl_82 {m m2 : sh_X} {o : Outcome} {z : (Option Unit × sh_X)} (e : sf_82 m = some z) (tg : (sh_tVt o m2) z) : sh_Lk 82 0 [(0, .ref 42)] [] m o m2 11 271 := by
  unfold sf_82 at e
  refine sh_Lk_lift (T := m.T) (I := m.I) (J := m.J) (s := m.s) (pc2 := 2) (lv2 := [(1, .int 0), (0, .ref 42)]) (st2 := []) (I2 := m.I) (J2 := m.J) (fun hT v kk => ?_) ?_
  · refine sh_w (i := (.iconst 0)) (len := 1) (pc2 := 1) (lv2 := [(0, .ref 42)]) (st2 := [.int 0]) (h2 := (sh_rep m.T m.I m.J)) rfl rfl rfl ?_
    refine sh_w (i := (.istore_n 1)) (len := 1) (pc2 := 2) (lv2 := [(1, .int 0), (0, .ref 42)]) (st2 := []) (h2 := (sh_rep m.T m.I m.J)) rfl rfl rfl ?_
    exact kk
  exact sh_Lk_sub (sh_sub_c rfl (sh_sub_c rfl (sh_sub_n))) (sl_82_2 e tg)
theorem sl_87 {x1 : Int32} {m m2 : sh_X} {o : Outcome} {z : Int32} (e : sf_87 x1 m = some z) (tg : (sh_tIc m o m2) z) : sh_Lk 87 0 [(0, .ref 29), (1, .int x1)] [] m o m2 9 221 := by
  unfold sf_87 at e
  refine sh_Lk_lift (T := m.T) (I := m.I) (J := m.J) (s := m.s) (pc2 := 2) (lv2 := [(0, .ref 29), (1, .int x1)]) (st2 := [.int x1, .ref 29]) (I2 := m.I) (J2 := m.J) (fun hT v kk => ?_) ?_
  · refine sh_w (i := (.aload_n 0)) (len := 1) (pc2 := 1) (lv2 := [(0, .ref 29), (1, .int x1)]) (st2 := [.ref 29]) (h2 := (sh_rep m.T m.I m.J)) rfl rfl rfl ?_
    refine sh_w (i := (.iload_n 1)) (len := 1) (pc2 := 2) (lv2 := [(0, .ref 29), (1, .int x1)]) (st2 := [.int x1, .ref 29]) (h2 := (sh_rep m.T m.I m.J)) rfl rfl rfl ?_
    exact kk
  obtain ⟨r1, e1, e⟩ := sh_bc_e e
  refine sh_Lk_cV (r := (some (.int (sh_b2 r1)))) (st2 := [.int (sh_b2 r1)]) (pc2 := 5) (k2 := 64) (a := 28) (as := [.ref 29, .int x1]) (rest := []) rfl rfl rfl (fun hT => (sh_s28 hT.st)) rfl rfl ⟨Nat.le_of_ble_eq_true rfl, Nat.le_of_ble_eq_true rfl⟩ (sl_64 e1 ⟨rfl, rfl⟩) rfl rfl (Nat.le_of_ble_eq_true rfl) (Nat.le_of_ble_eq_true rfl) ?_
  rcases sh_ite e with ⟨c, e⟩ | ⟨c, e⟩
  · refine sh_Lk_lift (T := m.T) (I := m.I) (J := m.J) (s := m.s) (pc2 := 13) (lv2 := [(0, .ref 29), (1, .int x1)]) (st2 := [.int x1, .ref 38]) (I2 := m.I) (J2 := m.J) (fun hT v kk => ?_) ?_
    · refine sh_j0 (c := .eq) (off := (12)) (pc2 := 8) false rfl (sh_Zeqf c) rfl ?_
      refine sh_w (i := (.aload_n 0)) (len := 1) (pc2 := 9) (lv2 := [(0, .ref 29), (1, .int x1)]) (st2 := [.ref 29]) (h2 := (sh_rep m.T m.I m.J)) rfl rfl rfl ?_
      refine sh_gR1 (len := 3) (x := .ref 38) (pc2 := 12) rfl rfl (sh_s28 hT.st) rfl rfl ?_
      refine sh_w (i := (.iload_n 1)) (len := 1) (pc2 := 13) (lv2 := [(0, .ref 29), (1, .int x1)]) (st2 := [.int x1, .ref 38]) (h2 := (sh_rep m.T m.I m.J)) rfl rfl rfl ?_
      exact kk
    obtain ⟨c, e⟩ := sh_gd e
    refine sh_Lk_lift (T := m.T) (I := m.I) (J := m.J) (s := m.s) (pc2 := 18) (lv2 := [(0, .ref 29), (1, .int x1)]) (st2 := [.int (m.I 37 (Int32.toNatClampNeg x1))]) (I2 := m.I) (J2 := m.J) (fun hT v kk => ?_) ?_
    · refine sh_ia1 (x := m.I 37 (Int32.toNatClampNeg x1)) (pc2 := 14) rfl (sh_s37 hT.st) (sh_okb1 c) (sh_okb2 c) rfl rfl ?_
      refine sh_w (i := (.goto 4)) (len := 3) (pc2 := 18) (lv2 := [(0, .ref 29), (1, .int x1)]) (st2 := [.int (m.I 37 (Int32.toNatClampNeg x1))]) (h2 := (sh_rep m.T m.I m.J)) rfl rfl rfl ?_
      exact kk
    obtain rfl := Option.some.inj e
    obtain ⟨rfl, rfl⟩ := tg
    exact sh_Lk_ret (i := .ireturn) rfl rfl rfl (Nat.le_of_ble_eq_true rfl) (Nat.le_of_ble_eq_true rfl)
  · refine sh_Lk_lift (T := m.T) (I := m.I) (J := m.J) (s := m.s) (pc2 := 18) (lv2 := [(0, .ref 29), (1, .int x1)]) (st2 := [.int 0]) (I2 := m.I) (J2 := m.J) (fun hT v kk => ?_) ?_
    · refine sh_j0 (c := .eq) (off := (12)) (pc2 := 17) true rfl (sh_Zeqt c) rfl ?_
      refine sh_w (i := (.iconst 0)) (len := 1) (pc2 := 18) (lv2 := [(0, .ref 29), (1, .int x1)]) (st2 := [.int 0]) (h2 := (sh_rep m.T m.I m.J)) rfl rfl rfl ?_
      exact kk
    obtain rfl := Option.some.inj e
    obtain ⟨rfl, rfl⟩ := tg
    exact sh_Lk_ret (i := .ireturn) rfl rfl rfl (Nat.le_of_ble_eq_true rfl) (Nat.le_of_ble_eq_true rfl)
theorem sl_88 {x1 : Int32} {m m2 : sh_X} {o : Outcome} {z : Int32} (e : sf_88 x1 m = some z) (tg : (sh_tIc m o m2) z) : sh_Lk 88 0 [(0, .ref 29), (1, .int x1)] [] m o m2 9 221 := by
  unfold sf_88 at e
  refine sh_Lk_lift (T := m.T) (I := m.I) (J := m.J) (s := m.s) (pc2 := 2) (lv2 := [(0, .ref 29), (1, .int x1)]) (st2 := [.int x1, .ref 29]) (I2 := m.I) (J2 := m.J) (fun hT v kk => ?_) ?_
  · refine sh_w (i := (.aload_n 0)) (len := 1) (pc2 := 1) (lv2 := [(0, .ref 29), (1, .int x1)]) (st2 := [.ref 29]) (h2 := (sh_rep m.T m.I m.J)) rfl rfl rfl ?_
    refine sh_w (i := (.iload_n 1)) (len := 1) (pc2 := 2) (lv2 := [(0, .ref 29), (1, .int x1)]) (st2 := [.int x1, .ref 29]) (h2 := (sh_rep m.T m.I m.J)) rfl rfl rfl ?_
    exact kk
  obtain ⟨r1, e1, e⟩ := sh_bc_e e
  refine sh_Lk_cV (r := (some (.int (sh_b2 r1)))) (st2 := [.int (sh_b2 r1)]) (pc2 := 5) (k2 := 64) (a := 28) (as := [.ref 29, .int x1]) (rest := []) rfl rfl rfl (fun hT => (sh_s28 hT.st)) rfl rfl ⟨Nat.le_of_ble_eq_true rfl, Nat.le_of_ble_eq_true rfl⟩ (sl_64 e1 ⟨rfl, rfl⟩) rfl rfl (Nat.le_of_ble_eq_true rfl) (Nat.le_of_ble_eq_true rfl) ?_
  rcases sh_ite e with ⟨c, e⟩ | ⟨c, e⟩
  · refine sh_Lk_lift (T := m.T) (I := m.I) (J := m.J) (s := m.s) (pc2 := 13) (lv2 := [(0, .ref 29), (1, .int x1)]) (st2 := [.int x1, .ref 39]) (I2 := m.I) (J2 := m.J) (fun hT v kk => ?_) ?_
    · refine sh_j0 (c := .eq) (off := (12)) (pc2 := 8) false rfl (sh_Zeqf c) rfl ?_
      refine sh_w (i := (.aload_n 0)) (len := 1) (pc2 := 9) (lv2 := [(0, .ref 29), (1, .int x1)]) (st2 := [.ref 29]) (h2 := (sh_rep m.T m.I m.J)) rfl rfl rfl ?_
      refine sh_gR1 (len := 3) (x := .ref 39) (pc2 := 12) rfl rfl (sh_s28 hT.st) rfl rfl ?_
      refine sh_w (i := (.iload_n 1)) (len := 1) (pc2 := 13) (lv2 := [(0, .ref 29), (1, .int x1)]) (st2 := [.int x1, .ref 39]) (h2 := (sh_rep m.T m.I m.J)) rfl rfl rfl ?_
      exact kk
    obtain ⟨c, e⟩ := sh_gd e
    refine sh_Lk_lift (T := m.T) (I := m.I) (J := m.J) (s := m.s) (pc2 := 18) (lv2 := [(0, .ref 29), (1, .int x1)]) (st2 := [.int (m.I 38 (Int32.toNatClampNeg x1))]) (I2 := m.I) (J2 := m.J) (fun hT v kk => ?_) ?_
    · refine sh_ia1 (x := m.I 38 (Int32.toNatClampNeg x1)) (pc2 := 14) rfl (sh_s38 hT.st) (sh_okb1 c) (sh_okb2 c) rfl rfl ?_
      refine sh_w (i := (.goto 4)) (len := 3) (pc2 := 18) (lv2 := [(0, .ref 29), (1, .int x1)]) (st2 := [.int (m.I 38 (Int32.toNatClampNeg x1))]) (h2 := (sh_rep m.T m.I m.J)) rfl rfl rfl ?_
      exact kk
    obtain rfl := Option.some.inj e
    obtain ⟨rfl, rfl⟩ := tg
    exact sh_Lk_ret (i := .ireturn) rfl rfl rfl (Nat.le_of_ble_eq_true rfl) (Nat.le_of_ble_eq_true rfl)
  · refine sh_Lk_lift (T := m.T) (I := m.I) (J := m.J) (s := m.s) (pc2 := 18) (lv2 := [(0, .ref 29), (1, .int x1)]) (st2 := [.int 0]) (I2 := m.I) (J2 := m.J) (fun hT v kk => ?_) ?_
    · refine sh_j0 (c := .eq) (off := (12)) (pc2 := 17) true rfl (sh_Zeqt c) rfl ?_
      refine sh_w (i := (.iconst 0)) (len := 1) (pc2 := 18) (lv2 := [(0, .ref 29), (1, .int x1)]) (st2 := [.int 0]) (h2 := (sh_rep m.T m.I m.J)) rfl rfl rfl ?_
      exact kk
    obtain rfl := Option.some.inj e
    obtain ⟨rfl, rfl⟩ := tg
    exact sh_Lk_ret (i := .ireturn) rfl rfl rfl (Nat.le_of_ble_eq_true rfl) (Nat.le_of_ble_eq_true rfl)
theorem sl_89 {x1 : Int32} {m m2 : sh_X} {o : Outcome} {z : Int32} (e : sf_89 x1 m = some z) (tg : (sh_tIc m o m2) z) : sh_Lk 89 0 [(0, .ref 29), (1, .int x1)] [] m o m2 9 221 := by
  unfold sf_89 at e
  refine sh_Lk_lift (T := m.T) (I := m.I) (J := m.J) (s := m.s) (pc2 := 2) (lv2 := [(0, .ref 29), (1, .int x1)]) (st2 := [.int x1, .ref 29]) (I2 := m.I) (J2 := m.J) (fun hT v kk => ?_) ?_
  · refine sh_w (i := (.aload_n 0)) (len := 1) (pc2 := 1) (lv2 := [(0, .ref 29), (1, .int x1)]) (st2 := [.ref 29]) (h2 := (sh_rep m.T m.I m.J)) rfl rfl rfl ?_
    refine sh_w (i := (.iload_n 1)) (len := 1) (pc2 := 2) (lv2 := [(0, .ref 29), (1, .int x1)]) (st2 := [.int x1, .ref 29]) (h2 := (sh_rep m.T m.I m.J)) rfl rfl rfl ?_
    exact kk
  obtain ⟨r1, e1, e⟩ := sh_bc_e e
  refine sh_Lk_cV (r := (some (.int (sh_b2 r1)))) (st2 := [.int (sh_b2 r1)]) (pc2 := 5) (k2 := 64) (a := 28) (as := [.ref 29, .int x1]) (rest := []) rfl rfl rfl (fun hT => (sh_s28 hT.st)) rfl rfl ⟨Nat.le_of_ble_eq_true rfl, Nat.le_of_ble_eq_true rfl⟩ (sl_64 e1 ⟨rfl, rfl⟩) rfl rfl (Nat.le_of_ble_eq_true rfl) (Nat.le_of_ble_eq_true rfl) ?_
  rcases sh_ite e with ⟨c, e⟩ | ⟨c, e⟩
  · refine sh_Lk_lift (T := m.T) (I := m.I) (J := m.J) (s := m.s) (pc2 := 13) (lv2 := [(0, .ref 29), (1, .int x1)]) (st2 := [.int x1, .ref 37]) (I2 := m.I) (J2 := m.J) (fun hT v kk => ?_) ?_
    · refine sh_j0 (c := .eq) (off := (12)) (pc2 := 8) false rfl (sh_Zeqf c) rfl ?_
      refine sh_w (i := (.aload_n 0)) (len := 1) (pc2 := 9) (lv2 := [(0, .ref 29), (1, .int x1)]) (st2 := [.ref 29]) (h2 := (sh_rep m.T m.I m.J)) rfl rfl rfl ?_
      refine sh_gR1 (len := 3) (x := .ref 37) (pc2 := 12) rfl rfl (sh_s28 hT.st) rfl rfl ?_
      refine sh_w (i := (.iload_n 1)) (len := 1) (pc2 := 13) (lv2 := [(0, .ref 29), (1, .int x1)]) (st2 := [.int x1, .ref 37]) (h2 := (sh_rep m.T m.I m.J)) rfl rfl rfl ?_
      exact kk
    obtain ⟨c, e⟩ := sh_gd e
    refine sh_Lk_lift (T := m.T) (I := m.I) (J := m.J) (s := m.s) (pc2 := 18) (lv2 := [(0, .ref 29), (1, .int x1)]) (st2 := [.int (m.I 36 (Int32.toNatClampNeg x1))]) (I2 := m.I) (J2 := m.J) (fun hT v kk => ?_) ?_
    · refine sh_ia1 (x := m.I 36 (Int32.toNatClampNeg x1)) (pc2 := 14) rfl (sh_s36 hT.st) (sh_okb1 c) (sh_okb2 c) rfl rfl ?_
      refine sh_w (i := (.goto 4)) (len := 3) (pc2 := 18) (lv2 := [(0, .ref 29), (1, .int x1)]) (st2 := [.int (m.I 36 (Int32.toNatClampNeg x1))]) (h2 := (sh_rep m.T m.I m.J)) rfl rfl rfl ?_
      exact kk
    obtain rfl := Option.some.inj e
    obtain ⟨rfl, rfl⟩ := tg
    exact sh_Lk_ret (i := .ireturn) rfl rfl rfl (Nat.le_of_ble_eq_true rfl) (Nat.le_of_ble_eq_true rfl)
  · refine sh_Lk_lift (T := m.T) (I := m.I) (J := m.J) (s := m.s) (pc2 := 18) (lv2 := [(0, .ref 29), (1, .int x1)]) (st2 := [.int 0]) (I2 := m.I) (J2 := m.J) (fun hT v kk => ?_) ?_
    · refine sh_j0 (c := .eq) (off := (12)) (pc2 := 17) true rfl (sh_Zeqt c) rfl ?_
      refine sh_w (i := (.iconst 0)) (len := 1) (pc2 := 18) (lv2 := [(0, .ref 29), (1, .int x1)]) (st2 := [.int 0]) (h2 := (sh_rep m.T m.I m.J)) rfl rfl rfl ?_
      exact kk
    obtain rfl := Option.some.inj e
    obtain ⟨rfl, rfl⟩ := tg
    exact sh_Lk_ret (i := .ireturn) rfl rfl rfl (Nat.le_of_ble_eq_true rfl) (Nat.le_of_ble_eq_true rfl)
theorem sl_90 {x1 : Int32} {x2 : Int32} {m m2 : sh_X} {o : Outcome} {z : (Option Unit × sh_X)} (e : sf_90 x1 x2 m = some z) (tg : (sh_tVt o m2) z) : sh_Lk 90 0 [(0, .ref 42), (1, .int x1), (2, .int x2)] [] m o m2 9 222 := by
  unfold sf_90 at e
  refine sh_Lk_lift (T := m.T) (I := m.I) (J := m.J) (s := m.s) (pc2 := 17) (lv2 := [(0, .ref 42), (1, .int x1), (2, .int x2)]) (st2 := [.int 3000, .int ((m.I 41 14) + x1)]) (I2 := sh_u2 m.I 41 14 ((m.I 41 14) + x1)) (J2 := m.J) (fun hT v kk => ?_) ?_
  · refine sh_w (i := (.aload_n 0)) (len := 1) (pc2 := 1) (lv2 := [(0, .ref 42), (1, .int x1), (2, .int x2)]) (st2 := [.ref 42]) (h2 := (sh_rep m.T m.I m.J)) rfl rfl rfl ?_
    refine sh_w (i := .dup) (len := 1) (pc2 := 2) (lv2 := [(0, .ref 42), (1, .int x1), (2, .int x2)]) (st2 := [.ref 42, .ref 42]) (h2 := (sh_rep m.T m.I m.J)) rfl rfl rfl ?_
    refine sh_gI1 (len := 3) (x := m.I 41 14) (pc2 := 5) rfl rfl (sh_s41 hT.st) rfl rfl rfl ?_
    refine sh_w (i := (.iload_n 1)) (len := 1) (pc2 := 6) (lv2 := [(0, .ref 42), (1, .int x1), (2, .int x2)]) (st2 := [.int x1, .int (m.I 41 14), .ref 42]) (h2 := (sh_rep m.T m.I m.J)) rfl rfl rfl ?_
    refine sh_w (i := .iadd) (len := 1) (pc2 := 7) (lv2 := [(0, .ref 42), (1, .int x1), (2, .int x2)]) (st2 := [.int ((m.I 41 14) + x1), .ref 42]) (h2 := (sh_rep m.T m.I m.J)) rfl rfl rfl ?_
    refine sh_pI1 (x := (m.I 41 14) + x1) (pc2 := 10) rfl rfl (sh_s41 hT.st) rfl rfl rfl rfl ?_
    refine sh_w (i := (.aload_n 0)) (len := 1) (pc2 := 11) (lv2 := [(0, .ref 42), (1, .int x1), (2, .int x2)]) (st2 := [.ref 42]) (h2 := (sh_rep m.T (sh_u2 m.I 41 14 ((m.I 41 14) + x1)) m.J)) rfl rfl rfl ?_
    refine sh_gI1 (len := 3) (x := (m.I 41 14) + x1) (pc2 := 14) rfl rfl (sh_s41 hT.st) rfl rfl rfl ?_
    refine sh_w (i := (.sipush 3000)) (len := 3) (pc2 := 17) (lv2 := [(0, .ref 42), (1, .int x1), (2, .int x2)]) (st2 := [.int 3000, .int ((m.I 41 14) + x1)]) (h2 := (sh_rep m.T (sh_u2 m.I 41 14 ((m.I 41 14) + x1)) m.J)) rfl rfl rfl ?_
    exact kk
  rcases sh_ite e with ⟨c, e⟩ | ⟨c, e⟩
  · refine sh_Lk_lift (T := m.T) (I := sh_u2 m.I 41 14 ((m.I 41 14) + x1)) (J := m.J) (s := m.s) (pc2 := 27) (lv2 := [(0, .ref 42), (1, .int x1), (2, .int x2)]) (st2 := [.int x2, .int 6, .ref 3]) (I2 := sh_u2 m.I 41 14 ((m.I 41 14) + x1)) (J2 := m.J) (fun hT v kk => ?_) ?_
    · refine sh_jc (c := .le) (off := (13)) (pc2 := 20) false rfl (sh_Blef c) rfl ?_
      refine sh_w (i := (.aload_n 0)) (len := 1) (pc2 := 21) (lv2 := [(0, .ref 42), (1, .int x1), (2, .int x2)]) (st2 := [.ref 42]) (h2 := (sh_rep m.T (sh_u2 m.I 41 14 ((m.I 41 14) + x1)) m.J)) rfl rfl rfl ?_
      refine sh_gR1 (len := 3) (x := .ref 3) (pc2 := 24) rfl rfl (sh_s41 hT.st) rfl rfl ?_
      refine sh_w (i := (.bipush 6)) (len := 2) (pc2 := 26) (lv2 := [(0, .ref 42), (1, .int x1), (2, .int x2)]) (st2 := [.int 6, .ref 3]) (h2 := (sh_rep m.T (sh_u2 m.I 41 14 ((m.I 41 14) + x1)) m.J)) rfl rfl rfl ?_
      refine sh_w (i := (.iload_n 2)) (len := 1) (pc2 := 27) (lv2 := [(0, .ref 42), (1, .int x1), (2, .int x2)]) (st2 := [.int x2, .int 6, .ref 3]) (h2 := (sh_rep m.T (sh_u2 m.I 41 14 ((m.I 41 14) + x1)) m.J)) rfl rfl rfl ?_
      exact kk
    rcases sh_bt_e e with ⟨m11, e1, rfl⟩ | ⟨r1, m11, e1, e⟩
    · obtain ⟨rfl, rfl⟩ := tg
      exact sh_Lk_tV (k2 := 50) (a := 2) (as := [.ref 3, .int 6, .int x2]) (rest := []) rfl rfl rfl (fun hT => hT.t2) rfl rfl ⟨Nat.le_of_ble_eq_true rfl, Nat.le_of_ble_eq_true rfl⟩ (sl_50 e1 ⟨rfl, rfl⟩) rfl (Nat.le_of_ble_eq_true rfl) (Nat.le_of_ble_eq_true rfl) (Nat.le_of_ble_eq_true rfl) (Nat.le_of_ble_eq_true rfl) rfl
    refine sh_Lk_cV (r := none) (st2 := []) (pc2 := 30) (k2 := 50) (a := 2) (as := [.ref 3, .int 6, .int x2]) (rest := []) rfl rfl rfl (fun hT => hT.t2) rfl rfl ⟨Nat.le_of_ble_eq_true rfl, Nat.le_of_ble_eq_true rfl⟩ (sl_50 e1 ⟨rfl, rfl⟩) rfl rfl (Nat.le_of_ble_eq_true rfl) (Nat.le_of_ble_eq_true rfl) ?_
    obtain rfl := Option.some.inj e
    obtain ⟨rfl, rfl⟩ := tg
    exact sh_Lk_ret (i := .return_) rfl rfl rfl (Nat.le_of_ble_eq_true rfl) (Nat.le_of_ble_eq_true rfl)
  · refine sh_Lk_lift (T := m.T) (I := sh_u2 m.I 41 14 ((m.I 41 14) + x1)) (J := m.J) (s := m.s) (pc2 := 30) (lv2 := [(0, .ref 42), (1, .int x1), (2, .int x2)]) (st2 := []) (I2 := sh_u2 m.I 41 14 ((m.I 41 14) + x1)) (J2 := m.J) (fun hT v kk => ?_) ?_
    · refine sh_jc (c := .le) (off := (13)) (pc2 := 30) true rfl (sh_Blet c) rfl ?_
      exact kk
    obtain rfl := Option.some.inj e
    obtain ⟨rfl, rfl⟩ := tg
    exact sh_Lk_ret (i := .return_) rfl rfl rfl (Nat.le_of_ble_eq_true rfl) (Nat.le_of_ble_eq_true rfl)
theorem sl_42 {x0 : Int32} {x1 : Int32} {m m2 : sh_X} {o : Outcome} {z : Int32} (e : sf_42 x0 x1 = z) (tg : (sh_tIc m o m2) z) : sh_Lk 42 0 [(0, .int x0), (1, .int x1)] [] m o m2 8 200 := by
  unfold sf_42 at e
  refine sh_Lk_lift (T := m.T) (I := m.I) (J := m.J) (s := m.s) (pc2 := 2) (lv2 := [(0, .int x0), (1, .int x1)]) (st2 := [.int x1, .int x0]) (I2 := m.I) (J2 := m.J) (fun hT v kk => ?_) ?_
  · refine sh_w (i := (.iload_n 0)) (len := 1) (pc2 := 1) (lv2 := [(0, .int x0), (1, .int x1)]) (st2 := [.int x0]) (h2 := (sh_rep m.T m.I m.J)) rfl rfl rfl ?_
    refine sh_w (i := (.iload_n 1)) (len := 1) (pc2 := 2) (lv2 := [(0, .int x0), (1, .int x1)]) (st2 := [.int x1, .int x0]) (h2 := (sh_rep m.T m.I m.J)) rfl rfl rfl ?_
    exact kk
  rcases sh_ite e with ⟨c, e⟩ | ⟨c, e⟩
  · refine sh_Lk_lift (T := m.T) (I := m.I) (J := m.J) (s := m.s) (pc2 := 10) (lv2 := [(0, .int x0), (1, .int x1)]) (st2 := [.int x1]) (I2 := m.I) (J2 := m.J) (fun hT v kk => ?_) ?_
    · refine sh_jc (c := .lt) (off := (7)) (pc2 := 9) true rfl (sh_Bltt c) rfl ?_
      refine sh_w (i := (.iload_n 1)) (len := 1) (pc2 := 10) (lv2 := [(0, .int x0), (1, .int x1)]) (st2 := [.int x1]) (h2 := (sh_rep m.T m.I m.J)) rfl rfl rfl ?_
      exact kk
    obtain rfl := e
    obtain ⟨rfl, rfl⟩ := tg
    exact sh_Lk_ret (i := .ireturn) rfl rfl rfl (Nat.le_of_ble_eq_true rfl) (Nat.le_of_ble_eq_true rfl)
  · refine sh_Lk_lift (T := m.T) (I := m.I) (J := m.J) (s := m.s) (pc2 := 10) (lv2 := [(0, .int x0), (1, .int x1)]) (st2 := [.int x0]) (I2 := m.I) (J2 := m.J) (fun hT v kk => ?_) ?_
    · refine sh_jc (c := .lt) (off := (7)) (pc2 := 5) false rfl (sh_Bltf c) rfl ?_
      refine sh_w (i := (.iload_n 0)) (len := 1) (pc2 := 6) (lv2 := [(0, .int x0), (1, .int x1)]) (st2 := [.int x0]) (h2 := (sh_rep m.T m.I m.J)) rfl rfl rfl ?_
      refine sh_w (i := (.goto 4)) (len := 3) (pc2 := 10) (lv2 := [(0, .int x0), (1, .int x1)]) (st2 := [.int x0]) (h2 := (sh_rep m.T m.I m.J)) rfl rfl rfl ?_
      exact kk
    obtain rfl := e
    obtain ⟨rfl, rfl⟩ := tg
    exact sh_Lk_ret (i := .ireturn) rfl rfl rfl (Nat.le_of_ble_eq_true rfl) (Nat.le_of_ble_eq_true rfl)
theorem sl_92_7s {x1 : Int32} {x2 : Int32} {m m2 : sh_X} {o : Outcome} {z : (Int32 ⊕ Int32)} (e : sf_92_7s x1 x2 m = some z) (tg : (sh_el (fun q => sh_Lk 92 7 [(0, .ref 54), (1, .int x1), (2, .int q)] [] m o m2 8 200) (sh_tIc m o m2)) z) : sh_Lk 92 7 [(0, .ref 54), (1, .int x1), (2, .int x2)] [] m o m2 8 200 := by
  unfold sf_92_7s at e
  refine sh_Lk_lift (T := m.T) (I := m.I) (J := m.J) (s := m.s) (pc2 := 12) (lv2 := [(0, .ref 54), (1, .int x1), (2, .int x2)]) (st2 := [.int (m.I 53 5), .int x2]) (I2 := m.I) (J2 := m.J) (fun hT v kk => ?_) ?_
  · refine sh_w (i := (.iload_n 2)) (len := 1) (pc2 := 8) (lv2 := [(0, .ref 54), (1, .int x1), (2, .int x2)]) (st2 := [.int x2]) (h2 := (sh_rep m.T m.I m.J)) rfl rfl rfl ?_
    refine sh_w (i := (.aload_n 0)) (len := 1) (pc2 := 9) (lv2 := [(0, .ref 54), (1, .int x1), (2, .int x2)]) (st2 := [.ref 54, .int x2]) (h2 := (sh_rep m.T m.I m.J)) rfl rfl rfl ?_
    refine sh_gI1 (len := 3) (x := m.I 53 5) (pc2 := 12) rfl rfl (sh_s53 hT.st) rfl rfl rfl ?_
    exact kk
  rcases sh_ite e with ⟨c, e⟩ | ⟨c, e⟩
  · refine sh_Lk_lift (T := m.T) (I := m.I) (J := m.J) (s := m.s) (pc2 := 38) (lv2 := [(0, .ref 54), (1, .int x1), (2, .int x2)]) (st2 := [.int (-1)]) (I2 := m.I) (J2 := m.J) (fun hT v kk => ?_) ?_
    · refine sh_jc (c := .lt) (off := (25)) (pc2 := 37) true rfl (sh_Bltt c) rfl ?_
      refine sh_w (i := (.iconst (-1))) (len := 1) (pc2 := 38) (lv2 := [(0, .ref 54), (1, .int x1), (2, .int x2)]) (st2 := [.int (-1)]) (h2 := (sh_rep m.T m.I m.J)) rfl rfl rfl ?_
      exact kk
    obtain rfl := Option.some.inj e
    obtain ⟨rfl, rfl⟩ := tg
    exact sh_Lk_ret (i := .ireturn) rfl rfl rfl (Nat.le_of_ble_eq_true rfl) (Nat.le_of_ble_eq_true rfl)
  · refine sh_Lk_lift (T := m.T) (I := m.I) (J := m.J) (s := m.s) (pc2 := 16) (lv2 := [(0, .ref 54), (1, .int x1), (2, .int x2)]) (st2 := [.int x2]) (I2 := m.I) (J2 := m.J) (fun hT v kk => ?_) ?_
    · refine sh_jc (c := .lt) (off := (25)) (pc2 := 15) false rfl (sh_Bltf c) rfl ?_
      refine sh_w (i := (.iload_n 2)) (len := 1) (pc2 := 16) (lv2 := [(0, .ref 54), (1, .int x1), (2, .int x2)]) (st2 := [.int x2]) (h2 := (sh_rep m.T m.I m.J)) rfl rfl rfl ?_
      exact kk
    rcases sh_ite e with ⟨c, e⟩ | ⟨c, e⟩
    · refine sh_Lk_lift (T := m.T) (I := m.I) (J := m.J) (s := m.s) (pc2 := 38) (lv2 := [(0, .ref 54), (1, .int x1), (2, .int x2)]) (st2 := [.int (-1)]) (I2 := m.I) (J2 := m.J) (fun hT v kk => ?_) ?_
      · refine sh_j0 (c := .lt) (off := (21)) (pc2 := 37) true rfl (sh_Bltt c) rfl ?_
        refine sh_w (i := (.iconst (-1))) (len := 1) (pc2 := 38) (lv2 := [(0, .ref 54), (1, .int x1), (2, .int x2)]) (st2 := [.int (-1)]) (h2 := (sh_rep m.T m.I m.J)) rfl rfl rfl ?_
        exact kk
      obtain rfl := Option.some.inj e
      obtain ⟨rfl, rfl⟩ := tg
      exact sh_Lk_ret (i := .ireturn) rfl rfl rfl (Nat.le_of_ble_eq_true rfl) (Nat.le_of_ble_eq_true rfl)
    · refine sh_Lk_lift (T := m.T) (I := m.I) (J := m.J) (s := m.s) (pc2 := 24) (lv2 := [(0, .ref 54), (1, .int x1), (2, .int x2)]) (st2 := [.int x2, .ref 55]) (I2 := m.I) (J2 := m.J) (fun hT v kk => ?_) ?_
      · refine sh_j0 (c := .lt) (off := (21)) (pc2 := 19) false rfl (sh_Bltf c) rfl ?_
        refine sh_w (i := (.aload_n 0)) (len := 1) (pc2 := 20) (lv2 := [(0, .ref 54), (1, .int x1), (2, .int x2)]) (st2 := [.ref 54]) (h2 := (sh_rep m.T m.I m.J)) rfl rfl rfl ?_
        refine sh_gR1 (len := 3) (x := .ref 55) (pc2 := 23) rfl rfl (sh_s53 hT.st) rfl rfl ?_
        refine sh_w (i := (.iload_n 2)) (len := 1) (pc2 := 24) (lv2 := [(0, .ref 54), (1, .int x1), (2, .int x2)]) (st2 := [.int x2, .ref 55]) (h2 := (sh_rep m.T m.I m.J)) rfl rfl rfl ?_
        exact kk
      obtain ⟨c, e⟩ := sh_gd e
      refine sh_Lk_lift (T := m.T) (I := m.I) (J := m.J) (s := m.s) (pc2 := 26) (lv2 := [(0, .ref 54), (1, .int x1), (2, .int x2)]) (st2 := [.int x1, .int (m.I 54 (Int32.toNatClampNeg x2))]) (I2 := m.I) (J2 := m.J) (fun hT v kk => ?_) ?_
      · refine sh_ia1 (x := m.I 54 (Int32.toNatClampNeg x2)) (pc2 := 25) rfl (sh_s54 hT.st) (sh_okb1 c) (sh_okb2 c) rfl rfl ?_
        refine sh_w (i := (.iload_n 1)) (len := 1) (pc2 := 26) (lv2 := [(0, .ref 54), (1, .int x1), (2, .int x2)]) (st2 := [.int x1, .int (m.I 54 (Int32.toNatClampNeg x2))]) (h2 := (sh_rep m.T m.I m.J)) rfl rfl rfl ?_
        exact kk
      rcases sh_ite e with ⟨c, e⟩ | ⟨c, e⟩
      · refine sh_Lk_lift (T := m.T) (I := m.I) (J := m.J) (s := m.s) (pc2 := 30) (lv2 := [(0, .ref 54), (1, .int x1), (2, .int x2)]) (st2 := [.int x2]) (I2 := m.I) (J2 := m.J) (fun hT v kk => ?_) ?_
        · refine sh_jc (c := .ne) (off := (5)) (pc2 := 29) false rfl (sh_Bnef c) rfl ?_
          refine sh_w (i := (.iload_n 2)) (len := 1) (pc2 := 30) (lv2 := [(0, .ref 54), (1, .int x1), (2, .int x2)]) (st2 := [.int x2]) (h2 := (sh_rep m.T m.I m.J)) rfl rfl rfl ?_
          exact kk
        obtain rfl := Option.some.inj e
        obtain ⟨rfl, rfl⟩ := tg
        exact sh_Lk_ret (i := .ireturn) rfl rfl rfl (Nat.le_of_ble_eq_true rfl) (Nat.le_of_ble_eq_true rfl)
      · refine sh_Lk_lift (T := m.T) (I := m.I) (J := m.J) (s := m.s) (pc2 := 7) (lv2 := [(2, .int (x2 + (-1))), (0, .ref 54), (1, .int x1)]) (st2 := []) (I2 := m.I) (J2 := m.J) (fun hT v kk => ?_) ?_
        · refine sh_jc (c := .ne) (off := (5)) (pc2 := 31) true rfl (sh_Bnet c) rfl ?_
          refine sh_w (i := (.iinc 2 (-1))) (len := 3) (pc2 := 34) (lv2 := [(2, .int (x2 + (-1))), (0, .ref 54), (1, .int x1)]) (st2 := []) (h2 := (sh_rep m.T m.I m.J)) rfl rfl rfl ?_
          refine sh_w (i := (.goto (-27))) (len := 3) (pc2 := 7) (lv2 := [(2, .int (x2 + (-1))), (0, .ref 54), (1, .int x1)]) (st2 := []) (h2 := (sh_rep m.T m.I m.J)) rfl rfl rfl ?_
          exact kk
        obtain rfl := Option.some.inj e
        exact sh_Lk_sub (sh_sub_c rfl (sh_sub_c rfl (sh_sub_c rfl (sh_sub_n)))) tg
theorem sl_92_7 {x1 : Int32} {x2 : Int32} {m m2 : sh_X} {o : Outcome} {z : Int32} (e : sf_92_7 x1 x2 m = some z) (tg : (sh_tIc m o m2) z) : sh_Lk 92 7 [(0, .ref 54), (1, .int x1), (2, .int x2)] [] m o m2 8 200 := by
  unfold sf_92_7 at e
  exact sh_while_lk (P := fun q => sh_Lk 92 7 [(0, .ref 54), (1, .int x1), (2, .int q)] [] m o m2 8 200) (Q := (sh_tIc m o m2)) (fun q z e tg => sl_92_7s (x1 := x1) (x2 := q) (m := m) e tg) (s := x2) e tg
theorem sl_92 {x1 : Int32} {m m2 : sh_X} {o : Outcome} {z : Int32} (e : sf_92 x1 m = some z) (tg : (sh_tIc m o m2) z) : sh_Lk 92 0 [(0, .ref 54), (1, .int x1)] [] m o m2 8 200 := by
  unfold sf_92 at e
  refine sh_Lk_lift (T := m.T) (I := m.I) (J := m.J) (s := m.s) (pc2 := 7) (lv2 := [(2, .int ((m.I 53 4) - 1)), (0, .ref 54), (1, .int x1)]) (st2 := []) (I2 := m.I) (J2 := m.J) (fun hT v kk => ?_) ?_
  · refine sh_w (i := (.aload_n 0)) (len := 1) (pc2 := 1) (lv2 := [(0, .ref 54), (1, .int x1)]) (st2 := [.ref 54]) (h2 := (sh_rep m.T m.I m.J)) rfl rfl rfl ?_
    refine sh_gI1 (len := 3) (x := m.I 53 4) (pc2 := 4) rfl rfl (sh_s53 hT.st) rfl rfl rfl ?_
    refine sh_w (i := (.iconst 1)) (len := 1) (pc2 := 5) (lv2 := [(0, .ref 54), (1, .int x1)]) (st2 := [.int 1, .int (m.I 53 4)]) (h2 := (sh_rep m.T m.I m.J)) rfl rfl rfl ?_
    refine sh_w (i := .isub) (len := 1) (pc2 := 6) (lv2 := [(0, .ref 54), (1, .int x1)]) (st2 := [.int ((m.I 53 4) - 1)]) (h2 := (sh_rep m.T m.I m.J)) rfl rfl rfl ?_
    refine sh_w (i := (.istore_n 2)) (len := 1) (pc2 := 7) (lv2 := [(2, .int ((m.I 53 4) - 1)), (0, .ref 54), (1, .int x1)]) (st2 := []) (h2 := (sh_rep m.T m.I m.J)) rfl rfl rfl ?_
    exact kk
  exact sh_Lk_sub (sh_sub_c rfl (sh_sub_c rfl (sh_sub_c rfl (sh_sub_n)))) (sl_92_7 e tg)
theorem sl_93 {x0 : Int32} {m m2 : sh_X} {o : Outcome} {z : Int32} (e : sf_93 x0 = z) (tg : (sh_tIc m o m2) z) : sh_Lk 93 0 [(0, .int x0)] [] m o m2 8 200 := by
  unfold sf_93 at e
  refine sh_Lk_lift (T := m.T) (I := m.I) (J := m.J) (s := m.s) (pc2 := 5) (lv2 := [(0, .int x0)]) (st2 := [.int (x0 / 512)]) (I2 := m.I) (J2 := m.J) (fun hT v kk => ?_) ?_
  · refine sh_w (i := (.iload_n 0)) (len := 1) (pc2 := 1) (lv2 := [(0, .int x0)]) (st2 := [.int x0]) (h2 := (sh_rep m.T m.I m.J)) rfl rfl rfl ?_
    refine sh_w (i := (.sipush 512)) (len := 3) (pc2 := 4) (lv2 := [(0, .int x0)]) (st2 := [.int 512, .int x0]) (h2 := (sh_rep m.T m.I m.J)) rfl rfl rfl ?_
    refine sh_w (i := .idiv) (len := 1) (pc2 := 5) (lv2 := [(0, .int x0)]) (st2 := [.int (x0 / 512)]) (h2 := (sh_rep m.T m.I m.J)) rfl rfl rfl ?_
    exact kk
  obtain rfl := e
  obtain ⟨rfl, rfl⟩ := tg
  exact sh_Lk_ret (i := .ireturn) rfl rfl rfl (Nat.le_of_ble_eq_true rfl) (Nat.le_of_ble_eq_true rfl)
theorem sl_94 {x0 : Int32} {m m2 : sh_X} {o : Outcome} {z : Int32} (e : sf_94 x0 = z) (tg : (sh_tIc m o m2) z) : sh_Lk 94 0 [(0, .int x0)] [] m o m2 8 200 := by
  unfold sf_94 at e
  refine sh_Lk_lift (T := m.T) (I := m.I) (J := m.J) (s := m.s) (pc2 := 4) (lv2 := [(0, .int x0)]) (st2 := [.int (x0 &&& 127)]) (I2 := m.I) (J2 := m.J) (fun hT v kk => ?_) ?_
  · refine sh_w (i := (.iload_n 0)) (len := 1) (pc2 := 1) (lv2 := [(0, .int x0)]) (st2 := [.int x0]) (h2 := (sh_rep m.T m.I m.J)) rfl rfl rfl ?_
    refine sh_w (i := (.bipush 127)) (len := 2) (pc2 := 3) (lv2 := [(0, .int x0)]) (st2 := [.int 127, .int x0]) (h2 := (sh_rep m.T m.I m.J)) rfl rfl rfl ?_
    refine sh_w (i := .iand) (len := 1) (pc2 := 4) (lv2 := [(0, .int x0)]) (st2 := [.int (x0 &&& 127)]) (h2 := (sh_rep m.T m.I m.J)) rfl rfl rfl ?_
    exact kk
  obtain rfl := e
  obtain ⟨rfl, rfl⟩ := tg
  exact sh_Lk_ret (i := .ireturn) rfl rfl rfl (Nat.le_of_ble_eq_true rfl) (Nat.le_of_ble_eq_true rfl)
theorem sl_95 {x0 : Nat} {x1 : Int32} {x2 : Int32} {m m2 : sh_X} {o : Outcome} {z : Bool} (hx0 : sh_isE x0) (e : sf_95 x0 x1 x2 m = some z) (tg : (sh_tZc m o m2) z) : sh_Lk 95 0 [(0, .ref (x0 + 1)), (1, .int x1), (2, .int x2)] [] m o m2 8 200 := by
  unfold sf_95 at e
  rcases hx0 with rfl | rfl | rfl
  · refine sh_Lk_lift (T := m.T) (I := m.I) (J := m.J) (s := m.s) (pc2 := 9) (lv2 := [(0, .ref 14), (1, .int x1), (2, .int x2)]) (st2 := [.int 256, .int ((m.I 13 4) + x1)]) (I2 := m.I) (J2 := m.J) (fun hT v kk => ?_) ?_
    · refine sh_w (i := (.aload_n 0)) (len := 1) (pc2 := 1) (lv2 := [(0, .ref 14), (1, .int x1), (2, .int x2)]) (st2 := [.ref 14]) (h2 := (sh_rep m.T m.I m.J)) rfl rfl rfl ?_
      refine sh_gI1 (len := 3) (x := m.I 13 4) (pc2 := 4) rfl rfl (sh_s13 hT.st) rfl rfl rfl ?_
      refine sh_w (i := (.iload_n 1)) (len := 1) (pc2 := 5) (lv2 := [(0, .ref 14), (1, .int x1), (2, .int x2)]) (st2 := [.int x1, .int (m.I 13 4)]) (h2 := (sh_rep m.T m.I m.J)) rfl rfl rfl ?_
      refine sh_w (i := .iadd) (len := 1) (pc2 := 6) (lv2 := [(0, .ref 14), (1, .int x1), (2, .int x2)]) (st2 := [.int ((m.I 13 4) + x1)]) (h2 := (sh_rep m.T m.I m.J)) rfl rfl rfl ?_
      refine sh_w (i := (.sipush 256)) (len := 3) (pc2 := 9) (lv2 := [(0, .ref 14), (1, .int x1), (2, .int x2)]) (st2 := [.int 256, .int ((m.I 13 4) + x1)]) (h2 := (sh_rep m.T m.I m.J)) rfl rfl rfl ?_
      exact kk
    rcases sh_ite e with ⟨c, e⟩ | ⟨c, e⟩
    · refine sh_Lk_lift (T := m.T) (I := m.I) (J := m.J) (s := m.s) (pc2 := 31) (lv2 := [(0, .ref 14), (1, .int x1), (2, .int x2)]) (st2 := [.int 0]) (I2 := m.I) (J2 := m.J) (fun hT v kk => ?_) ?_
      · refine sh_jc (c := .gt) (off := (21)) (pc2 := 30) true rfl (sh_Bgtt c) rfl ?_
        refine sh_w (i := (.iconst 0)) (len := 1) (pc2 := 31) (lv2 := [(0, .ref 14), (1, .int x1), (2, .int x2)]) (st2 := [.int 0]) (h2 := (sh_rep m.T m.I m.J)) rfl rfl rfl ?_
        exact kk
      obtain rfl := Option.some.inj e
      obtain ⟨rfl, rfl⟩ := tg
      exact sh_Lk_ret (i := .ireturn) rfl rfl rfl (Nat.le_of_ble_eq_true rfl) (Nat.le_of_ble_eq_true rfl)
    · refine sh_Lk_lift (T := m.T) (I := m.I) (J := m.J) (s := m.s) (pc2 := 23) (lv2 := [(0, .ref 14), (1, .int x1), (2, .int x2)]) (st2 := [.int 1000, .int ((m.I 13 5) + (x1 * x2))]) (I2 := m.I) (J2 := m.J) (fun hT v kk => ?_) ?_
      · refine sh_jc (c := .gt) (off := (21)) (pc2 := 12) false rfl (sh_Bgtf c) rfl ?_
        refine sh_w (i := (.aload_n 0)) (len := 1) (pc2 := 13) (lv2 := [(0, .ref 14), (1, .int x1), (2, .int x2)]) (st2 := [.ref 14]) (h2 := (sh_rep m.T m.I m.J)) rfl rfl rfl ?_
        refine sh_gI1 (len := 3) (x := m.I 13 5) (pc2 := 16) rfl rfl (sh_s13 hT.st) rfl rfl rfl ?_
        refine sh_w (i := (.iload_n 1)) (len := 1) (pc2 := 17) (lv2 := [(0, .ref 14), (1, .int x1), (2, .int x2)]) (st2 := [.int x1, .int (m.I 13 5)]) (h2 := (sh_rep m.T m.I m.J)) rfl rfl rfl ?_
        refine sh_w (i := (.iload_n 2)) (len := 1) (pc2 := 18) (lv2 := [(0, .ref 14), (1, .int x1), (2, .int x2)]) (st2 := [.int x2, .int x1, .int (m.I 13 5)]) (h2 := (sh_rep m.T m.I m.J)) rfl rfl rfl ?_
        refine sh_w (i := .imul) (len := 1) (pc2 := 19) (lv2 := [(0, .ref 14), (1, .int x1), (2, .int x2)]) (st2 := [.int (x1 * x2), .int (m.I 13 5)]) (h2 := (sh_rep m.T m.I m.J)) rfl rfl rfl ?_
        refine sh_w (i := .iadd) (len := 1) (pc2 := 20) (lv2 := [(0, .ref 14), (1, .int x1), (2, .int x2)]) (st2 := [.int ((m.I 13 5) + (x1 * x2))]) (h2 := (sh_rep m.T m.I m.J)) rfl rfl rfl ?_
        refine sh_w (i := (.sipush 1000)) (len := 3) (pc2 := 23) (lv2 := [(0, .ref 14), (1, .int x1), (2, .int x2)]) (st2 := [.int 1000, .int ((m.I 13 5) + (x1 * x2))]) (h2 := (sh_rep m.T m.I m.J)) rfl rfl rfl ?_
        exact kk
      rcases sh_ite e with ⟨c, e⟩ | ⟨c, e⟩
      · refine sh_Lk_lift (T := m.T) (I := m.I) (J := m.J) (s := m.s) (pc2 := 31) (lv2 := [(0, .ref 14), (1, .int x1), (2, .int x2)]) (st2 := [.int 0]) (I2 := m.I) (J2 := m.J) (fun hT v kk => ?_) ?_
        · refine sh_jc (c := .gt) (off := (7)) (pc2 := 30) true rfl (sh_Bgtt c) rfl ?_
          refine sh_w (i := (.iconst 0)) (len := 1) (pc2 := 31) (lv2 := [(0, .ref 14), (1, .int x1), (2, .int x2)]) (st2 := [.int 0]) (h2 := (sh_rep m.T m.I m.J)) rfl rfl rfl ?_
          exact kk
        obtain rfl := Option.some.inj e
        obtain ⟨rfl, rfl⟩ := tg
        exact sh_Lk_ret (i := .ireturn) rfl rfl rfl (Nat.le_of_ble_eq_true rfl) (Nat.le_of_ble_eq_true rfl)
      · refine sh_Lk_lift (T := m.T) (I := m.I) (J := m.J) (s := m.s) (pc2 := 31) (lv2 := [(0, .ref 14), (1, .int x1), (2, .int x2)]) (st2 := [.int 1]) (I2 := m.I) (J2 := m.J) (fun hT v kk => ?_) ?_
        · refine sh_jc (c := .gt) (off := (7)) (pc2 := 26) false rfl (sh_Bgtf c) rfl ?_
          refine sh_w (i := (.iconst 1)) (len := 1) (pc2 := 27) (lv2 := [(0, .ref 14), (1, .int x1), (2, .int x2)]) (st2 := [.int 1]) (h2 := (sh_rep m.T m.I m.J)) rfl rfl rfl ?_
          refine sh_w (i := (.goto 4)) (len := 3) (pc2 := 31) (lv2 := [(0, .ref 14), (1, .int x1), (2, .int x2)]) (st2 := [.int 1]) (h2 := (sh_rep m.T m.I m.J)) rfl rfl rfl ?_
          exact kk
        obtain rfl := Option.some.inj e
        obtain ⟨rfl, rfl⟩ := tg
        exact sh_Lk_ret (i := .ireturn) rfl rfl rfl (Nat.le_of_ble_eq_true rfl) (Nat.le_of_ble_eq_true rfl)
  · refine sh_Lk_lift (T := m.T) (I := m.I) (J := m.J) (s := m.s) (pc2 := 9) (lv2 := [(0, .ref 19), (1, .int x1), (2, .int x2)]) (st2 := [.int 256, .int ((m.I 18 4) + x1)]) (I2 := m.I) (J2 := m.J) (fun hT v kk => ?_) ?_
    · refine sh_w (i := (.aload_n 0)) (len := 1) (pc2 := 1) (lv2 := [(0, .ref 19), (1, .int x1), (2, .int x2)]) (st2 := [.ref 19]) (h2 := (sh_rep m.T m.I m.J)) rfl rfl rfl ?_
      refine sh_gI1 (len := 3) (x := m.I 18 4) (pc2 := 4) rfl rfl (sh_s18 hT.st) rfl rfl rfl ?_
      refine sh_w (i := (.iload_n 1)) (len := 1) (pc2 := 5) (lv2 := [(0, .ref 19), (1, .int x1), (2, .int x2)]) (st2 := [.int x1, .int (m.I 18 4)]) (h2 := (sh_rep m.T m.I m.J)) rfl rfl rfl ?_
      refine sh_w (i := .iadd) (len := 1) (pc2 := 6) (lv2 := [(0, .ref 19), (1, .int x1), (2, .int x2)]) (st2 := [.int ((m.I 18 4) + x1)]) (h2 := (sh_rep m.T m.I m.J)) rfl rfl rfl ?_
      refine sh_w (i := (.sipush 256)) (len := 3) (pc2 := 9) (lv2 := [(0, .ref 19), (1, .int x1), (2, .int x2)]) (st2 := [.int 256, .int ((m.I 18 4) + x1)]) (h2 := (sh_rep m.T m.I m.J)) rfl rfl rfl ?_
      exact kk
    rcases sh_ite e with ⟨c, e⟩ | ⟨c, e⟩
    · refine sh_Lk_lift (T := m.T) (I := m.I) (J := m.J) (s := m.s) (pc2 := 31) (lv2 := [(0, .ref 19), (1, .int x1), (2, .int x2)]) (st2 := [.int 0]) (I2 := m.I) (J2 := m.J) (fun hT v kk => ?_) ?_
      · refine sh_jc (c := .gt) (off := (21)) (pc2 := 30) true rfl (sh_Bgtt c) rfl ?_
        refine sh_w (i := (.iconst 0)) (len := 1) (pc2 := 31) (lv2 := [(0, .ref 19), (1, .int x1), (2, .int x2)]) (st2 := [.int 0]) (h2 := (sh_rep m.T m.I m.J)) rfl rfl rfl ?_
        exact kk
      obtain rfl := Option.some.inj e
      obtain ⟨rfl, rfl⟩ := tg
      exact sh_Lk_ret (i := .ireturn) rfl rfl rfl (Nat.le_of_ble_eq_true rfl) (Nat.le_of_ble_eq_true rfl)
    · refine sh_Lk_lift (T := m.T) (I := m.I) (J := m.J) (s := m.s) (pc2 := 23) (lv2 := [(0, .ref 19), (1, .int x1), (2, .int x2)]) (st2 := [.int 1000, .int ((m.I 18 5) + (x1 * x2))]) (I2 := m.I) (J2 := m.J) (fun hT v kk => ?_) ?_
      · refine sh_jc (c := .gt) (off := (21)) (pc2 := 12) false rfl (sh_Bgtf c) rfl ?_
        refine sh_w (i := (.aload_n 0)) (len := 1) (pc2 := 13) (lv2 := [(0, .ref 19), (1, .int x1), (2, .int x2)]) (st2 := [.ref 19]) (h2 := (sh_rep m.T m.I m.J)) rfl rfl rfl ?_
        refine sh_gI1 (len := 3) (x := m.I 18 5) (pc2 := 16) rfl rfl (sh_s18 hT.st) rfl rfl rfl ?_
        refine sh_w (i := (.iload_n 1)) (len := 1) (pc2 := 17) (lv2 := [(0, .ref 19), (1, .int x1), (2, .int x2)]) (st2 := [.int x1, .int (m.I 18 5)]) (h2 := (sh_rep m.T m.I m.J)) rfl rfl rfl ?_
        refine sh_w (i := (.iload_n 2)) (len := 1) (pc2 := 18) (lv2 := [(0, .ref 19), (1, .int x1), (2, .int x2)]) (st2 := [.int x2, .int x1, .int (m.I 18 5)]) (h2 := (sh_rep m.T m.I m.J)) rfl rfl rfl ?_
        refine sh_w (i := .imul) (len := 1) (pc2 := 19) (lv2 := [(0, .ref 19), (1, .int x1), (2, .int x2)]) (st2 := [.int (x1 * x2), .int (m.I 18 5)]) (h2 := (sh_rep m.T m.I m.J)) rfl rfl rfl ?_
        refine sh_w (i := .iadd) (len := 1) (pc2 := 20) (lv2 := [(0, .ref 19), (1, .int x1), (2, .int x2)]) (st2 := [.int ((m.I 18 5) + (x1 * x2))]) (h2 := (sh_rep m.T m.I m.J)) rfl rfl rfl ?_
        refine sh_w (i := (.sipush 1000)) (len := 3) (pc2 := 23) (lv2 := [(0, .ref 19), (1, .int x1), (2, .int x2)]) (st2 := [.int 1000, .int ((m.I 18 5) + (x1 * x2))]) (h2 := (sh_rep m.T m.I m.J)) rfl rfl rfl ?_
        exact kk
      rcases sh_ite e with ⟨c, e⟩ | ⟨c, e⟩
      · refine sh_Lk_lift (T := m.T) (I := m.I) (J := m.J) (s := m.s) (pc2 := 31) (lv2 := [(0, .ref 19), (1, .int x1), (2, .int x2)]) (st2 := [.int 0]) (I2 := m.I) (J2 := m.J) (fun hT v kk => ?_) ?_
        · refine sh_jc (c := .gt) (off := (7)) (pc2 := 30) true rfl (sh_Bgtt c) rfl ?_
          refine sh_w (i := (.iconst 0)) (len := 1) (pc2 := 31) (lv2 := [(0, .ref 19), (1, .int x1), (2, .int x2)]) (st2 := [.int 0]) (h2 := (sh_rep m.T m.I m.J)) rfl rfl rfl ?_
          exact kk
        obtain rfl := Option.some.inj e
        obtain ⟨rfl, rfl⟩ := tg
        exact sh_Lk_ret (i := .ireturn) rfl rfl rfl (Nat.le_of_ble_eq_true rfl) (Nat.le_of_ble_eq_true rfl)
      · refine sh_Lk_lift (T := m.T) (I := m.I) (J := m.J) (s := m.s) (pc2 := 31) (lv2 := [(0, .ref 19), (1, .int x1), (2, .int x2)]) (st2 := [.int 1]) (I2 := m.I) (J2 := m.J) (fun hT v kk => ?_) ?_
        · refine sh_jc (c := .gt) (off := (7)) (pc2 := 26) false rfl (sh_Bgtf c) rfl ?_
          refine sh_w (i := (.iconst 1)) (len := 1) (pc2 := 27) (lv2 := [(0, .ref 19), (1, .int x1), (2, .int x2)]) (st2 := [.int 1]) (h2 := (sh_rep m.T m.I m.J)) rfl rfl rfl ?_
          refine sh_w (i := (.goto 4)) (len := 3) (pc2 := 31) (lv2 := [(0, .ref 19), (1, .int x1), (2, .int x2)]) (st2 := [.int 1]) (h2 := (sh_rep m.T m.I m.J)) rfl rfl rfl ?_
          exact kk
        obtain rfl := Option.some.inj e
        obtain ⟨rfl, rfl⟩ := tg
        exact sh_Lk_ret (i := .ireturn) rfl rfl rfl (Nat.le_of_ble_eq_true rfl) (Nat.le_of_ble_eq_true rfl)
  · refine sh_Lk_lift (T := m.T) (I := m.I) (J := m.J) (s := m.s) (pc2 := 9) (lv2 := [(0, .ref 24), (1, .int x1), (2, .int x2)]) (st2 := [.int 256, .int ((m.I 23 4) + x1)]) (I2 := m.I) (J2 := m.J) (fun hT v kk => ?_) ?_
    · refine sh_w (i := (.aload_n 0)) (len := 1) (pc2 := 1) (lv2 := [(0, .ref 24), (1, .int x1), (2, .int x2)]) (st2 := [.ref 24]) (h2 := (sh_rep m.T m.I m.J)) rfl rfl rfl ?_
      refine sh_gI1 (len := 3) (x := m.I 23 4) (pc2 := 4) rfl rfl (sh_s23 hT.st) rfl rfl rfl ?_
      refine sh_w (i := (.iload_n 1)) (len := 1) (pc2 := 5) (lv2 := [(0, .ref 24), (1, .int x1), (2, .int x2)]) (st2 := [.int x1, .int (m.I 23 4)]) (h2 := (sh_rep m.T m.I m.J)) rfl rfl rfl ?_
      refine sh_w (i := .iadd) (len := 1) (pc2 := 6) (lv2 := [(0, .ref 24), (1, .int x1), (2, .int x2)]) (st2 := [.int ((m.I 23 4) + x1)]) (h2 := (sh_rep m.T m.I m.J)) rfl rfl rfl ?_
      refine sh_w (i := (.sipush 256)) (len := 3) (pc2 := 9) (lv2 := [(0, .ref 24), (1, .int x1), (2, .int x2)]) (st2 := [.int 256, .int ((m.I 23 4) + x1)]) (h2 := (sh_rep m.T m.I m.J)) rfl rfl rfl ?_
      exact kk
    rcases sh_ite e with ⟨c, e⟩ | ⟨c, e⟩
    · refine sh_Lk_lift (T := m.T) (I := m.I) (J := m.J) (s := m.s) (pc2 := 31) (lv2 := [(0, .ref 24), (1, .int x1), (2, .int x2)]) (st2 := [.int 0]) (I2 := m.I) (J2 := m.J) (fun hT v kk => ?_) ?_
      · refine sh_jc (c := .gt) (off := (21)) (pc2 := 30) true rfl (sh_Bgtt c) rfl ?_
        refine sh_w (i := (.iconst 0)) (len := 1) (pc2 := 31) (lv2 := [(0, .ref 24), (1, .int x1), (2, .int x2)]) (st2 := [.int 0]) (h2 := (sh_rep m.T m.I m.J)) rfl rfl rfl ?_
        exact kk
      obtain rfl := Option.some.inj e
      obtain ⟨rfl, rfl⟩ := tg
      exact sh_Lk_ret (i := .ireturn) rfl rfl rfl (Nat.le_of_ble_eq_true rfl) (Nat.le_of_ble_eq_true rfl)
    · refine sh_Lk_lift (T := m.T) (I := m.I) (J := m.J) (s := m.s) (pc2 := 23) (lv2 := [(0, .ref 24), (1, .int x1), (2, .int x2)]) (st2 := [.int 1000, .int ((m.I 23 5) + (x1 * x2))]) (I2 := m.I) (J2 := m.J) (fun hT v kk => ?_) ?_
      · refine sh_jc (c := .gt) (off := (21)) (pc2 := 12) false rfl (sh_Bgtf c) rfl ?_
        refine sh_w (i := (.aload_n 0)) (len := 1) (pc2 := 13) (lv2 := [(0, .ref 24), (1, .int x1), (2, .int x2)]) (st2 := [.ref 24]) (h2 := (sh_rep m.T m.I m.J)) rfl rfl rfl ?_
        refine sh_gI1 (len := 3) (x := m.I 23 5) (pc2 := 16) rfl rfl (sh_s23 hT.st) rfl rfl rfl ?_
        refine sh_w (i := (.iload_n 1)) (len := 1) (pc2 := 17) (lv2 := [(0, .ref 24), (1, .int x1), (2, .int x2)]) (st2 := [.int x1, .int (m.I 23 5)]) (h2 := (sh_rep m.T m.I m.J)) rfl rfl rfl ?_
        refine sh_w (i := (.iload_n 2)) (len := 1) (pc2 := 18) (lv2 := [(0, .ref 24), (1, .int x1), (2, .int x2)]) (st2 := [.int x2, .int x1, .int (m.I 23 5)]) (h2 := (sh_rep m.T m.I m.J)) rfl rfl rfl ?_
        refine sh_w (i := .imul) (len := 1) (pc2 := 19) (lv2 := [(0, .ref 24), (1, .int x1), (2, .int x2)]) (st2 := [.int (x1 * x2), .int (m.I 23 5)]) (h2 := (sh_rep m.T m.I m.J)) rfl rfl rfl ?_
        refine sh_w (i := .iadd) (len := 1) (pc2 := 20) (lv2 := [(0, .ref 24), (1, .int x1), (2, .int x2)]) (st2 := [.int ((m.I 23 5) + (x1 * x2))]) (h2 := (sh_rep m.T m.I m.J)) rfl rfl rfl ?_
        refine sh_w (i := (.sipush 1000)) (len := 3) (pc2 := 23) (lv2 := [(0, .ref 24), (1, .int x1), (2, .int x2)]) (st2 := [.int 1000, .int ((m.I 23 5) + (x1 * x2))]) (h2 := (sh_rep m.T m.I m.J)) rfl rfl rfl ?_
        exact kk
      rcases sh_ite e with ⟨c, e⟩ | ⟨c, e⟩
      · refine sh_Lk_lift (T := m.T) (I := m.I) (J := m.J) (s := m.s) (pc2 := 31) (lv2 := [(0, .ref 24), (1, .int x1), (2, .int x2)]) (st2 := [.int 0]) (I2 := m.I) (J2 := m.J) (fun hT v kk => ?_) ?_
        · refine sh_jc (c := .gt) (off := (7)) (pc2 := 30) true rfl (sh_Bgtt c) rfl ?_
          refine sh_w (i := (.iconst 0)) (len := 1) (pc2 := 31) (lv2 := [(0, .ref 24), (1, .int x1), (2, .int x2)]) (st2 := [.int 0]) (h2 := (sh_rep m.T m.I m.J)) rfl rfl rfl ?_
          exact kk
        obtain rfl := Option.some.inj e
        obtain ⟨rfl, rfl⟩ := tg
        exact sh_Lk_ret (i := .ireturn) rfl rfl rfl (Nat.le_of_ble_eq_true rfl) (Nat.le_of_ble_eq_true rfl)
      · refine sh_Lk_lift (T := m.T) (I := m.I) (J := m.J) (s := m.s) (pc2 := 31) (lv2 := [(0, .ref 24), (1, .int x1), (2, .int x2)]) (st2 := [.int 1]) (I2 := m.I) (J2 := m.J) (fun hT v kk => ?_) ?_
        · refine sh_jc (c := .gt) (off := (7)) (pc2 := 26) false rfl (sh_Bgtf c) rfl ?_
          refine sh_w (i := (.iconst 1)) (len := 1) (pc2 := 27) (lv2 := [(0, .ref 24), (1, .int x1), (2, .int x2)]) (st2 := [.int 1]) (h2 := (sh_rep m.T m.I m.J)) rfl rfl rfl ?_
          refine sh_w (i := (.goto 4)) (len := 3) (pc2 := 31) (lv2 := [(0, .ref 24), (1, .int x1), (2, .int x2)]) (st2 := [.int 1]) (h2 := (sh_rep m.T m.I m.J)) rfl rfl rfl ?_
          exact kk
        obtain rfl := Option.some.inj e
        obtain ⟨rfl, rfl⟩ := tg
        exact sh_Lk_ret (i := .ireturn) rfl rfl rfl (Nat.le_of_ble_eq_true rfl) (Nat.le_of_ble_eq_true rfl)
theorem sl_96 {x0 : Int32} {m m2 : sh_X} {o : Outcome} {z : Int32} (e : sf_96 x0 = z) (tg : (sh_tIc m o m2) z) : sh_Lk 96 0 [(0, .int x0)] [] m o m2 9 221 := by
  unfold sf_96 at e
  refine sh_Lk_lift (T := m.T) (I := m.I) (J := m.J) (s := m.s) (pc2 := 1) (lv2 := [(0, .int x0)]) (st2 := [.int x0]) (I2 := m.I) (J2 := m.J) (fun hT v kk => ?_) ?_
  · refine sh_w (i := (.iload_n 0)) (len := 1) (pc2 := 1) (lv2 := [(0, .int x0)]) (st2 := [.int x0]) (h2 := (sh_rep m.T m.I m.J)) rfl rfl rfl ?_
    exact kk
  refine sh_Lk_cS (r := (some (.int (sf_94 x0)))) (st2 := [.int (sf_94 x0)]) (pc2 := 4) (k2 := 94) (as := [.int x0]) (rest := []) rfl rfl (by decide) (Nat.le_of_ble_eq_true rfl) rfl rfl ⟨Nat.le_of_ble_eq_true rfl, Nat.le_of_ble_eq_true rfl⟩ (sl_94 (m := m) rfl ⟨rfl, rfl⟩) rfl rfl (Nat.le_of_ble_eq_true rfl) (Nat.le_of_ble_eq_true rfl) ?_
  refine sh_Lk_lift (T := m.T) (I := m.I) (J := m.J) (s := m.s) (pc2 := 6) (lv2 := [(0, .int x0)]) (st2 := [.int x0, .int 1, .int (sf_94 x0)]) (I2 := m.I) (J2 := m.J) (fun hT v kk => ?_) ?_
  · refine sh_w (i := (.iconst 1)) (len := 1) (pc2 := 5) (lv2 := [(0, .int x0)]) (st2 := [.int 1, .int (sf_94 x0)]) (h2 := (sh_rep m.T m.I m.J)) rfl rfl rfl ?_
    refine sh_w (i := (.iload_n 0)) (len := 1) (pc2 := 6) (lv2 := [(0, .int x0)]) (st2 := [.int x0, .int 1, .int (sf_94 x0)]) (h2 := (sh_rep m.T m.I m.J)) rfl rfl rfl ?_
    exact kk
  refine sh_Lk_cS (r := (some (.int (sf_93 x0)))) (st2 := [.int (sf_93 x0), .int 1, .int (sf_94 x0)]) (pc2 := 9) (k2 := 93) (as := [.int x0]) (rest := [.int 1, .int (sf_94 x0)]) rfl rfl (by decide) (Nat.le_of_ble_eq_true rfl) rfl rfl ⟨Nat.le_of_ble_eq_true rfl, Nat.le_of_ble_eq_true rfl⟩ (sl_93 (m := m) rfl ⟨rfl, rfl⟩) rfl rfl (Nat.le_of_ble_eq_true rfl) (Nat.le_of_ble_eq_true rfl) ?_
  refine sh_Lk_cS (r := (some (.int (sf_42 1 (sf_93 x0))))) (st2 := [.int (sf_42 1 (sf_93 x0)), .int (sf_94 x0)]) (pc2 := 12) (k2 := 42) (as := [.int 1, .int (sf_93 x0)]) (rest := [.int (sf_94 x0)]) rfl rfl (by decide) (Nat.le_of_ble_eq_true rfl) rfl rfl ⟨Nat.le_of_ble_eq_true rfl, Nat.le_of_ble_eq_true rfl⟩ (sl_42 (m := m) rfl ⟨rfl, rfl⟩) rfl rfl (Nat.le_of_ble_eq_true rfl) (Nat.le_of_ble_eq_true rfl) ?_
  refine sh_Lk_lift (T := m.T) (I := m.I) (J := m.J) (s := m.s) (pc2 := 13) (lv2 := [(0, .int x0)]) (st2 := [.int ((sf_94 x0) * (sf_42 1 (sf_93 x0)))]) (I2 := m.I) (J2 := m.J) (fun hT v kk => ?_) ?_
  · refine sh_w (i := .imul) (len := 1) (pc2 := 13) (lv2 := [(0, .int x0)]) (st2 := [.int ((sf_94 x0) * (sf_42 1 (sf_93 x0)))]) (h2 := (sh_rep m.T m.I m.J)) rfl rfl rfl ?_
    exact kk
  obtain rfl := e
  obtain ⟨rfl, rfl⟩ := tg
  exact sh_Lk_ret (i := .ireturn) rfl rfl rfl (Nat.le_of_ble_eq_true rfl) (Nat.le_of_ble_eq_true rfl)
theorem sl_98 {x1 : Int32} {m m2 : sh_X} {o : Outcome} {z : (Int32 × sh_X)} (e : sf_98 x1 m = some z) (tg : (sh_tI o m2) z) : sh_Lk 98 0 [(0, .ref 45), (1, .int x1)] [] m o m2 8 200 := by
  unfold sf_98 at e
  refine sh_Lk_lift (T := m.T) (I := m.I) (J := m.J) (s := m.s) (pc2 := 1) (lv2 := [(0, .ref 45), (1, .int x1)]) (st2 := [.int x1]) (I2 := m.I) (J2 := m.J) (fun hT v kk => ?_) ?_
  · refine sh_w (i := (.iload_n 1)) (len := 1) (pc2 := 1) (lv2 := [(0, .ref 45), (1, .int x1)]) (st2 := [.int x1]) (h2 := (sh_rep m.T m.I m.J)) rfl rfl rfl ?_
    exact kk
  rcases sh_ite e with ⟨c, e⟩ | ⟨c, e⟩
  · refine sh_Lk_lift (T := m.T) (I := m.I) (J := m.J) (s := m.s) (pc2 := 17) (lv2 := [(0, .ref 45), (1, .int x1)]) (st2 := [.int 0]) (I2 := m.I) (J2 := m.J) (fun hT v kk => ?_) ?_
    · refine sh_j0 (c := .lt) (off := (15)) (pc2 := 16) true rfl (sh_Bltt c) rfl ?_
      refine sh_w (i := (.iconst 0)) (len := 1) (pc2 := 17) (lv2 := [(0, .ref 45), (1, .int x1)]) (st2 := [.int 0]) (h2 := (sh_rep m.T m.I m.J)) rfl rfl rfl ?_
      exact kk
    obtain rfl := Option.some.inj e
    obtain ⟨rfl, rfl⟩ := tg
    exact sh_Lk_ret (i := .ireturn) rfl rfl rfl (Nat.le_of_ble_eq_true rfl) (Nat.le_of_ble_eq_true rfl)
  · refine sh_Lk_lift (T := m.T) (I := m.I) (J := m.J) (s := m.s) (pc2 := 13) (lv2 := [(0, .ref 45), (1, .int x1)]) (st2 := [.int (8192 - (m.I 44 4)), .int x1]) (I2 := m.I) (J2 := m.J) (fun hT v kk => ?_) ?_
    · refine sh_j0 (c := .lt) (off := (15)) (pc2 := 4) false rfl (sh_Bltf c) rfl ?_
      refine sh_w (i := (.iload_n 1)) (len := 1) (pc2 := 5) (lv2 := [(0, .ref 45), (1, .int x1)]) (st2 := [.int x1]) (h2 := (sh_rep m.T m.I m.J)) rfl rfl rfl ?_
      refine sh_w (i := (.sipush 8192)) (len := 3) (pc2 := 8) (lv2 := [(0, .ref 45), (1, .int x1)]) (st2 := [.int 8192, .int x1]) (h2 := (sh_rep m.T m.I m.J)) rfl rfl rfl ?_
      refine sh_w (i := (.aload_n 0)) (len := 1) (pc2 := 9) (lv2 := [(0, .ref 45), (1, .int x1)]) (st2 := [.ref 45, .int 8192, .int x1]) (h2 := (sh_rep m.T m.I m.J)) rfl rfl rfl ?_
      refine sh_gI1 (len := 3) (x := m.I 44 4) (pc2 := 12) rfl rfl (sh_s44 hT.st) rfl rfl rfl ?_
      refine sh_w (i := .isub) (len := 1) (pc2 := 13) (lv2 := [(0, .ref 45), (1, .int x1)]) (st2 := [.int (8192 - (m.I 44 4)), .int x1]) (h2 := (sh_rep m.T m.I m.J)) rfl rfl rfl ?_
      exact kk
    rcases sh_ite e with ⟨c, e⟩ | ⟨c, e⟩
    · refine sh_Lk_lift (T := m.T) (I := m.I) (J := m.J) (s := m.s) (pc2 := 17) (lv2 := [(0, .ref 45), (1, .int x1)]) (st2 := [.int 0]) (I2 := m.I) (J2 := m.J) (fun hT v kk => ?_) ?_
      · refine sh_jc (c := .le) (off := (5)) (pc2 := 16) false rfl (sh_Blef c) rfl ?_
        refine sh_w (i := (.iconst 0)) (len := 1) (pc2 := 17) (lv2 := [(0, .ref 45), (1, .int x1)]) (st2 := [.int 0]) (h2 := (sh_rep m.T m.I m.J)) rfl rfl rfl ?_
        exact kk
      obtain rfl := Option.some.inj e
      obtain ⟨rfl, rfl⟩ := tg
      exact sh_Lk_ret (i := .ireturn) rfl rfl rfl (Nat.le_of_ble_eq_true rfl) (Nat.le_of_ble_eq_true rfl)
    · refine sh_Lk_lift (T := m.T) (I := m.I) (J := m.J) (s := m.s) (pc2 := 34) (lv2 := [(0, .ref 45), (1, .int x1)]) (st2 := [.int (((m.I 44 4) + x1) - x1)]) (I2 := sh_u2 m.I 44 4 ((m.I 44 4) + x1)) (J2 := m.J) (fun hT v kk => ?_) ?_
      · refine sh_jc (c := .le) (off := (5)) (pc2 := 18) true rfl (sh_Blet c) rfl ?_
        refine sh_w (i := (.aload_n 0)) (len := 1) (pc2 := 19) (lv2 := [(0, .ref 45), (1, .int x1)]) (st2 := [.ref 45]) (h2 := (sh_rep m.T m.I m.J)) rfl rfl rfl ?_
        refine sh_w (i := .dup) (len := 1) (pc2 := 20) (lv2 := [(0, .ref 45), (1, .int x1)]) (st2 := [.ref 45, .ref 45]) (h2 := (sh_rep m.T m.I m.J)) rfl rfl rfl ?_
        refine sh_gI1 (len := 3) (x := m.I 44 4) (pc2 := 23) rfl rfl (sh_s44 hT.st) rfl rfl rfl ?_
        refine sh_w (i := (.iload_n 1)) (len := 1) (pc2 := 24) (lv2 := [(0, .ref 45), (1, .int x1)]) (st2 := [.int x1, .int (m.I 44 4), .ref 45]) (h2 := (sh_rep m.T m.I m.J)) rfl rfl rfl ?_
        refine sh_w (i := .iadd) (len := 1) (pc2 := 25) (lv2 := [(0, .ref 45), (1, .int x1)]) (st2 := [.int ((m.I 44 4) + x1), .ref 45]) (h2 := (sh_rep m.T m.I m.J)) rfl rfl rfl ?_
        refine sh_pI1 (x := (m.I 44 4) + x1) (pc2 := 28) rfl rfl (sh_s44 hT.st) rfl rfl rfl rfl ?_
        refine sh_w (i := (.aload_n 0)) (len := 1) (pc2 := 29) (lv2 := [(0, .ref 45), (1, .int x1)]) (st2 := [.ref 45]) (h2 := (sh_rep m.T (sh_u2 m.I 44 4 ((m.I 44 4) + x1)) m.J)) rfl rfl rfl ?_
        refine sh_gI1 (len := 3) (x := (m.I 44 4) + x1) (pc2 := 32) rfl rfl (sh_s44 hT.st) rfl rfl rfl ?_
        refine sh_w (i := (.iload_n 1)) (len := 1) (pc2 := 33) (lv2 := [(0, .ref 45), (1, .int x1)]) (st2 := [.int x1, .int ((m.I 44 4) + x1)]) (h2 := (sh_rep m.T (sh_u2 m.I 44 4 ((m.I 44 4) + x1)) m.J)) rfl rfl rfl ?_
        refine sh_w (i := .isub) (len := 1) (pc2 := 34) (lv2 := [(0, .ref 45), (1, .int x1)]) (st2 := [.int (((m.I 44 4) + x1) - x1)]) (h2 := (sh_rep m.T (sh_u2 m.I 44 4 ((m.I 44 4) + x1)) m.J)) rfl rfl rfl ?_
        exact kk
      obtain rfl := Option.some.inj e
      obtain ⟨rfl, rfl⟩ := tg
      exact sh_Lk_ret (i := .ireturn) rfl rfl rfl (Nat.le_of_ble_eq_true rfl) (Nat.le_of_ble_eq_true rfl)
theorem sl_99 {m m2 : sh_X} {o : Outcome} {z : (Int32 × sh_X)} (e : sf_99 m = some z) (tg : (sh_tI o m2) z) : sh_Lk 99 0 [(0, .ref 10)] [] m o m2 11 266 := by
  unfold sf_99 at e
  refine sh_Lk_lift (T := m.T) (I := m.I) (J := m.J) (s := m.s) (pc2 := 4) (lv2 := [(0, .ref 10)]) (st2 := [.int 0, .int 0, .int 0, .ref 10]) (I2 := m.I) (J2 := m.J) (fun hT v kk => ?_) ?_
  · refine sh_w (i := (.aload_n 0)) (len := 1) (pc2 := 1) (lv2 := [(0, .ref 10)]) (st2 := [.ref 10]) (h2 := (sh_rep m.T m.I m.J)) rfl rfl rfl ?_
    refine sh_w (i := (.iconst 0)) (len := 1) (pc2 := 2) (lv2 := [(0, .ref 10)]) (st2 := [.int 0, .ref 10]) (h2 := (sh_rep m.T m.I m.J)) rfl rfl rfl ?_
    refine sh_w (i := (.iconst 0)) (len := 1) (pc2 := 3) (lv2 := [(0, .ref 10)]) (st2 := [.int 0, .int 0, .ref 10]) (h2 := (sh_rep m.T m.I m.J)) rfl rfl rfl ?_
    refine sh_w (i := (.iconst 0)) (len := 1) (pc2 := 4) (lv2 := [(0, .ref 10)]) (st2 := [.int 0, .int 0, .int 0, .ref 10]) (h2 := (sh_rep m.T m.I m.J)) rfl rfl rfl ?_
    exact kk
  obtain ⟨r1, m11, e1, e⟩ := sh_bn_e e
  refine sh_Lk_cV (r := (some (.int r1))) (st2 := [.int r1]) (pc2 := 7) (k2 := 19) (a := 9) (as := [.ref 10, .int 0, .int 0, .int 0]) (rest := []) rfl rfl rfl (fun hT => hT.t9) rfl rfl ⟨Nat.le_of_ble_eq_true rfl, Nat.le_of_ble_eq_true rfl⟩ (sl_19 e1 ⟨rfl, rfl⟩) rfl rfl (Nat.le_of_ble_eq_true rfl) (Nat.le_of_ble_eq_true rfl) ?_
  obtain rfl := Option.some.inj e
  obtain ⟨rfl, rfl⟩ := tg
  exact sh_Lk_ret (i := .ireturn) rfl rfl rfl (Nat.le_of_ble_eq_true rfl) (Nat.le_of_ble_eq_true rfl)
theorem sl_100 {x1 : Int32} {x2 : Int32} {m m2 : sh_X} {o : Outcome} {z : (Unit × sh_X)} (e : sf_100 x1 x2 m = some z) (tg : (sh_tV o m2) z) : sh_Lk 100 0 [(0, .ref 45), (1, .int x1), (2, .int x2)] [] m o m2 8 200 := by
  unfold sf_100 at e
  refine sh_Lk_lift (T := m.T) (I := m.I) (J := m.J) (s := m.s) (pc2 := 2) (lv2 := [(0, .ref 45), (1, .int x1), (2, .int x2)]) (st2 := [.int 1, .int x1]) (I2 := m.I) (J2 := m.J) (fun hT v kk => ?_) ?_
  · refine sh_w (i := (.iload_n 1)) (len := 1) (pc2 := 1) (lv2 := [(0, .ref 45), (1, .int x1), (2, .int x2)]) (st2 := [.int x1]) (h2 := (sh_rep m.T m.I m.J)) rfl rfl rfl ?_
    refine sh_w (i := (.iconst 1)) (len := 1) (pc2 := 2) (lv2 := [(0, .ref 45), (1, .int x1), (2, .int x2)]) (st2 := [.int 1, .int x1]) (h2 := (sh_rep m.T m.I m.J)) rfl rfl rfl ?_
    exact kk
  rcases sh_ite e with ⟨c, e⟩ | ⟨c, e⟩
  · refine sh_Lk_lift (T := m.T) (I := m.I) (J := m.J) (s := m.s) (pc2 := 10) (lv2 := [(0, .ref 45), (1, .int x1), (2, .int x2)]) (st2 := [.int (m.I 44 4), .int x1]) (I2 := m.I) (J2 := m.J) (fun hT v kk => ?_) ?_
    · refine sh_jc (c := .le) (off := (18)) (pc2 := 5) false rfl (sh_Blef c) rfl ?_
      refine sh_w (i := (.iload_n 1)) (len := 1) (pc2 := 6) (lv2 := [(0, .ref 45), (1, .int x1), (2, .int x2)]) (st2 := [.int x1]) (h2 := (sh_rep m.T m.I m.J)) rfl rfl rfl ?_
      refine sh_w (i := (.aload_n 0)) (len := 1) (pc2 := 7) (lv2 := [(0, .ref 45), (1, .int x1), (2, .int x2)]) (st2 := [.ref 45, .int x1]) (h2 := (sh_rep m.T m.I m.J)) rfl rfl rfl ?_
      refine sh_gI1 (len := 3) (x := m.I 44 4) (pc2 := 10) rfl rfl (sh_s44 hT.st) rfl rfl rfl ?_
      exact kk
    rcases sh_ite e with ⟨c, e⟩ | ⟨c, e⟩
    · refine sh_Lk_lift (T := m.T) (I := m.I) (J := m.J) (s := m.s) (pc2 := 19) (lv2 := [(0, .ref 45), (1, .int x1), (2, .int x2)]) (st2 := [.int x2, .int x1, .ref 46]) (I2 := m.I) (J2 := m.J) (fun hT v kk => ?_) ?_
      · refine sh_jc (c := .ge) (off := (10)) (pc2 := 13) false rfl (sh_Bgef c) rfl ?_
        refine sh_w (i := (.aload_n 0)) (len := 1) (pc2 := 14) (lv2 := [(0, .ref 45), (1, .int x1), (2, .int x2)]) (st2 := [.ref 45]) (h2 := (sh_rep m.T m.I m.J)) rfl rfl rfl ?_
        refine sh_gR1 (len := 3) (x := .ref 46) (pc2 := 17) rfl rfl (sh_s44 hT.st) rfl rfl ?_
        refine sh_w (i := (.iload_n 1)) (len := 1) (pc2 := 18) (lv2 := [(0, .ref 45), (1, .int x1), (2, .int x2)]) (st2 := [.int x1, .ref 46]) (h2 := (sh_rep m.T m.I m.J)) rfl rfl rfl ?_
        refine sh_w (i := (.iload_n 2)) (len := 1) (pc2 := 19) (lv2 := [(0, .ref 45), (1, .int x1), (2, .int x2)]) (st2 := [.int x2, .int x1, .ref 46]) (h2 := (sh_rep m.T m.I m.J)) rfl rfl rfl ?_
        exact kk
      obtain ⟨c, e⟩ := sh_gd e
      refine sh_Lk_lift (T := m.T) (I := m.I) (J := m.J) (s := m.s) (pc2 := 20) (lv2 := [(0, .ref 45), (1, .int x1), (2, .int x2)]) (st2 := []) (I2 := sh_u2 m.I 45 (Int32.toNatClampNeg x1) x2) (J2 := m.J) (fun hT v kk => ?_) ?_
      · refine sh_is1 (x := x2) (i := x1) (pc2 := 20) rfl (sh_s45 hT.st) (sh_okb1 c) (sh_okb2 c) rfl ?_
        exact kk
      obtain rfl := Option.some.inj e
      obtain ⟨rfl, rfl⟩ := tg
      exact sh_Lk_ret (i := .return_) rfl rfl rfl (Nat.le_of_ble_eq_true rfl) (Nat.le_of_ble_eq_true rfl)
    · refine sh_Lk_lift (T := m.T) (I := m.I) (J := m.J) (s := m.s) (pc2 := 20) (lv2 := [(0, .ref 45), (1, .int x1), (2, .int x2)]) (st2 := []) (I2 := m.I) (J2 := m.J) (fun hT v kk => ?_) ?_
      · refine sh_jc (c := .ge) (off := (10)) (pc2 := 20) true rfl (sh_Bget c) rfl ?_
        exact kk
      obtain rfl := Option.some.inj e
      obtain ⟨rfl, rfl⟩ := tg
      exact sh_Lk_ret (i := .return_) rfl rfl rfl (Nat.le_of_ble_eq_true rfl) (Nat.le_of_ble_eq_true rfl)
  · refine sh_Lk_lift (T := m.T) (I := m.I) (J := m.J) (s := m.s) (pc2 := 20) (lv2 := [(0, .ref 45), (1, .int x1), (2, .int x2)]) (st2 := []) (I2 := m.I) (J2 := m.J) (fun hT v kk => ?_) ?_
    · refine sh_jc (c := .le) (off := (18)) (pc2 := 20) true rfl (sh_Blet c) rfl ?_
      exact kk
    obtain rfl := Option.some.inj e
    obtain ⟨rfl, rfl⟩ := tg
    exact sh_Lk_ret (i := .return_) rfl rfl rfl (Nat.le_of_ble_eq_true rfl) (Nat.le_of_ble_eq_true rfl)
theorem sl_97_8s {x1 : Int32} {x2 : Int32} {x3 : Int32} {m m2 : sh_X} {o : Outcome} {z : ((Int32 × sh_X) ⊕ (Int32 × sh_X))} (e : sf_97_8s x1 x2 x3 m = some z) (tg : (sh_el (fun q => sh_Lk 97 8 [(0, .ref 45), (1, .int x1), (2, .int x2), (3, .int q.1)] [] q.2 o m2 12 286) (sh_tI o m2)) z) : sh_Lk 97 8 [(0, .ref 45), (1, .int x1), (2, .int x2), (3, .int x3)] [] m o m2 12 286 := by
  unfold sf_97_8s at e
  refine sh_Lk_lift (T := m.T) (I := m.I) (J := m.J) (s := m.s) (pc2 := 10) (lv2 := [(0, .ref 45), (1, .int x1), (2, .int x2), (3, .int x3)]) (st2 := [.int x1, .int x3]) (I2 := m.I) (J2 := m.J) (fun hT v kk => ?_) ?_
  · refine sh_w (i := (.iload_n 3)) (len := 1) (pc2 := 9) (lv2 := [(0, .ref 45), (1, .int x1), (2, .int x2), (3, .int x3)]) (st2 := [.int x3]) (h2 := (sh_rep m.T m.I m.J)) rfl rfl rfl ?_
    refine sh_w (i := (.iload_n 1)) (len := 1) (pc2 := 10) (lv2 := [(0, .ref 45), (1, .int x1), (2, .int x2), (3, .int x3)]) (st2 := [.int x1, .int x3]) (h2 := (sh_rep m.T m.I m.J)) rfl rfl rfl ?_
    exact kk
  rcases sh_ite e with ⟨c, e⟩ | ⟨c, e⟩
  · refine sh_Lk_lift (T := m.T) (I := m.I) (J := m.J) (s := m.s) (pc2 := 21) (lv2 := [(0, .ref 45), (1, .int x1), (2, .int x2), (3, .int x3)]) (st2 := [.ref 10, .int (x2 + x3), .ref 45]) (I2 := m.I) (J2 := m.J) (fun hT v kk => ?_) ?_
    · refine sh_jc (c := .ge) (off := (23)) (pc2 := 13) false rfl (sh_Bgef c) rfl ?_
      refine sh_w (i := (.aload_n 0)) (len := 1) (pc2 := 14) (lv2 := [(0, .ref 45), (1, .int x1), (2, .int x2), (3, .int x3)]) (st2 := [.ref 45]) (h2 := (sh_rep m.T m.I m.J)) rfl rfl rfl ?_
      refine sh_w (i := (.iload_n 2)) (len := 1) (pc2 := 15) (lv2 := [(0, .ref 45), (1, .int x1), (2, .int x2), (3, .int x3)]) (st2 := [.int x2, .ref 45]) (h2 := (sh_rep m.T m.I m.J)) rfl rfl rfl ?_
      refine sh_w (i := (.iload_n 3)) (len := 1) (pc2 := 16) (lv2 := [(0, .ref 45), (1, .int x1), (2, .int x2), (3, .int x3)]) (st2 := [.int x3, .int x2, .ref 45]) (h2 := (sh_rep m.T m.I m.J)) rfl rfl rfl ?_
      refine sh_w (i := .iadd) (len := 1) (pc2 := 17) (lv2 := [(0, .ref 45), (1, .int x1), (2, .int x2), (3, .int x3)]) (st2 := [.int (x2 + x3), .ref 45]) (h2 := (sh_rep m.T m.I m.J)) rfl rfl rfl ?_
      refine sh_w (i := (.aload_n 0)) (len := 1) (pc2 := 18) (lv2 := [(0, .ref 45), (1, .int x1), (2, .int x2), (3, .int x3)]) (st2 := [.ref 45, .int (x2 + x3), .ref 45]) (h2 := (sh_rep m.T m.I m.J)) rfl rfl rfl ?_
      refine sh_gR1 (len := 3) (x := .ref 10) (pc2 := 21) rfl rfl (sh_s44 hT.st) rfl rfl ?_
      exact kk
    obtain ⟨r1, m11, e1, e⟩ := sh_bn_e e
    refine sh_Lk_cV (r := (some (.int r1))) (st2 := [.int r1, .int (x2 + x3), .ref 45]) (pc2 := 24) (k2 := 99) (a := 9) (as := [.ref 10]) (rest := [.int (x2 + x3), .ref 45]) rfl rfl rfl (fun hT => hT.t9) rfl rfl ⟨Nat.le_of_ble_eq_true rfl, Nat.le_of_ble_eq_true rfl⟩ (sl_99 e1 ⟨rfl, rfl⟩) rfl rfl (Nat.le_of_ble_eq_true rfl) (Nat.le_of_ble_eq_true rfl) ?_
    obtain ⟨r2, m12, e2, e⟩ := sh_bn_e e
    refine sh_Lk_cV (r := none) (st2 := []) (pc2 := 27) (k2 := 100) (a := 44) (as := [.ref 45, .int (x2 + x3), .int r1]) (rest := []) rfl rfl rfl (fun hT => (sh_s44 hT.st)) rfl rfl ⟨Nat.le_of_ble_eq_true rfl, Nat.le_of_ble_eq_true rfl⟩ (sl_100 e2 ⟨rfl, rfl⟩) rfl rfl (Nat.le_of_ble_eq_true rfl) (Nat.le_of_ble_eq_true rfl) ?_
    refine sh_Lk_lift (T := m12.T) (I := m12.I) (J := m12.J) (s := m12.s) (pc2 := 8) (lv2 := [(3, .int (x3 + 1)), (0, .ref 45), (1, .int x1), (2, .int x2)]) (st2 := []) (I2 := m12.I) (J2 := m12.J) (fun hT v kk => ?_) ?_
    · refine sh_w (i := (.iinc 3 1)) (len := 3) (pc2 := 30) (lv2 := [(3, .int (x3 + 1)), (0, .ref 45), (1, .int x1), (2, .int x2)]) (st2 := []) (h2 := (sh_rep m12.T m12.I m12.J)) rfl rfl rfl ?_
      refine sh_w (i := (.goto (-22))) (len := 3) (pc2 := 8) (lv2 := [(3, .int (x3 + 1)), (0, .ref 45), (1, .int x1), (2, .int x2)]) (st2 := []) (h2 := (sh_rep m12.T m12.I m12.J)) rfl rfl rfl ?_
      exact kk
    obtain rfl := Option.some.inj e
    exact sh_Lk_sub (sh_sub_c rfl (sh_sub_c rfl (sh_sub_c rfl (sh_sub_c rfl (sh_sub_n))))) tg
  · refine sh_Lk_lift (T := m.T) (I := m.I) (J := m.J) (s := m.s) (pc2 := 34) (lv2 := [(0, .ref 45), (1, .int x1), (2, .int x2), (3, .int x3)]) (st2 := [.int x2]) (I2 := m.I) (J2 := m.J) (fun hT v kk => ?_) ?_
    · refine sh_jc (c := .ge) (off := (23)) (pc2 := 33) true rfl (sh_Bget c) rfl ?_
      refine sh_w (i := (.iload_n 2)) (len := 1) (pc2 := 34) (lv2 := [(0, .ref 45), (1, .int x1), (2, .int x2), (3, .int x3)]) (st2 := [.int x2]) (h2 := (sh_rep m.T m.I m.J)) rfl rfl rfl ?_
      exact kk
    obtain rfl := Option.some.inj e
    obtain ⟨rfl, rfl⟩ := tg
    exact sh_Lk_ret (i := .ireturn) rfl rfl rfl (Nat.le_of_ble_eq_true rfl) (Nat.le_of_ble_eq_true rfl)
theorem sl_97_8 {x1 : Int32} {x2 : Int32} {x3 : Int32} {m m2 : sh_X} {o : Outcome} {z : (Int32 × sh_X)} (e : sf_97_8 x1 x2 x3 m = some z) (tg : (sh_tI o m2) z) : sh_Lk 97 8 [(0, .ref 45), (1, .int x1), (2, .int x2), (3, .int x3)] [] m o m2 12 286 := by
  unfold sf_97_8 at e
  exact sh_while_lk (P := fun q => sh_Lk 97 8 [(0, .ref 45), (1, .int x1), (2, .int x2), (3, .int q.1)] [] q.2 o m2 12 286) (Q := (sh_tI o m2)) (fun q z e tg => sl_97_8s (x1 := x1) (x2 := x2) (x3 := q.1) (m := q.2) e tg) (s := (x3, m)) e tg
theorem sl_97 {x1 : Int32} {m m2 : sh_X} {o : Outcome} {z : (Int32 × sh_X)} (e : sf_97 x1 m = some z) (tg : (sh_tI o m2) z) : sh_Lk 97 0 [(0, .ref 45), (1, .int x1)] [] m o m2 12 286 := by
  unfold sf_97 at e
  refine sh_Lk_lift (T := m.T) (I := m.I) (J := m.J) (s := m.s) (pc2 := 2) (lv2 := [(0, .ref 45), (1, .int x1)]) (st2 := [.int x1, .ref 45]) (I2 := m.I) (J2 := m.J) (fun hT v kk => ?_) ?_
  · refine sh_w (i := (.aload_n 0)) (len := 1) (pc2 := 1) (lv2 := [(0, .ref 45), (1, .int x1)]) (st2 := [.ref 45]) (h2 := (sh_rep m.T m.I m.J)) rfl rfl rfl ?_
    refine sh_w (i := (.iload_n 1)) (len := 1) (pc2 := 2) (lv2 := [(0, .ref 45), (1, .int x1)]) (st2 := [.int x1, .ref 45]) (h2 := (sh_rep m.T m.I m.J)) rfl rfl rfl ?_
    exact kk
  obtain ⟨r1, m11, e1, e⟩ := sh_bn_e e
  refine sh_Lk_cV (r := (some (.int r1))) (st2 := [.int r1]) (pc2 := 5) (k2 := 98) (a := 44) (as := [.ref 45, .int x1]) (rest := []) rfl rfl rfl (fun hT => (sh_s44 hT.st)) rfl rfl ⟨Nat.le_of_ble_eq_true rfl, Nat.le_of_ble_eq_true rfl⟩ (sl_98 e1 ⟨rfl, rfl⟩) rfl rfl (Nat.le_of_ble_eq_true rfl) (Nat.le_of_ble_eq_true rfl) ?_
  refine sh_Lk_lift (T := m11.T) (I := m11.I) (J := m11.J) (s := m11.s) (pc2 := 8) (lv2 := [(3, .int 0), (2, .int r1), (0, .ref 45), (1, .int x1)]) (st2 := []) (I2 := m11.I) (J2 := m11.J) (fun hT v kk => ?_) ?_
  · refine sh_w (i := (.istore_n 2)) (len := 1) (pc2 := 6) (lv2 := [(2, .int r1), (0, .ref 45), (1, .int x1)]) (st2 := []) (h2 := (sh_rep m11.T m11.I m11.J)) rfl rfl rfl ?_
    refine sh_w (i := (.iconst 0)) (len := 1) (pc2 := 7) (lv2 := [(2, .int r1), (0, .ref 45), (1, .int x1)]) (st2 := [.int 0]) (h2 := (sh_rep m11.T m11.I m11.J)) rfl rfl rfl ?_
    refine sh_w (i := (.istore_n 3)) (len := 1) (pc2 := 8) (lv2 := [(3, .int 0), (2, .int r1), (0, .ref 45), (1, .int x1)]) (st2 := []) (h2 := (sh_rep m11.T m11.I m11.J)) rfl rfl rfl ?_
    exact kk
  exact sh_Lk_sub (sh_sub_c rfl (sh_sub_c rfl (sh_sub_c rfl (sh_sub_c rfl (sh_sub_n))))) (sl_97_8 e tg)
theorem sl_102_59 {x0 : Nat} {x1 : Int32} {y1 : Int32} {y2 : Int32} {m m2 : sh_X} {o : Outcome} {z : (Unit × sh_X)} (hx0 : sh_isE x0) (e : sf_102_59 x0 x1 y1 y2 m = some z) (tg : (sh_tV o m2) z) : sh_Lk 102 59 [(0, .ref (x0 + 1)), (1, .int x1)] [.int y2, .int y1, .ref ((x0 + 1) + 1)] m o m2 8 200 := by
  unfold sf_102_59 at e
  rcases hx0 with rfl | rfl | rfl
  · obtain ⟨c, e⟩ := sh_gd e
    refine sh_Lk_lift (T := m.T) (I := m.I) (J := m.J) (s := m.s) (pc2 := 69) (lv2 := [(0, .ref 14), (1, .int x1)]) (st2 := [.int x1, .int (m.I 13 4), .ref 16]) (I2 := sh_u2 m.I 14 (Int32.toNatClampNeg y1) y2) (J2 := m.J) (fun hT v kk => ?_) ?_
    · refine sh_is1 (x := y2) (i := y1) (pc2 := 60) rfl (sh_s14 hT.st) (sh_okb1 c) (sh_okb2 c) rfl ?_
      refine sh_w (i := (.aload_n 0)) (len := 1) (pc2 := 61) (lv2 := [(0, .ref 14), (1, .int x1)]) (st2 := [.ref 14]) (h2 := (sh_rep m.T (sh_u2 m.I 14 (Int32.toNatClampNeg y1) y2) m.J)) rfl rfl rfl ?_
      refine sh_gR1 (len := 3) (x := .ref 16) (pc2 := 64) rfl rfl (sh_s13 hT.st) rfl rfl ?_
      refine sh_w (i := (.aload_n 0)) (len := 1) (pc2 := 65) (lv2 := [(0, .ref 14), (1, .int x1)]) (st2 := [.ref 14, .ref 16]) (h2 := (sh_rep m.T (sh_u2 m.I 14 (Int32.toNatClampNeg y1) y2) m.J)) rfl rfl rfl ?_
      refine sh_gI1 (len := 3) (x := m.I 13 4) (pc2 := 68) rfl rfl (sh_s13 hT.st) rfl rfl rfl ?_
      refine sh_w (i := (.iload_n 1)) (len := 1) (pc2 := 69) (lv2 := [(0, .ref 14), (1, .int x1)]) (st2 := [.int x1, .int (m.I 13 4), .ref 16]) (h2 := (sh_rep m.T (sh_u2 m.I 14 (Int32.toNatClampNeg y1) y2) m.J)) rfl rfl rfl ?_
      exact kk
    obtain ⟨c, e⟩ := sh_gd e
    refine sh_Lk_lift (T := m.T) (I := sh_u2 m.I 14 (Int32.toNatClampNeg y1) y2) (J := m.J) (s := m.s) (pc2 := 79) (lv2 := [(0, .ref 14), (1, .int x1)]) (st2 := [.long 0, .int (m.I 13 4), .ref 17]) (I2 := sh_u2 (sh_u2 m.I 14 (Int32.toNatClampNeg y1) y2) 15 (Int32.toNatClampNeg (m.I 13 4)) x1) (J2 := m.J) (fun hT v kk => ?_) ?_
    · refine sh_is1 (x := x1) (i := m.I 13 4) (pc2 := 70) rfl (sh_s15 hT.st) (sh_okb1 c) (sh_okb2 c) rfl ?_
      refine sh_w (i := (.aload_n 0)) (len := 1) (pc2 := 71) (lv2 := [(0, .ref 14), (1, .int x1)]) (st2 := [.ref 14]) (h2 := (sh_rep m.T (sh_u2 (sh_u2 m.I 14 (Int32.toNatClampNeg y1) y2) 15 (Int32.toNatClampNeg (m.I 13 4)) x1) m.J)) rfl rfl rfl ?_
      refine sh_gR1 (len := 3) (x := .ref 17) (pc2 := 74) rfl rfl (sh_s13 hT.st) rfl rfl ?_
      refine sh_w (i := (.aload_n 0)) (len := 1) (pc2 := 75) (lv2 := [(0, .ref 14), (1, .int x1)]) (st2 := [.ref 14, .ref 17]) (h2 := (sh_rep m.T (sh_u2 (sh_u2 m.I 14 (Int32.toNatClampNeg y1) y2) 15 (Int32.toNatClampNeg (m.I 13 4)) x1) m.J)) rfl rfl rfl ?_
      refine sh_gI1 (len := 3) (x := m.I 13 4) (pc2 := 78) rfl rfl (sh_s13 hT.st) rfl rfl rfl ?_
      refine sh_w (i := (.lconst 0)) (len := 1) (pc2 := 79) (lv2 := [(0, .ref 14), (1, .int x1)]) (st2 := [.long 0, .int (m.I 13 4), .ref 17]) (h2 := (sh_rep m.T (sh_u2 (sh_u2 m.I 14 (Int32.toNatClampNeg y1) y2) 15 (Int32.toNatClampNeg (m.I 13 4)) x1) m.J)) rfl rfl rfl ?_
      exact kk
    obtain ⟨c, e⟩ := sh_gd e
    refine sh_Lk_lift (T := m.T) (I := sh_u2 (sh_u2 m.I 14 (Int32.toNatClampNeg y1) y2) 15 (Int32.toNatClampNeg (m.I 13 4)) x1) (J := m.J) (s := m.s) (pc2 := 90) (lv2 := [(0, .ref 14), (1, .int x1)]) (st2 := []) (I2 := sh_u2 (sh_u2 (sh_u2 m.I 14 (Int32.toNatClampNeg y1) y2) 15 (Int32.toNatClampNeg (m.I 13 4)) x1) 13 4 ((m.I 13 4) + 1)) (J2 := sh_u2 m.J 16 (Int32.toNatClampNeg (m.I 13 4)) 0) (fun hT v kk => ?_) ?_
    · refine sh_ls1 (x := 0) (i := m.I 13 4) (pc2 := 80) rfl (sh_s16 hT.st) (sh_okb1 c) (sh_okb2 c) rfl ?_
      refine sh_w (i := (.aload_n 0)) (len := 1) (pc2 := 81) (lv2 := [(0, .ref 14), (1, .int x1)]) (st2 := [.ref 14]) (h2 := (sh_rep m.T (sh_u2 (sh_u2 m.I 14 (Int32.toNatClampNeg y1) y2) 15 (Int32.toNatClampNeg (m.I 13 4)) x1) (sh_u2 m.J 16 (Int32.toNatClampNeg (m.I 13 4)) 0))) rfl rfl rfl ?_
      refine sh_w (i := .dup) (len := 1) (pc2 := 82) (lv2 := [(0, .ref 14), (1, .int x1)]) (st2 := [.ref 14, .ref 14]) (h2 := (sh_rep m.T (sh_u2 (sh_u2 m.I 14 (Int32.toNatClampNeg y1) y2) 15 (Int32.toNatClampNeg (m.I 13 4)) x1) (sh_u2 m.J 16 (Int32.toNatClampNeg (m.I 13 4)) 0))) rfl rfl rfl ?_
      refine sh_gI1 (len := 3) (x := m.I 13 4) (pc2 := 85) rfl rfl (sh_s13 hT.st) rfl rfl rfl ?_
      refine sh_w (i := (.iconst 1)) (len := 1) (pc2 := 86) (lv2 := [(0, .ref 14), (1, .int x1)]) (st2 := [.int 1, .int (m.I 13 4), .ref 14]) (h2 := (sh_rep m.T (sh_u2 (sh_u2 m.I 14 (Int32.toNatClampNeg y1) y2) 15 (Int32.toNatClampNeg (m.I 13 4)) x1) (sh_u2 m.J 16 (Int32.toNatClampNeg (m.I 13 4)) 0))) rfl rfl rfl ?_
      refine sh_w (i := .iadd) (len := 1) (pc2 := 87) (lv2 := [(0, .ref 14), (1, .int x1)]) (st2 := [.int ((m.I 13 4) + 1), .ref 14]) (h2 := (sh_rep m.T (sh_u2 (sh_u2 m.I 14 (Int32.toNatClampNeg y1) y2) 15 (Int32.toNatClampNeg (m.I 13 4)) x1) (sh_u2 m.J 16 (Int32.toNatClampNeg (m.I 13 4)) 0))) rfl rfl rfl ?_
      refine sh_pI1 (x := (m.I 13 4) + 1) (pc2 := 90) rfl rfl (sh_s13 hT.st) rfl rfl rfl rfl ?_
      exact kk
    obtain rfl := Option.some.inj e
    obtain ⟨rfl, rfl⟩ := tg
    exact sh_Lk_ret (i := .return_) rfl rfl rfl (Nat.le_of_ble_eq_true rfl) (Nat.le_of_ble_eq_true rfl)
  · obtain ⟨c, e⟩ := sh_gd e
    refine sh_Lk_lift (T := m.T) (I := m.I) (J := m.J) (s := m.s) (pc2 := 69) (lv2 := [(0, .ref 19), (1, .int x1)]) (st2 := [.int x1, .int (m.I 18 4), .ref 21]) (I2 := sh_u2 m.I 19 (Int32.toNatClampNeg y1) y2) (J2 := m.J) (fun hT v kk => ?_) ?_
    · refine sh_is1 (x := y2) (i := y1) (pc2 := 60) rfl (sh_s19 hT.st) (sh_okb1 c) (sh_okb2 c) rfl ?_
      refine sh_w (i := (.aload_n 0)) (len := 1) (pc2 := 61) (lv2 := [(0, .ref 19), (1, .int x1)]) (st2 := [.ref 19]) (h2 := (sh_rep m.T (sh_u2 m.I 19 (Int32.toNatClampNeg y1) y2) m.J)) rfl rfl rfl ?_
      refine sh_gR1 (len := 3) (x := .ref 21) (pc2 := 64) rfl rfl (sh_s18 hT.st) rfl rfl ?_
      refine sh_w (i := (.aload_n 0)) (len := 1) (pc2 := 65) (lv2 := [(0, .ref 19), (1, .int x1)]) (st2 := [.ref 19, .ref 21]) (h2 := (sh_rep m.T (sh_u2 m.I 19 (Int32.toNatClampNeg y1) y2) m.J)) rfl rfl rfl ?_
      refine sh_gI1 (len := 3) (x := m.I 18 4) (pc2 := 68) rfl rfl (sh_s18 hT.st) rfl rfl rfl ?_
      refine sh_w (i := (.iload_n 1)) (len := 1) (pc2 := 69) (lv2 := [(0, .ref 19), (1, .int x1)]) (st2 := [.int x1, .int (m.I 18 4), .ref 21]) (h2 := (sh_rep m.T (sh_u2 m.I 19 (Int32.toNatClampNeg y1) y2) m.J)) rfl rfl rfl ?_
      exact kk
    obtain ⟨c, e⟩ := sh_gd e
    refine sh_Lk_lift (T := m.T) (I := sh_u2 m.I 19 (Int32.toNatClampNeg y1) y2) (J := m.J) (s := m.s) (pc2 := 79) (lv2 := [(0, .ref 19), (1, .int x1)]) (st2 := [.long 0, .int (m.I 18 4), .ref 22]) (I2 := sh_u2 (sh_u2 m.I 19 (Int32.toNatClampNeg y1) y2) 20 (Int32.toNatClampNeg (m.I 18 4)) x1) (J2 := m.J) (fun hT v kk => ?_) ?_
    · refine sh_is1 (x := x1) (i := m.I 18 4) (pc2 := 70) rfl (sh_s20 hT.st) (sh_okb1 c) (sh_okb2 c) rfl ?_
      refine sh_w (i := (.aload_n 0)) (len := 1) (pc2 := 71) (lv2 := [(0, .ref 19), (1, .int x1)]) (st2 := [.ref 19]) (h2 := (sh_rep m.T (sh_u2 (sh_u2 m.I 19 (Int32.toNatClampNeg y1) y2) 20 (Int32.toNatClampNeg (m.I 18 4)) x1) m.J)) rfl rfl rfl ?_
      refine sh_gR1 (len := 3) (x := .ref 22) (pc2 := 74) rfl rfl (sh_s18 hT.st) rfl rfl ?_
      refine sh_w (i := (.aload_n 0)) (len := 1) (pc2 := 75) (lv2 := [(0, .ref 19), (1, .int x1)]) (st2 := [.ref 19, .ref 22]) (h2 := (sh_rep m.T (sh_u2 (sh_u2 m.I 19 (Int32.toNatClampNeg y1) y2) 20 (Int32.toNatClampNeg (m.I 18 4)) x1) m.J)) rfl rfl rfl ?_
      refine sh_gI1 (len := 3) (x := m.I 18 4) (pc2 := 78) rfl rfl (sh_s18 hT.st) rfl rfl rfl ?_
      refine sh_w (i := (.lconst 0)) (len := 1) (pc2 := 79) (lv2 := [(0, .ref 19), (1, .int x1)]) (st2 := [.long 0, .int (m.I 18 4), .ref 22]) (h2 := (sh_rep m.T (sh_u2 (sh_u2 m.I 19 (Int32.toNatClampNeg y1) y2) 20 (Int32.toNatClampNeg (m.I 18 4)) x1) m.J)) rfl rfl rfl ?_
      exact kk
    obtain ⟨c, e⟩ := sh_gd e
    refine sh_Lk_lift (T := m.T) (I := sh_u2 (sh_u2 m.I 19 (Int32.toNatClampNeg y1) y2) 20 (Int32.toNatClampNeg (m.I 18 4)) x1) (J := m.J) (s := m.s) (pc2 := 90) (lv2 := [(0, .ref 19), (1, .int x1)]) (st2 := []) (I2 := sh_u2 (sh_u2 (sh_u2 m.I 19 (Int32.toNatClampNeg y1) y2) 20 (Int32.toNatClampNeg (m.I 18 4)) x1) 18 4 ((m.I 18 4) + 1)) (J2 := sh_u2 m.J 21 (Int32.toNatClampNeg (m.I 18 4)) 0) (fun hT v kk => ?_) ?_
    · refine sh_ls1 (x := 0) (i := m.I 18 4) (pc2 := 80) rfl (sh_s21 hT.st) (sh_okb1 c) (sh_okb2 c) rfl ?_
      refine sh_w (i := (.aload_n 0)) (len := 1) (pc2 := 81) (lv2 := [(0, .ref 19), (1, .int x1)]) (st2 := [.ref 19]) (h2 := (sh_rep m.T (sh_u2 (sh_u2 m.I 19 (Int32.toNatClampNeg y1) y2) 20 (Int32.toNatClampNeg (m.I 18 4)) x1) (sh_u2 m.J 21 (Int32.toNatClampNeg (m.I 18 4)) 0))) rfl rfl rfl ?_
      refine sh_w (i := .dup) (len := 1) (pc2 := 82) (lv2 := [(0, .ref 19), (1, .int x1)]) (st2 := [.ref 19, .ref 19]) (h2 := (sh_rep m.T (sh_u2 (sh_u2 m.I 19 (Int32.toNatClampNeg y1) y2) 20 (Int32.toNatClampNeg (m.I 18 4)) x1) (sh_u2 m.J 21 (Int32.toNatClampNeg (m.I 18 4)) 0))) rfl rfl rfl ?_
      refine sh_gI1 (len := 3) (x := m.I 18 4) (pc2 := 85) rfl rfl (sh_s18 hT.st) rfl rfl rfl ?_
      refine sh_w (i := (.iconst 1)) (len := 1) (pc2 := 86) (lv2 := [(0, .ref 19), (1, .int x1)]) (st2 := [.int 1, .int (m.I 18 4), .ref 19]) (h2 := (sh_rep m.T (sh_u2 (sh_u2 m.I 19 (Int32.toNatClampNeg y1) y2) 20 (Int32.toNatClampNeg (m.I 18 4)) x1) (sh_u2 m.J 21 (Int32.toNatClampNeg (m.I 18 4)) 0))) rfl rfl rfl ?_
      refine sh_w (i := .iadd) (len := 1) (pc2 := 87) (lv2 := [(0, .ref 19), (1, .int x1)]) (st2 := [.int ((m.I 18 4) + 1), .ref 19]) (h2 := (sh_rep m.T (sh_u2 (sh_u2 m.I 19 (Int32.toNatClampNeg y1) y2) 20 (Int32.toNatClampNeg (m.I 18 4)) x1) (sh_u2 m.J 21 (Int32.toNatClampNeg (m.I 18 4)) 0))) rfl rfl rfl ?_
      refine sh_pI1 (x := (m.I 18 4) + 1) (pc2 := 90) rfl rfl (sh_s18 hT.st) rfl rfl rfl rfl ?_
      exact kk
    obtain rfl := Option.some.inj e
    obtain ⟨rfl, rfl⟩ := tg
    exact sh_Lk_ret (i := .return_) rfl rfl rfl (Nat.le_of_ble_eq_true rfl) (Nat.le_of_ble_eq_true rfl)
  · obtain ⟨c, e⟩ := sh_gd e
    refine sh_Lk_lift (T := m.T) (I := m.I) (J := m.J) (s := m.s) (pc2 := 69) (lv2 := [(0, .ref 24), (1, .int x1)]) (st2 := [.int x1, .int (m.I 23 4), .ref 26]) (I2 := sh_u2 m.I 24 (Int32.toNatClampNeg y1) y2) (J2 := m.J) (fun hT v kk => ?_) ?_
    · refine sh_is1 (x := y2) (i := y1) (pc2 := 60) rfl (sh_s24 hT.st) (sh_okb1 c) (sh_okb2 c) rfl ?_
      refine sh_w (i := (.aload_n 0)) (len := 1) (pc2 := 61) (lv2 := [(0, .ref 24), (1, .int x1)]) (st2 := [.ref 24]) (h2 := (sh_rep m.T (sh_u2 m.I 24 (Int32.toNatClampNeg y1) y2) m.J)) rfl rfl rfl ?_
      refine sh_gR1 (len := 3) (x := .ref 26) (pc2 := 64) rfl rfl (sh_s23 hT.st) rfl rfl ?_
      refine sh_w (i := (.aload_n 0)) (len := 1) (pc2 := 65) (lv2 := [(0, .ref 24), (1, .int x1)]) (st2 := [.ref 24, .ref 26]) (h2 := (sh_rep m.T (sh_u2 m.I 24 (Int32.toNatClampNeg y1) y2) m.J)) rfl rfl rfl ?_
      refine sh_gI1 (len := 3) (x := m.I 23 4) (pc2 := 68) rfl rfl (sh_s23 hT.st) rfl rfl rfl ?_
      refine sh_w (i := (.iload_n 1)) (len := 1) (pc2 := 69) (lv2 := [(0, .ref 24), (1, .int x1)]) (st2 := [.int x1, .int (m.I 23 4), .ref 26]) (h2 := (sh_rep m.T (sh_u2 m.I 24 (Int32.toNatClampNeg y1) y2) m.J)) rfl rfl rfl ?_
      exact kk
    obtain ⟨c, e⟩ := sh_gd e
    refine sh_Lk_lift (T := m.T) (I := sh_u2 m.I 24 (Int32.toNatClampNeg y1) y2) (J := m.J) (s := m.s) (pc2 := 79) (lv2 := [(0, .ref 24), (1, .int x1)]) (st2 := [.long 0, .int (m.I 23 4), .ref 27]) (I2 := sh_u2 (sh_u2 m.I 24 (Int32.toNatClampNeg y1) y2) 25 (Int32.toNatClampNeg (m.I 23 4)) x1) (J2 := m.J) (fun hT v kk => ?_) ?_
    · refine sh_is1 (x := x1) (i := m.I 23 4) (pc2 := 70) rfl (sh_s25 hT.st) (sh_okb1 c) (sh_okb2 c) rfl ?_
      refine sh_w (i := (.aload_n 0)) (len := 1) (pc2 := 71) (lv2 := [(0, .ref 24), (1, .int x1)]) (st2 := [.ref 24]) (h2 := (sh_rep m.T (sh_u2 (sh_u2 m.I 24 (Int32.toNatClampNeg y1) y2) 25 (Int32.toNatClampNeg (m.I 23 4)) x1) m.J)) rfl rfl rfl ?_
      refine sh_gR1 (len := 3) (x := .ref 27) (pc2 := 74) rfl rfl (sh_s23 hT.st) rfl rfl ?_
      refine sh_w (i := (.aload_n 0)) (len := 1) (pc2 := 75) (lv2 := [(0, .ref 24), (1, .int x1)]) (st2 := [.ref 24, .ref 27]) (h2 := (sh_rep m.T (sh_u2 (sh_u2 m.I 24 (Int32.toNatClampNeg y1) y2) 25 (Int32.toNatClampNeg (m.I 23 4)) x1) m.J)) rfl rfl rfl ?_
      refine sh_gI1 (len := 3) (x := m.I 23 4) (pc2 := 78) rfl rfl (sh_s23 hT.st) rfl rfl rfl ?_
      refine sh_w (i := (.lconst 0)) (len := 1) (pc2 := 79) (lv2 := [(0, .ref 24), (1, .int x1)]) (st2 := [.long 0, .int (m.I 23 4), .ref 27]) (h2 := (sh_rep m.T (sh_u2 (sh_u2 m.I 24 (Int32.toNatClampNeg y1) y2) 25 (Int32.toNatClampNeg (m.I 23 4)) x1) m.J)) rfl rfl rfl ?_
      exact kk
    obtain ⟨c, e⟩ := sh_gd e
    refine sh_Lk_lift (T := m.T) (I := sh_u2 (sh_u2 m.I 24 (Int32.toNatClampNeg y1) y2) 25 (Int32.toNatClampNeg (m.I 23 4)) x1) (J := m.J) (s := m.s) (pc2 := 90) (lv2 := [(0, .ref 24), (1, .int x1)]) (st2 := []) (I2 := sh_u2 (sh_u2 (sh_u2 m.I 24 (Int32.toNatClampNeg y1) y2) 25 (Int32.toNatClampNeg (m.I 23 4)) x1) 23 4 ((m.I 23 4) + 1)) (J2 := sh_u2 m.J 26 (Int32.toNatClampNeg (m.I 23 4)) 0) (fun hT v kk => ?_) ?_
    · refine sh_ls1 (x := 0) (i := m.I 23 4) (pc2 := 80) rfl (sh_s26 hT.st) (sh_okb1 c) (sh_okb2 c) rfl ?_
      refine sh_w (i := (.aload_n 0)) (len := 1) (pc2 := 81) (lv2 := [(0, .ref 24), (1, .int x1)]) (st2 := [.ref 24]) (h2 := (sh_rep m.T (sh_u2 (sh_u2 m.I 24 (Int32.toNatClampNeg y1) y2) 25 (Int32.toNatClampNeg (m.I 23 4)) x1) (sh_u2 m.J 26 (Int32.toNatClampNeg (m.I 23 4)) 0))) rfl rfl rfl ?_
      refine sh_w (i := .dup) (len := 1) (pc2 := 82) (lv2 := [(0, .ref 24), (1, .int x1)]) (st2 := [.ref 24, .ref 24]) (h2 := (sh_rep m.T (sh_u2 (sh_u2 m.I 24 (Int32.toNatClampNeg y1) y2) 25 (Int32.toNatClampNeg (m.I 23 4)) x1) (sh_u2 m.J 26 (Int32.toNatClampNeg (m.I 23 4)) 0))) rfl rfl rfl ?_
      refine sh_gI1 (len := 3) (x := m.I 23 4) (pc2 := 85) rfl rfl (sh_s23 hT.st) rfl rfl rfl ?_
      refine sh_w (i := (.iconst 1)) (len := 1) (pc2 := 86) (lv2 := [(0, .ref 24), (1, .int x1)]) (st2 := [.int 1, .int (m.I 23 4), .ref 24]) (h2 := (sh_rep m.T (sh_u2 (sh_u2 m.I 24 (Int32.toNatClampNeg y1) y2) 25 (Int32.toNatClampNeg (m.I 23 4)) x1) (sh_u2 m.J 26 (Int32.toNatClampNeg (m.I 23 4)) 0))) rfl rfl rfl ?_
      refine sh_w (i := .iadd) (len := 1) (pc2 := 87) (lv2 := [(0, .ref 24), (1, .int x1)]) (st2 := [.int ((m.I 23 4) + 1), .ref 24]) (h2 := (sh_rep m.T (sh_u2 (sh_u2 m.I 24 (Int32.toNatClampNeg y1) y2) 25 (Int32.toNatClampNeg (m.I 23 4)) x1) (sh_u2 m.J 26 (Int32.toNatClampNeg (m.I 23 4)) 0))) rfl rfl rfl ?_
      refine sh_pI1 (x := (m.I 23 4) + 1) (pc2 := 90) rfl rfl (sh_s23 hT.st) rfl rfl rfl rfl ?_
      exact kk
    obtain rfl := Option.some.inj e
    obtain ⟨rfl, rfl⟩ := tg
    exact sh_Lk_ret (i := .return_) rfl rfl rfl (Nat.le_of_ble_eq_true rfl) (Nat.le_of_ble_eq_true rfl)
theorem sl_102 {x0 : Nat} {x1 : Int32} {m m2 : sh_X} {o : Outcome} {z : (Unit × sh_X)} (hx0 : sh_isE x0) (e : sf_102 x0 x1 m = some z) (tg : (sh_tV o m2) z) : sh_Lk 102 0 [(0, .ref (x0 + 1)), (1, .int x1)] [] m o m2 8 200 := by
  unfold sf_102 at e
  rcases hx0 with rfl | rfl | rfl
  · refine sh_Lk_lift (T := m.T) (I := m.I) (J := m.J) (s := m.s) (pc2 := 4) (lv2 := [(0, .ref 14), (1, .int x1)]) (st2 := [.int (m.I 13 4)]) (I2 := m.I) (J2 := m.J) (fun hT v kk => ?_) ?_
    · refine sh_w (i := (.aload_n 0)) (len := 1) (pc2 := 1) (lv2 := [(0, .ref 14), (1, .int x1)]) (st2 := [.ref 14]) (h2 := (sh_rep m.T m.I m.J)) rfl rfl rfl ?_
      refine sh_gI1 (len := 3) (x := m.I 13 4) (pc2 := 4) rfl rfl (sh_s13 hT.st) rfl rfl rfl ?_
      exact kk
    rcases sh_ite e with ⟨c, e⟩ | ⟨c, e⟩
    · refine sh_Lk_lift (T := m.T) (I := m.I) (J := m.J) (s := m.s) (pc2 := 90) (lv2 := [(0, .ref 14), (1, .int x1)]) (st2 := []) (I2 := m.I) (J2 := m.J) (fun hT v kk => ?_) ?_
      · refine sh_j0 (c := .lt) (off := (86)) (pc2 := 90) true rfl (sh_Bltt c) rfl ?_
        exact kk
      obtain rfl := Option.some.inj e
      obtain ⟨rfl, rfl⟩ := tg
      exact sh_Lk_ret (i := .return_) rfl rfl rfl (Nat.le_of_ble_eq_true rfl) (Nat.le_of_ble_eq_true rfl)
    · refine sh_Lk_lift (T := m.T) (I := m.I) (J := m.J) (s := m.s) (pc2 := 14) (lv2 := [(0, .ref 14), (1, .int x1)]) (st2 := [.int 256, .int (m.I 13 4)]) (I2 := m.I) (J2 := m.J) (fun hT v kk => ?_) ?_
      · refine sh_j0 (c := .lt) (off := (86)) (pc2 := 7) false rfl (sh_Bltf c) rfl ?_
        refine sh_w (i := (.aload_n 0)) (len := 1) (pc2 := 8) (lv2 := [(0, .ref 14), (1, .int x1)]) (st2 := [.ref 14]) (h2 := (sh_rep m.T m.I m.J)) rfl rfl rfl ?_
        refine sh_gI1 (len := 3) (x := m.I 13 4) (pc2 := 11) rfl rfl (sh_s13 hT.st) rfl rfl rfl ?_
        refine sh_w (i := (.sipush 256)) (len := 3) (pc2 := 14) (lv2 := [(0, .ref 14), (1, .int x1)]) (st2 := [.int 256, .int (m.I 13 4)]) (h2 := (sh_rep m.T m.I m.J)) rfl rfl rfl ?_
        exact kk
      rcases sh_ite e with ⟨c, e⟩ | ⟨c, e⟩
      · refine sh_Lk_lift (T := m.T) (I := m.I) (J := m.J) (s := m.s) (pc2 := 29) (lv2 := [(0, .ref 14), (1, .int x1)]) (st2 := [.int (m.I 13 4), .int (m.I 13 4), .ref 15]) (I2 := m.I) (J2 := m.J) (fun hT v kk => ?_) ?_
        · refine sh_jc (c := .ge) (off := (76)) (pc2 := 17) false rfl (sh_Bgef c) rfl ?_
          refine sh_w (i := (.aload_n 0)) (len := 1) (pc2 := 18) (lv2 := [(0, .ref 14), (1, .int x1)]) (st2 := [.ref 14]) (h2 := (sh_rep m.T m.I m.J)) rfl rfl rfl ?_
          refine sh_gR1 (len := 3) (x := .ref 15) (pc2 := 21) rfl rfl (sh_s13 hT.st) rfl rfl ?_
          refine sh_w (i := (.aload_n 0)) (len := 1) (pc2 := 22) (lv2 := [(0, .ref 14), (1, .int x1)]) (st2 := [.ref 14, .ref 15]) (h2 := (sh_rep m.T m.I m.J)) rfl rfl rfl ?_
          refine sh_gI1 (len := 3) (x := m.I 13 4) (pc2 := 25) rfl rfl (sh_s13 hT.st) rfl rfl rfl ?_
          refine sh_w (i := (.aload_n 0)) (len := 1) (pc2 := 26) (lv2 := [(0, .ref 14), (1, .int x1)]) (st2 := [.ref 14, .int (m.I 13 4), .ref 15]) (h2 := (sh_rep m.T m.I m.J)) rfl rfl rfl ?_
          refine sh_gI1 (len := 3) (x := m.I 13 4) (pc2 := 29) rfl rfl (sh_s13 hT.st) rfl rfl rfl ?_
          exact kk
        rcases sh_ite e with ⟨c, e⟩ | ⟨c, e⟩
        · refine sh_Lk_lift (T := m.T) (I := m.I) (J := m.J) (s := m.s) (pc2 := 59) (lv2 := [(0, .ref 14), (1, .int x1)]) (st2 := [.int 0, .int (m.I 13 4), .ref 15]) (I2 := m.I) (J2 := m.J) (fun hT v kk => ?_) ?_
          · refine sh_j0 (c := .ne) (off := (7)) (pc2 := 32) false rfl (sh_Bnef c) rfl ?_
            refine sh_w (i := (.iconst 0)) (len := 1) (pc2 := 33) (lv2 := [(0, .ref 14), (1, .int x1)]) (st2 := [.int 0, .int (m.I 13 4), .ref 15]) (h2 := (sh_rep m.T m.I m.J)) rfl rfl rfl ?_
            refine sh_w (i := (.goto 26)) (len := 3) (pc2 := 59) (lv2 := [(0, .ref 14), (1, .int x1)]) (st2 := [.int 0, .int (m.I 13 4), .ref 15]) (h2 := (sh_rep m.T m.I m.J)) rfl rfl rfl ?_
            exact kk
          exact sh_Lk_sub (sh_sub_c rfl (sh_sub_c rfl (sh_sub_n))) (sl_102_59 (by decide) e tg)
        · refine sh_Lk_lift (T := m.T) (I := m.I) (J := m.J) (s := m.s) (pc2 := 46) (lv2 := [(0, .ref 14), (1, .int x1)]) (st2 := [.int ((m.I 13 4) - 1), .ref 15, .int (m.I 13 4), .ref 15]) (I2 := m.I) (J2 := m.J) (fun hT v kk => ?_) ?_
          · refine sh_j0 (c := .ne) (off := (7)) (pc2 := 36) true rfl (sh_Bnet c) rfl ?_
            refine sh_w (i := (.aload_n 0)) (len := 1) (pc2 := 37) (lv2 := [(0, .ref 14), (1, .int x1)]) (st2 := [.ref 14, .int (m.I 13 4), .ref 15]) (h2 := (sh_rep m.T m.I m.J)) rfl rfl rfl ?_
            refine sh_gR1 (len := 3) (x := .ref 15) (pc2 := 40) rfl rfl (sh_s13 hT.st) rfl rfl ?_
            refine sh_w (i := (.aload_n 0)) (len := 1) (pc2 := 41) (lv2 := [(0, .ref 14), (1, .int x1)]) (st2 := [.ref 14, .ref 15, .int (m.I 13 4), .ref 15]) (h2 := (sh_rep m.T m.I m.J)) rfl rfl rfl ?_
            refine sh_gI1 (len := 3) (x := m.I 13 4) (pc2 := 44) rfl rfl (sh_s13 hT.st) rfl rfl rfl ?_
            refine sh_w (i := (.iconst 1)) (len := 1) (pc2 := 45) (lv2 := [(0, .ref 14), (1, .int x1)]) (st2 := [.int 1, .int (m.I 13 4), .ref 15, .int (m.I 13 4), .ref 15]) (h2 := (sh_rep m.T m.I m.J)) rfl rfl rfl ?_
            refine sh_w (i := .isub) (len := 1) (pc2 := 46) (lv2 := [(0, .ref 14), (1, .int x1)]) (st2 := [.int ((m.I 13 4) - 1), .ref 15, .int (m.I 13 4), .ref 15]) (h2 := (sh_rep m.T m.I m.J)) rfl rfl rfl ?_
            exact kk
          obtain ⟨c, e⟩ := sh_gd e
          refine sh_Lk_lift (T := m.T) (I := m.I) (J := m.J) (s := m.s) (pc2 := 57) (lv2 := [(0, .ref 14), (1, .int x1)]) (st2 := [.int ((m.I 13 4) - 1), .ref 16, .int (m.I 14 (Int32.toNatClampNeg ((m.I 13 4) - 1))), .int (m.I 13 4), .ref 15]) (I2 := m.I) (J2 := m.J) (fun hT v kk => ?_) ?_
          · refine sh_ia1 (x := m.I 14 (Int32.toNatClampNeg ((m.I 13 4) - 1))) (pc2 := 47) rfl (sh_s14 hT.st) (sh_okb1 c) (sh_okb2 c) rfl rfl ?_
            refine sh_w (i := (.aload_n 0)) (len := 1) (pc2 := 48) (lv2 := [(0, .ref 14), (1, .int x1)]) (st2 := [.ref 14, .int (m.I 14 (Int32.toNatClampNeg ((m.I 13 4) - 1))), .int (m.I 13 4), .ref 15]) (h2 := (sh_rep m.T m.I m.J)) rfl rfl rfl ?_
            refine sh_gR1 (len := 3) (x := .ref 16) (pc2 := 51) rfl rfl (sh_s13 hT.st) rfl rfl ?_
            refine sh_w (i := (.aload_n 0)) (len := 1) (pc2 := 52) (lv2 := [(0, .ref 14), (1, .int x1)]) (st2 := [.ref 14, .ref 16, .int (m.I 14 (Int32.toNatClampNeg ((m.I 13 4) - 1))), .int (m.I 13 4), .ref 15]) (h2 := (sh_rep m.T m.I m.J)) rfl rfl rfl ?_
            refine sh_gI1 (len := 3) (x := m.I 13 4) (pc2 := 55) rfl rfl (sh_s13 hT.st) rfl rfl rfl ?_
            refine sh_w (i := (.iconst 1)) (len := 1) (pc2 := 56) (lv2 := [(0, .ref 14), (1, .int x1)]) (st2 := [.int 1, .int (m.I 13 4), .ref 16, .int (m.I 14 (Int32.toNatClampNeg ((m.I 13 4) - 1))), .int (m.I 13 4), .ref 15]) (h2 := (sh_rep m.T m.I m.J)) rfl rfl rfl ?_
            refine sh_w (i := .isub) (len := 1) (pc2 := 57) (lv2 := [(0, .ref 14), (1, .int x1)]) (st2 := [.int ((m.I 13 4) - 1), .ref 16, .int (m.I 14 (Int32.toNatClampNeg ((m.I 13 4) - 1))), .int (m.I 13 4), .ref 15]) (h2 := (sh_rep m.T m.I m.J)) rfl rfl rfl ?_
            exact kk
          obtain ⟨c, e⟩ := sh_gd e
          refine sh_Lk_lift (T := m.T) (I := m.I) (J := m.J) (s := m.s) (pc2 := 59) (lv2 := [(0, .ref 14), (1, .int x1)]) (st2 := [.int ((m.I 14 (Int32.toNatClampNeg ((m.I 13 4) - 1))) + (m.I 15 (Int32.toNatClampNeg ((m.I 13 4) - 1)))), .int (m.I 13 4), .ref 15]) (I2 := m.I) (J2 := m.J) (fun hT v kk => ?_) ?_
          · refine sh_ia1 (x := m.I 15 (Int32.toNatClampNeg ((m.I 13 4) - 1))) (pc2 := 58) rfl (sh_s15 hT.st) (sh_okb1 c) (sh_okb2 c) rfl rfl ?_
            refine sh_w (i := .iadd) (len := 1) (pc2 := 59) (lv2 := [(0, .ref 14), (1, .int x1)]) (st2 := [.int ((m.I 14 (Int32.toNatClampNeg ((m.I 13 4) - 1))) + (m.I 15 (Int32.toNatClampNeg ((m.I 13 4) - 1)))), .int (m.I 13 4), .ref 15]) (h2 := (sh_rep m.T m.I m.J)) rfl rfl rfl ?_
            exact kk
          exact sh_Lk_sub (sh_sub_c rfl (sh_sub_c rfl (sh_sub_n))) (sl_102_59 (by decide) e tg)
      · refine sh_Lk_lift (T := m.T) (I := m.I) (J := m.J) (s := m.s) (pc2 := 90) (lv2 := [(0, .ref 14), (1, .int x1)]) (st2 := []) (I2 := m.I) (J2 := m.J) (fun hT v kk => ?_) ?_
        · refine sh_jc (c := .ge) (off := (76)) (pc2 := 90) true rfl (sh_Bget c) rfl ?_
          exact kk
        obtain rfl := Option.some.inj e
        obtain ⟨rfl, rfl⟩ := tg
        exact sh_Lk_ret (i := .return_) rfl rfl rfl (Nat.le_of_ble_eq_true rfl) (Nat.le_of_ble_eq_true rfl)
  · refine sh_Lk_lift (T := m.T) (I := m.I) (J := m.J) (s := m.s) (pc2 := 4) (lv2 := [(0, .ref 19), (1, .int x1)]) (st2 := [.int (m.I 18 4)]) (I2 := m.I) (J2 := m.J) (fun hT v kk => ?_) ?_
    · refine sh_w (i := (.aload_n 0)) (len := 1) (pc2 := 1) (lv2 := [(0, .ref 19), (1, .int x1)]) (st2 := [.ref 19]) (h2 := (sh_rep m.T m.I m.J)) rfl rfl rfl ?_
      refine sh_gI1 (len := 3) (x := m.I 18 4) (pc2 := 4) rfl rfl (sh_s18 hT.st) rfl rfl rfl ?_
      exact kk
    rcases sh_ite e with ⟨c, e⟩ | ⟨c, e⟩
    · refine sh_Lk_lift (T := m.T) (I := m.I) (J := m.J) (s := m.s) (pc2 := 90) (lv2 := [(0, .ref 19), (1, .int x1)]) (st2 := []) (I2 := m.I) (J2 := m.J) (fun hT v kk => ?_) ?_
      · refine sh_j0 (c := .lt) (off := (86)) (pc2 := 90) true rfl (sh_Bltt c) rfl ?_
        exact kk
      obtain rfl := Option.some.inj e
      obtain ⟨rfl, rfl⟩ := tg
      exact sh_Lk_ret (i := .return_) rfl rfl rfl (Nat.le_of_ble_eq_true rfl) (Nat.le_of_ble_eq_true rfl)
    · refine sh_Lk_lift (T := m.T) (I := m.I) (J := m.J) (s := m.s) (pc2 := 14) (lv2 := [(0, .ref 19), (1, .int x1)]) (st2 := [.int 256, .int (m.I 18 4)]) (I2 := m.I) (J2 := m.J) (fun hT v kk => ?_) ?_
      · refine sh_j0 (c := .lt) (off := (86)) (pc2 := 7) false rfl (sh_Bltf c) rfl ?_
        refine sh_w (i := (.aload_n 0)) (len := 1) (pc2 := 8) (lv2 := [(0, .ref 19), (1, .int x1)]) (st2 := [.ref 19]) (h2 := (sh_rep m.T m.I m.J)) rfl rfl rfl ?_
        refine sh_gI1 (len := 3) (x := m.I 18 4) (pc2 := 11) rfl rfl (sh_s18 hT.st) rfl rfl rfl ?_
        refine sh_w (i := (.sipush 256)) (len := 3) (pc2 := 14) (lv2 := [(0, .ref 19), (1, .int x1)]) (st2 := [.int 256, .int (m.I 18 4)]) (h2 := (sh_rep m.T m.I m.J)) rfl rfl rfl ?_
        exact kk
      rcases sh_ite e with ⟨c, e⟩ | ⟨c, e⟩
      · refine sh_Lk_lift (T := m.T) (I := m.I) (J := m.J) (s := m.s) (pc2 := 29) (lv2 := [(0, .ref 19), (1, .int x1)]) (st2 := [.int (m.I 18 4), .int (m.I 18 4), .ref 20]) (I2 := m.I) (J2 := m.J) (fun hT v kk => ?_) ?_
        · refine sh_jc (c := .ge) (off := (76)) (pc2 := 17) false rfl (sh_Bgef c) rfl ?_
          refine sh_w (i := (.aload_n 0)) (len := 1) (pc2 := 18) (lv2 := [(0, .ref 19), (1, .int x1)]) (st2 := [.ref 19]) (h2 := (sh_rep m.T m.I m.J)) rfl rfl rfl ?_
          refine sh_gR1 (len := 3) (x := .ref 20) (pc2 := 21) rfl rfl (sh_s18 hT.st) rfl rfl ?_
          refine sh_w (i := (.aload_n 0)) (len := 1) (pc2 := 22) (lv2 := [(0, .ref 19), (1, .int x1)]) (st2 := [.ref 19, .ref 20]) (h2 := (sh_rep m.T m.I m.J)) rfl rfl rfl ?_
          refine sh_gI1 (len := 3) (x := m.I 18 4) (pc2 := 25) rfl rfl (sh_s18 hT.st) rfl rfl rfl ?_
          refine sh_w (i := (.aload_n 0)) (len := 1) (pc2 := 26) (lv2 := [(0, .ref 19), (1, .int x1)]) (st2 := [.ref 19, .int (m.I 18 4), .ref 20]) (h2 := (sh_rep m.T m.I m.J)) rfl rfl rfl ?_
          refine sh_gI1 (len := 3) (x := m.I 18 4) (pc2 := 29) rfl rfl (sh_s18 hT.st) rfl rfl rfl ?_
          exact kk
        rcases sh_ite e with ⟨c, e⟩ | ⟨c, e⟩
        · refine sh_Lk_lift (T := m.T) (I := m.I) (J := m.J) (s := m.s) (pc2 := 59) (lv2 := [(0, .ref 19), (1, .int x1)]) (st2 := [.int 0, .int (m.I 18 4), .ref 20]) (I2 := m.I) (J2 := m.J) (fun hT v kk => ?_) ?_
          · refine sh_j0 (c := .ne) (off := (7)) (pc2 := 32) false rfl (sh_Bnef c) rfl ?_
            refine sh_w (i := (.iconst 0)) (len := 1) (pc2 := 33) (lv2 := [(0, .ref 19), (1, .int x1)]) (st2 := [.int 0, .int (m.I 18 4), .ref 20]) (h2 := (sh_rep m.T m.I m.J)) rfl rfl rfl ?_
            refine sh_w (i := (.goto 26)) (len := 3) (pc2 := 59) (lv2 := [(0, .ref 19), (1, .int x1)]) (st2 := [.int 0, .int (m.I 18 4), .ref 20]) (h2 := (sh_rep m.T m.I m.J)) rfl rfl rfl ?_
            exact kk
          exact sh_Lk_sub (sh_sub_c rfl (sh_sub_c rfl (sh_sub_n))) (sl_102_59 (by decide) e tg)
        · refine sh_Lk_lift (T := m.T) (I := m.I) (J := m.J) (s := m.s) (pc2 := 46) (lv2 := [(0, .ref 19), (1, .int x1)]) (st2 := [.int ((m.I 18 4) - 1), .ref 20, .int (m.I 18 4), .ref 20]) (I2 := m.I) (J2 := m.J) (fun hT v kk => ?_) ?_
          · refine sh_j0 (c := .ne) (off := (7)) (pc2 := 36) true rfl (sh_Bnet c) rfl ?_
            refine sh_w (i := (.aload_n 0)) (len := 1) (pc2 := 37) (lv2 := [(0, .ref 19), (1, .int x1)]) (st2 := [.ref 19, .int (m.I 18 4), .ref 20]) (h2 := (sh_rep m.T m.I m.J)) rfl rfl rfl ?_
            refine sh_gR1 (len := 3) (x := .ref 20) (pc2 := 40) rfl rfl (sh_s18 hT.st) rfl rfl ?_
            refine sh_w (i := (.aload_n 0)) (len := 1) (pc2 := 41) (lv2 := [(0, .ref 19), (1, .int x1)]) (st2 := [.ref 19, .ref 20, .int (m.I 18 4), .ref 20]) (h2 := (sh_rep m.T m.I m.J)) rfl rfl rfl ?_
            refine sh_gI1 (len := 3) (x := m.I 18 4) (pc2 := 44) rfl rfl (sh_s18 hT.st) rfl rfl rfl ?_
            refine sh_w (i := (.iconst 1)) (len := 1) (pc2 := 45) (lv2 := [(0, .ref 19), (1, .int x1)]) (st2 := [.int 1, .int (m.I 18 4), .ref 20, .int (m.I 18 4), .ref 20]) (h2 := (sh_rep m.T m.I m.J)) rfl rfl rfl ?_
            refine sh_w (i := .isub) (len := 1) (pc2 := 46) (lv2 := [(0, .ref 19), (1, .int x1)]) (st2 := [.int ((m.I 18 4) - 1), .ref 20, .int (m.I 18 4), .ref 20]) (h2 := (sh_rep m.T m.I m.J)) rfl rfl rfl ?_
            exact kk
          obtain ⟨c, e⟩ := sh_gd e
          refine sh_Lk_lift (T := m.T) (I := m.I) (J := m.J) (s := m.s) (pc2 := 57) (lv2 := [(0, .ref 19), (1, .int x1)]) (st2 := [.int ((m.I 18 4) - 1), .ref 21, .int (m.I 19 (Int32.toNatClampNeg ((m.I 18 4) - 1))), .int (m.I 18 4), .ref 20]) (I2 := m.I) (J2 := m.J) (fun hT v kk => ?_) ?_
          · refine sh_ia1 (x := m.I 19 (Int32.toNatClampNeg ((m.I 18 4) - 1))) (pc2 := 47) rfl (sh_s19 hT.st) (sh_okb1 c) (sh_okb2 c) rfl rfl ?_
            refine sh_w (i := (.aload_n 0)) (len := 1) (pc2 := 48) (lv2 := [(0, .ref 19), (1, .int x1)]) (st2 := [.ref 19, .int (m.I 19 (Int32.toNatClampNeg ((m.I 18 4) - 1))), .int (m.I 18 4), .ref 20]) (h2 := (sh_rep m.T m.I m.J)) rfl rfl rfl ?_
            refine sh_gR1 (len := 3) (x := .ref 21) (pc2 := 51) rfl rfl (sh_s18 hT.st) rfl rfl ?_
            refine sh_w (i := (.aload_n 0)) (len := 1) (pc2 := 52) (lv2 := [(0, .ref 19), (1, .int x1)]) (st2 := [.ref 19, .ref 21, .int (m.I 19 (Int32.toNatClampNeg ((m.I 18 4) - 1))), .int (m.I 18 4), .ref 20]) (h2 := (sh_rep m.T m.I m.J)) rfl rfl rfl ?_
            refine sh_gI1 (len := 3) (x := m.I 18 4) (pc2 := 55) rfl rfl (sh_s18 hT.st) rfl rfl rfl ?_
            refine sh_w (i := (.iconst 1)) (len := 1) (pc2 := 56) (lv2 := [(0, .ref 19), (1, .int x1)]) (st2 := [.int 1, .int (m.I 18 4), .ref 21, .int (m.I 19 (Int32.toNatClampNeg ((m.I 18 4) - 1))), .int (m.I 18 4), .ref 20]) (h2 := (sh_rep m.T m.I m.J)) rfl rfl rfl ?_
            refine sh_w (i := .isub) (len := 1) (pc2 := 57) (lv2 := [(0, .ref 19), (1, .int x1)]) (st2 := [.int ((m.I 18 4) - 1), .ref 21, .int (m.I 19 (Int32.toNatClampNeg ((m.I 18 4) - 1))), .int (m.I 18 4), .ref 20]) (h2 := (sh_rep m.T m.I m.J)) rfl rfl rfl ?_
            exact kk
          obtain ⟨c, e⟩ := sh_gd e
          refine sh_Lk_lift (T := m.T) (I := m.I) (J := m.J) (s := m.s) (pc2 := 59) (lv2 := [(0, .ref 19), (1, .int x1)]) (st2 := [.int ((m.I 19 (Int32.toNatClampNeg ((m.I 18 4) - 1))) + (m.I 20 (Int32.toNatClampNeg ((m.I 18 4) - 1)))), .int (m.I 18 4), .ref 20]) (I2 := m.I) (J2 := m.J) (fun hT v kk => ?_) ?_
          · refine sh_ia1 (x := m.I 20 (Int32.toNatClampNeg ((m.I 18 4) - 1))) (pc2 := 58) rfl (sh_s20 hT.st) (sh_okb1 c) (sh_okb2 c) rfl rfl ?_
            refine sh_w (i := .iadd) (len := 1) (pc2 := 59) (lv2 := [(0, .ref 19), (1, .int x1)]) (st2 := [.int ((m.I 19 (Int32.toNatClampNeg ((m.I 18 4) - 1))) + (m.I 20 (Int32.toNatClampNeg ((m.I 18 4) - 1)))), .int (m.I 18 4), .ref 20]) (h2 := (sh_rep m.T m.I m.J)) rfl rfl rfl ?_
            exact kk
          exact sh_Lk_sub (sh_sub_c rfl (sh_sub_c rfl (sh_sub_n))) (sl_102_59 (by decide) e tg)
      · refine sh_Lk_lift (T := m.T) (I := m.I) (J := m.J) (s := m.s) (pc2 := 90) (lv2 := [(0, .ref 19), (1, .int x1)]) (st2 := []) (I2 := m.I) (J2 := m.J) (fun hT v kk => ?_) ?_
        · refine sh_jc (c := .ge) (off := (76)) (pc2 := 90) true rfl (sh_Bget c) rfl ?_
          exact kk
        obtain rfl := Option.some.inj e
        obtain ⟨rfl, rfl⟩ := tg
        exact sh_Lk_ret (i := .return_) rfl rfl rfl (Nat.le_of_ble_eq_true rfl) (Nat.le_of_ble_eq_true rfl)
  · refine sh_Lk_lift (T := m.T) (I := m.I) (J := m.J) (s := m.s) (pc2 := 4) (lv2 := [(0, .ref 24), (1, .int x1)]) (st2 := [.int (m.I 23 4)]) (I2 := m.I) (J2 := m.J) (fun hT v kk => ?_) ?_
    · refine sh_w (i := (.aload_n 0)) (len := 1) (pc2 := 1) (lv2 := [(0, .ref 24), (1, .int x1)]) (st2 := [.ref 24]) (h2 := (sh_rep m.T m.I m.J)) rfl rfl rfl ?_
      refine sh_gI1 (len := 3) (x := m.I 23 4) (pc2 := 4) rfl rfl (sh_s23 hT.st) rfl rfl rfl ?_
      exact kk
    rcases sh_ite e with ⟨c, e⟩ | ⟨c, e⟩
    · refine sh_Lk_lift (T := m.T) (I := m.I) (J := m.J) (s := m.s) (pc2 := 90) (lv2 := [(0, .ref 24), (1, .int x1)]) (st2 := []) (I2 := m.I) (J2 := m.J) (fun hT v kk => ?_) ?_
      · refine sh_j0 (c := .lt) (off := (86)) (pc2 := 90) true rfl (sh_Bltt c) rfl ?_
        exact kk
      obtain rfl := Option.some.inj e
      obtain ⟨rfl, rfl⟩ := tg
      exact sh_Lk_ret (i := .return_) rfl rfl rfl (Nat.le_of_ble_eq_true rfl) (Nat.le_of_ble_eq_true rfl)
    · refine sh_Lk_lift (T := m.T) (I := m.I) (J := m.J) (s := m.s) (pc2 := 14) (lv2 := [(0, .ref 24), (1, .int x1)]) (st2 := [.int 256, .int (m.I 23 4)]) (I2 := m.I) (J2 := m.J) (fun hT v kk => ?_) ?_
      · refine sh_j0 (c := .lt) (off := (86)) (pc2 := 7) false rfl (sh_Bltf c) rfl ?_
        refine sh_w (i := (.aload_n 0)) (len := 1) (pc2 := 8) (lv2 := [(0, .ref 24), (1, .int x1)]) (st2 := [.ref 24]) (h2 := (sh_rep m.T m.I m.J)) rfl rfl rfl ?_
        refine sh_gI1 (len := 3) (x := m.I 23 4) (pc2 := 11) rfl rfl (sh_s23 hT.st) rfl rfl rfl ?_
        refine sh_w (i := (.sipush 256)) (len := 3) (pc2 := 14) (lv2 := [(0, .ref 24), (1, .int x1)]) (st2 := [.int 256, .int (m.I 23 4)]) (h2 := (sh_rep m.T m.I m.J)) rfl rfl rfl ?_
        exact kk
      rcases sh_ite e with ⟨c, e⟩ | ⟨c, e⟩
      · refine sh_Lk_lift (T := m.T) (I := m.I) (J := m.J) (s := m.s) (pc2 := 29) (lv2 := [(0, .ref 24), (1, .int x1)]) (st2 := [.int (m.I 23 4), .int (m.I 23 4), .ref 25]) (I2 := m.I) (J2 := m.J) (fun hT v kk => ?_) ?_
        · refine sh_jc (c := .ge) (off := (76)) (pc2 := 17) false rfl (sh_Bgef c) rfl ?_
          refine sh_w (i := (.aload_n 0)) (len := 1) (pc2 := 18) (lv2 := [(0, .ref 24), (1, .int x1)]) (st2 := [.ref 24]) (h2 := (sh_rep m.T m.I m.J)) rfl rfl rfl ?_
          refine sh_gR1 (len := 3) (x := .ref 25) (pc2 := 21) rfl rfl (sh_s23 hT.st) rfl rfl ?_
          refine sh_w (i := (.aload_n 0)) (len := 1) (pc2 := 22) (lv2 := [(0, .ref 24), (1, .int x1)]) (st2 := [.ref 24, .ref 25]) (h2 := (sh_rep m.T m.I m.J)) rfl rfl rfl ?_
          refine sh_gI1 (len := 3) (x := m.I 23 4) (pc2 := 25) rfl rfl (sh_s23 hT.st) rfl rfl rfl ?_
          refine sh_w (i := (.aload_n 0)) (len := 1) (pc2 := 26) (lv2 := [(0, .ref 24), (1, .int x1)]) (st2 := [.ref 24, .int (m.I 23 4), .ref 25]) (h2 := (sh_rep m.T m.I m.J)) rfl rfl rfl ?_
          refine sh_gI1 (len := 3) (x := m.I 23 4) (pc2 := 29) rfl rfl (sh_s23 hT.st) rfl rfl rfl ?_
          exact kk
        rcases sh_ite e with ⟨c, e⟩ | ⟨c, e⟩
        · refine sh_Lk_lift (T := m.T) (I := m.I) (J := m.J) (s := m.s) (pc2 := 59) (lv2 := [(0, .ref 24), (1, .int x1)]) (st2 := [.int 0, .int (m.I 23 4), .ref 25]) (I2 := m.I) (J2 := m.J) (fun hT v kk => ?_) ?_
          · refine sh_j0 (c := .ne) (off := (7)) (pc2 := 32) false rfl (sh_Bnef c) rfl ?_
            refine sh_w (i := (.iconst 0)) (len := 1) (pc2 := 33) (lv2 := [(0, .ref 24), (1, .int x1)]) (st2 := [.int 0, .int (m.I 23 4), .ref 25]) (h2 := (sh_rep m.T m.I m.J)) rfl rfl rfl ?_
            refine sh_w (i := (.goto 26)) (len := 3) (pc2 := 59) (lv2 := [(0, .ref 24), (1, .int x1)]) (st2 := [.int 0, .int (m.I 23 4), .ref 25]) (h2 := (sh_rep m.T m.I m.J)) rfl rfl rfl ?_
            exact kk
          exact sh_Lk_sub (sh_sub_c rfl (sh_sub_c rfl (sh_sub_n))) (sl_102_59 (by decide) e tg)
        · refine sh_Lk_lift (T := m.T) (I := m.I) (J := m.J) (s := m.s) (pc2 := 46) (lv2 := [(0, .ref 24), (1, .int x1)]) (st2 := [.int ((m.I 23 4) - 1), .ref 25, .int (m.I 23 4), .ref 25]) (I2 := m.I) (J2 := m.J) (fun hT v kk => ?_) ?_
          · refine sh_j0 (c := .ne) (off := (7)) (pc2 := 36) true rfl (sh_Bnet c) rfl ?_
            refine sh_w (i := (.aload_n 0)) (len := 1) (pc2 := 37) (lv2 := [(0, .ref 24), (1, .int x1)]) (st2 := [.ref 24, .int (m.I 23 4), .ref 25]) (h2 := (sh_rep m.T m.I m.J)) rfl rfl rfl ?_
            refine sh_gR1 (len := 3) (x := .ref 25) (pc2 := 40) rfl rfl (sh_s23 hT.st) rfl rfl ?_
            refine sh_w (i := (.aload_n 0)) (len := 1) (pc2 := 41) (lv2 := [(0, .ref 24), (1, .int x1)]) (st2 := [.ref 24, .ref 25, .int (m.I 23 4), .ref 25]) (h2 := (sh_rep m.T m.I m.J)) rfl rfl rfl ?_
            refine sh_gI1 (len := 3) (x := m.I 23 4) (pc2 := 44) rfl rfl (sh_s23 hT.st) rfl rfl rfl ?_
            refine sh_w (i := (.iconst 1)) (len := 1) (pc2 := 45) (lv2 := [(0, .ref 24), (1, .int x1)]) (st2 := [.int 1, .int (m.I 23 4), .ref 25, .int (m.I 23 4), .ref 25]) (h2 := (sh_rep m.T m.I m.J)) rfl rfl rfl ?_
            refine sh_w (i := .isub) (len := 1) (pc2 := 46) (lv2 := [(0, .ref 24), (1, .int x1)]) (st2 := [.int ((m.I 23 4) - 1), .ref 25, .int (m.I 23 4), .ref 25]) (h2 := (sh_rep m.T m.I m.J)) rfl rfl rfl ?_
            exact kk
          obtain ⟨c, e⟩ := sh_gd e
          refine sh_Lk_lift (T := m.T) (I := m.I) (J := m.J) (s := m.s) (pc2 := 57) (lv2 := [(0, .ref 24), (1, .int x1)]) (st2 := [.int ((m.I 23 4) - 1), .ref 26, .int (m.I 24 (Int32.toNatClampNeg ((m.I 23 4) - 1))), .int (m.I 23 4), .ref 25]) (I2 := m.I) (J2 := m.J) (fun hT v kk => ?_) ?_
          · refine sh_ia1 (x := m.I 24 (Int32.toNatClampNeg ((m.I 23 4) - 1))) (pc2 := 47) rfl (sh_s24 hT.st) (sh_okb1 c) (sh_okb2 c) rfl rfl ?_
            refine sh_w (i := (.aload_n 0)) (len := 1) (pc2 := 48) (lv2 := [(0, .ref 24), (1, .int x1)]) (st2 := [.ref 24, .int (m.I 24 (Int32.toNatClampNeg ((m.I 23 4) - 1))), .int (m.I 23 4), .ref 25]) (h2 := (sh_rep m.T m.I m.J)) rfl rfl rfl ?_
            refine sh_gR1 (len := 3) (x := .ref 26) (pc2 := 51) rfl rfl (sh_s23 hT.st) rfl rfl ?_
            refine sh_w (i := (.aload_n 0)) (len := 1) (pc2 := 52) (lv2 := [(0, .ref 24), (1, .int x1)]) (st2 := [.ref 24, .ref 26, .int (m.I 24 (Int32.toNatClampNeg ((m.I 23 4) - 1))), .int (m.I 23 4), .ref 25]) (h2 := (sh_rep m.T m.I m.J)) rfl rfl rfl ?_
            refine sh_gI1 (len := 3) (x := m.I 23 4) (pc2 := 55) rfl rfl (sh_s23 hT.st) rfl rfl rfl ?_
            refine sh_w (i := (.iconst 1)) (len := 1) (pc2 := 56) (lv2 := [(0, .ref 24), (1, .int x1)]) (st2 := [.int 1, .int (m.I 23 4), .ref 26, .int (m.I 24 (Int32.toNatClampNeg ((m.I 23 4) - 1))), .int (m.I 23 4), .ref 25]) (h2 := (sh_rep m.T m.I m.J)) rfl rfl rfl ?_
            refine sh_w (i := .isub) (len := 1) (pc2 := 57) (lv2 := [(0, .ref 24), (1, .int x1)]) (st2 := [.int ((m.I 23 4) - 1), .ref 26, .int (m.I 24 (Int32.toNatClampNeg ((m.I 23 4) - 1))), .int (m.I 23 4), .ref 25]) (h2 := (sh_rep m.T m.I m.J)) rfl rfl rfl ?_
            exact kk
          obtain ⟨c, e⟩ := sh_gd e
          refine sh_Lk_lift (T := m.T) (I := m.I) (J := m.J) (s := m.s) (pc2 := 59) (lv2 := [(0, .ref 24), (1, .int x1)]) (st2 := [.int ((m.I 24 (Int32.toNatClampNeg ((m.I 23 4) - 1))) + (m.I 25 (Int32.toNatClampNeg ((m.I 23 4) - 1)))), .int (m.I 23 4), .ref 25]) (I2 := m.I) (J2 := m.J) (fun hT v kk => ?_) ?_
          · refine sh_ia1 (x := m.I 25 (Int32.toNatClampNeg ((m.I 23 4) - 1))) (pc2 := 58) rfl (sh_s25 hT.st) (sh_okb1 c) (sh_okb2 c) rfl rfl ?_
            refine sh_w (i := .iadd) (len := 1) (pc2 := 59) (lv2 := [(0, .ref 24), (1, .int x1)]) (st2 := [.int ((m.I 24 (Int32.toNatClampNeg ((m.I 23 4) - 1))) + (m.I 25 (Int32.toNatClampNeg ((m.I 23 4) - 1)))), .int (m.I 23 4), .ref 25]) (h2 := (sh_rep m.T m.I m.J)) rfl rfl rfl ?_
            exact kk
          exact sh_Lk_sub (sh_sub_c rfl (sh_sub_c rfl (sh_sub_n))) (sl_102_59 (by decide) e tg)
      · refine sh_Lk_lift (T := m.T) (I := m.I) (J := m.J) (s := m.s) (pc2 := 90) (lv2 := [(0, .ref 24), (1, .int x1)]) (st2 := []) (I2 := m.I) (J2 := m.J) (fun hT v kk => ?_) ?_
        · refine sh_jc (c := .ge) (off := (76)) (pc2 := 90) true rfl (sh_Bget c) rfl ?_
          exact kk
        obtain rfl := Option.some.inj e
        obtain ⟨rfl, rfl⟩ := tg
        exact sh_Lk_ret (i := .return_) rfl rfl rfl (Nat.le_of_ble_eq_true rfl) (Nat.le_of_ble_eq_true rfl)
theorem sl_103 {x1 : Int32} {m m2 : sh_X} {o : Outcome} {z : Int32} (e : sf_103 x1 m = some z) (tg : (sh_tIc m o m2) z) : sh_Lk 103 0 [(0, .ref 45), (1, .int x1)] [] m o m2 8 200 := by
  unfold sf_103 at e
  refine sh_Lk_lift (T := m.T) (I := m.I) (J := m.J) (s := m.s) (pc2 := 1) (lv2 := [(0, .ref 45), (1, .int x1)]) (st2 := [.int x1]) (I2 := m.I) (J2 := m.J) (fun hT v kk => ?_) ?_
  · refine sh_w (i := (.iload_n 1)) (len := 1) (pc2 := 1) (lv2 := [(0, .ref 45), (1, .int x1)]) (st2 := [.int x1]) (h2 := (sh_rep m.T m.I m.J)) rfl rfl rfl ?_
    exact kk
  rcases sh_ite e with ⟨c, e⟩ | ⟨c, e⟩
  · refine sh_Lk_lift (T := m.T) (I := m.I) (J := m.J) (s := m.s) (pc2 := 22) (lv2 := [(0, .ref 45), (1, .int x1)]) (st2 := [.int 0]) (I2 := m.I) (J2 := m.J) (fun hT v kk => ?_) ?_
    · refine sh_j0 (c := .lt) (off := (20)) (pc2 := 21) true rfl (sh_Bltt c) rfl ?_
      refine sh_w (i := (.iconst 0)) (len := 1) (pc2 := 22) (lv2 := [(0, .ref 45), (1, .int x1)]) (st2 := [.int 0]) (h2 := (sh_rep m.T m.I m.J)) rfl rfl rfl ?_
      exact kk
    obtain rfl := Option.some.inj e
    obtain ⟨rfl, rfl⟩ := tg
    exact sh_Lk_ret (i := .ireturn) rfl rfl rfl (Nat.le_of_ble_eq_true rfl) (Nat.le_of_ble_eq_true rfl)
  · refine sh_Lk_lift (T := m.T) (I := m.I) (J := m.J) (s := m.s) (pc2 := 9) (lv2 := [(0, .ref 45), (1, .int x1)]) (st2 := [.int (m.I 44 4), .int x1]) (I2 := m.I) (J2 := m.J) (fun hT v kk => ?_) ?_
    · refine sh_j0 (c := .lt) (off := (20)) (pc2 := 4) false rfl (sh_Bltf c) rfl ?_
      refine sh_w (i := (.iload_n 1)) (len := 1) (pc2 := 5) (lv2 := [(0, .ref 45), (1, .int x1)]) (st2 := [.int x1]) (h2 := (sh_rep m.T m.I m.J)) rfl rfl rfl ?_
      refine sh_w (i := (.aload_n 0)) (len := 1) (pc2 := 6) (lv2 := [(0, .ref 45), (1, .int x1)]) (st2 := [.ref 45, .int x1]) (h2 := (sh_rep m.T m.I m.J)) rfl rfl rfl ?_
      refine sh_gI1 (len := 3) (x := m.I 44 4) (pc2 := 9) rfl rfl (sh_s44 hT.st) rfl rfl rfl ?_
      exact kk
    rcases sh_ite e with ⟨c, e⟩ | ⟨c, e⟩
    · refine sh_Lk_lift (T := m.T) (I := m.I) (J := m.J) (s := m.s) (pc2 := 17) (lv2 := [(0, .ref 45), (1, .int x1)]) (st2 := [.int x1, .ref 46]) (I2 := m.I) (J2 := m.J) (fun hT v kk => ?_) ?_
      · refine sh_jc (c := .ge) (off := (12)) (pc2 := 12) false rfl (sh_Bgef c) rfl ?_
        refine sh_w (i := (.aload_n 0)) (len := 1) (pc2 := 13) (lv2 := [(0, .ref 45), (1, .int x1)]) (st2 := [.ref 45]) (h2 := (sh_rep m.T m.I m.J)) rfl rfl rfl ?_
        refine sh_gR1 (len := 3) (x := .ref 46) (pc2 := 16) rfl rfl (sh_s44 hT.st) rfl rfl ?_
        refine sh_w (i := (.iload_n 1)) (len := 1) (pc2 := 17) (lv2 := [(0, .ref 45), (1, .int x1)]) (st2 := [.int x1, .ref 46]) (h2 := (sh_rep m.T m.I m.J)) rfl rfl rfl ?_
        exact kk
      obtain ⟨c, e⟩ := sh_gd e
      refine sh_Lk_lift (T := m.T) (I := m.I) (J := m.J) (s := m.s) (pc2 := 22) (lv2 := [(0, .ref 45), (1, .int x1)]) (st2 := [.int (m.I 45 (Int32.toNatClampNeg x1))]) (I2 := m.I) (J2 := m.J) (fun hT v kk => ?_) ?_
      · refine sh_ia1 (x := m.I 45 (Int32.toNatClampNeg x1)) (pc2 := 18) rfl (sh_s45 hT.st) (sh_okb1 c) (sh_okb2 c) rfl rfl ?_
        refine sh_w (i := (.goto 4)) (len := 3) (pc2 := 22) (lv2 := [(0, .ref 45), (1, .int x1)]) (st2 := [.int (m.I 45 (Int32.toNatClampNeg x1))]) (h2 := (sh_rep m.T m.I m.J)) rfl rfl rfl ?_
        exact kk
      obtain rfl := Option.some.inj e
      obtain ⟨rfl, rfl⟩ := tg
      exact sh_Lk_ret (i := .ireturn) rfl rfl rfl (Nat.le_of_ble_eq_true rfl) (Nat.le_of_ble_eq_true rfl)
    · refine sh_Lk_lift (T := m.T) (I := m.I) (J := m.J) (s := m.s) (pc2 := 22) (lv2 := [(0, .ref 45), (1, .int x1)]) (st2 := [.int 0]) (I2 := m.I) (J2 := m.J) (fun hT v kk => ?_) ?_
      · refine sh_jc (c := .ge) (off := (12)) (pc2 := 21) true rfl (sh_Bget c) rfl ?_
        refine sh_w (i := (.iconst 0)) (len := 1) (pc2 := 22) (lv2 := [(0, .ref 45), (1, .int x1)]) (st2 := [.int 0]) (h2 := (sh_rep m.T m.I m.J)) rfl rfl rfl ?_
        exact kk
      obtain rfl := Option.some.inj e
      obtain ⟨rfl, rfl⟩ := tg
      exact sh_Lk_ret (i := .ireturn) rfl rfl rfl (Nat.le_of_ble_eq_true rfl) (Nat.le_of_ble_eq_true rfl)
theorem sl_104 {x0 : Nat} {x1 : Int32} {m m2 : sh_X} {o : Outcome} {z : (Unit × sh_X)} (hx0 : sh_isE x0) (e : sf_104 x0 x1 m = some z) (tg : (sh_tV o m2) z) : sh_Lk 104 0 [(0, .ref (x0 + 1)), (1, .int x1)] [] m o m2 8 200 := by
  unfold sf_104 at e
  rcases hx0 with rfl | rfl | rfl
  · refine sh_Lk_lift (T := m.T) (I := m.I) (J := m.J) (s := m.s) (pc2 := 7) (lv2 := [(0, .ref 14), (1, .int x1)]) (st2 := [.int 1000, .int (m.I 13 5)]) (I2 := m.I) (J2 := m.J) (fun hT v kk => ?_) ?_
    · refine sh_w (i := (.aload_n 0)) (len := 1) (pc2 := 1) (lv2 := [(0, .ref 14), (1, .int x1)]) (st2 := [.ref 14]) (h2 := (sh_rep m.T m.I m.J)) rfl rfl rfl ?_
      refine sh_gI1 (len := 3) (x := m.I 13 5) (pc2 := 4) rfl rfl (sh_s13 hT.st) rfl rfl rfl ?_
      refine sh_w (i := (.sipush 1000)) (len := 3) (pc2 := 7) (lv2 := [(0, .ref 14), (1, .int x1)]) (st2 := [.int 1000, .int (m.I 13 5)]) (h2 := (sh_rep m.T m.I m.J)) rfl rfl rfl ?_
      exact kk
    rcases sh_ite e with ⟨c, e⟩ | ⟨c, e⟩
    · refine sh_Lk_lift (T := m.T) (I := m.I) (J := m.J) (s := m.s) (pc2 := 19) (lv2 := [(0, .ref 14), (1, .int x1)]) (st2 := [.int x1, .int (m.I 13 5), .ref 18]) (I2 := m.I) (J2 := m.J) (fun hT v kk => ?_) ?_
      · refine sh_jc (c := .ge) (off := (23)) (pc2 := 10) false rfl (sh_Bgef c) rfl ?_
        refine sh_w (i := (.aload_n 0)) (len := 1) (pc2 := 11) (lv2 := [(0, .ref 14), (1, .int x1)]) (st2 := [.ref 14]) (h2 := (sh_rep m.T m.I m.J)) rfl rfl rfl ?_
        refine sh_gR1 (len := 3) (x := .ref 18) (pc2 := 14) rfl rfl (sh_s13 hT.st) rfl rfl ?_
        refine sh_w (i := (.aload_n 0)) (len := 1) (pc2 := 15) (lv2 := [(0, .ref 14), (1, .int x1)]) (st2 := [.ref 14, .ref 18]) (h2 := (sh_rep m.T m.I m.J)) rfl rfl rfl ?_
        refine sh_gI1 (len := 3) (x := m.I 13 5) (pc2 := 18) rfl rfl (sh_s13 hT.st) rfl rfl rfl ?_
        refine sh_w (i := (.iload_n 1)) (len := 1) (pc2 := 19) (lv2 := [(0, .ref 14), (1, .int x1)]) (st2 := [.int x1, .int (m.I 13 5), .ref 18]) (h2 := (sh_rep m.T m.I m.J)) rfl rfl rfl ?_
        exact kk
      obtain ⟨c, e⟩ := sh_gd e
      refine sh_Lk_lift (T := m.T) (I := m.I) (J := m.J) (s := m.s) (pc2 := 30) (lv2 := [(0, .ref 14), (1, .int x1)]) (st2 := []) (I2 := sh_u2 (sh_u2 m.I 17 (Int32.toNatClampNeg (m.I 13 5)) x1) 13 5 ((m.I 13 5) + 1)) (J2 := m.J) (fun hT v kk => ?_) ?_
      · refine sh_is1 (x := x1) (i := m.I 13 5) (pc2 := 20) rfl (sh_s17 hT.st) (sh_okb1 c) (sh_okb2 c) rfl ?_
        refine sh_w (i := (.aload_n 0)) (len := 1) (pc2 := 21) (lv2 := [(0, .ref 14), (1, .int x1)]) (st2 := [.ref 14]) (h2 := (sh_rep m.T (sh_u2 m.I 17 (Int32.toNatClampNeg (m.I 13 5)) x1) m.J)) rfl rfl rfl ?_
        refine sh_w (i := .dup) (len := 1) (pc2 := 22) (lv2 := [(0, .ref 14), (1, .int x1)]) (st2 := [.ref 14, .ref 14]) (h2 := (sh_rep m.T (sh_u2 m.I 17 (Int32.toNatClampNeg (m.I 13 5)) x1) m.J)) rfl rfl rfl ?_
        refine sh_gI1 (len := 3) (x := m.I 13 5) (pc2 := 25) rfl rfl (sh_s13 hT.st) rfl rfl rfl ?_
        refine sh_w (i := (.iconst 1)) (len := 1) (pc2 := 26) (lv2 := [(0, .ref 14), (1, .int x1)]) (st2 := [.int 1, .int (m.I 13 5), .ref 14]) (h2 := (sh_rep m.T (sh_u2 m.I 17 (Int32.toNatClampNeg (m.I 13 5)) x1) m.J)) rfl rfl rfl ?_
        refine sh_w (i := .iadd) (len := 1) (pc2 := 27) (lv2 := [(0, .ref 14), (1, .int x1)]) (st2 := [.int ((m.I 13 5) + 1), .ref 14]) (h2 := (sh_rep m.T (sh_u2 m.I 17 (Int32.toNatClampNeg (m.I 13 5)) x1) m.J)) rfl rfl rfl ?_
        refine sh_pI1 (x := (m.I 13 5) + 1) (pc2 := 30) rfl rfl (sh_s13 hT.st) rfl rfl rfl rfl ?_
        exact kk
      obtain rfl := Option.some.inj e
      obtain ⟨rfl, rfl⟩ := tg
      exact sh_Lk_ret (i := .return_) rfl rfl rfl (Nat.le_of_ble_eq_true rfl) (Nat.le_of_ble_eq_true rfl)
    · refine sh_Lk_lift (T := m.T) (I := m.I) (J := m.J) (s := m.s) (pc2 := 30) (lv2 := [(0, .ref 14), (1, .int x1)]) (st2 := []) (I2 := m.I) (J2 := m.J) (fun hT v kk => ?_) ?_
      · refine sh_jc (c := .ge) (off := (23)) (pc2 := 30) true rfl (sh_Bget c) rfl ?_
        exact kk
      obtain rfl := Option.some.inj e
      obtain ⟨rfl, rfl⟩ := tg
      exact sh_Lk_ret (i := .return_) rfl rfl rfl (Nat.le_of_ble_eq_true rfl) (Nat.le_of_ble_eq_true rfl)
  · refine sh_Lk_lift (T := m.T) (I := m.I) (J := m.J) (s := m.s) (pc2 := 7) (lv2 := [(0, .ref 19), (1, .int x1)]) (st2 := [.int 1000, .int (m.I 18 5)]) (I2 := m.I) (J2 := m.J) (fun hT v kk => ?_) ?_
    · refine sh_w (i := (.aload_n 0)) (len := 1) (pc2 := 1) (lv2 := [(0, .ref 19), (1, .int x1)]) (st2 := [.ref 19]) (h2 := (sh_rep m.T m.I m.J)) rfl rfl rfl ?_
      refine sh_gI1 (len := 3) (x := m.I 18 5) (pc2 := 4) rfl rfl (sh_s18 hT.st) rfl rfl rfl ?_
      refine sh_w (i := (.sipush 1000)) (len := 3) (pc2 := 7) (lv2 := [(0, .ref 19), (1, .int x1)]) (st2 := [.int 1000, .int (m.I 18 5)]) (h2 := (sh_rep m.T m.I m.J)) rfl rfl rfl ?_
      exact kk
    rcases sh_ite e with ⟨c, e⟩ | ⟨c, e⟩
    · refine sh_Lk_lift (T := m.T) (I := m.I) (J := m.J) (s := m.s) (pc2 := 19) (lv2 := [(0, .ref 19), (1, .int x1)]) (st2 := [.int x1, .int (m.I 18 5), .ref 23]) (I2 := m.I) (J2 := m.J) (fun hT v kk => ?_) ?_
      · refine sh_jc (c := .ge) (off := (23)) (pc2 := 10) false rfl (sh_Bgef c) rfl ?_
        refine sh_w (i := (.aload_n 0)) (len := 1) (pc2 := 11) (lv2 := [(0, .ref 19), (1, .int x1)]) (st2 := [.ref 19]) (h2 := (sh_rep m.T m.I m.J)) rfl rfl rfl ?_
        refine sh_gR1 (len := 3) (x := .ref 23) (pc2 := 14) rfl rfl (sh_s18 hT.st) rfl rfl ?_
        refine sh_w (i := (.aload_n 0)) (len := 1) (pc2 := 15) (lv2 := [(0, .ref 19), (1, .int x1)]) (st2 := [.ref 19, .ref 23]) (h2 := (sh_rep m.T m.I m.J)) rfl rfl rfl ?_
        refine sh_gI1 (len := 3) (x := m.I 18 5) (pc2 := 18) rfl rfl (sh_s18 hT.st) rfl rfl rfl ?_
        refine sh_w (i := (.iload_n 1)) (len := 1) (pc2 := 19) (lv2 := [(0, .ref 19), (1, .int x1)]) (st2 := [.int x1, .int (m.I 18 5), .ref 23]) (h2 := (sh_rep m.T m.I m.J)) rfl rfl rfl ?_
        exact kk
      obtain ⟨c, e⟩ := sh_gd e
      refine sh_Lk_lift (T := m.T) (I := m.I) (J := m.J) (s := m.s) (pc2 := 30) (lv2 := [(0, .ref 19), (1, .int x1)]) (st2 := []) (I2 := sh_u2 (sh_u2 m.I 22 (Int32.toNatClampNeg (m.I 18 5)) x1) 18 5 ((m.I 18 5) + 1)) (J2 := m.J) (fun hT v kk => ?_) ?_
      · refine sh_is1 (x := x1) (i := m.I 18 5) (pc2 := 20) rfl (sh_s22 hT.st) (sh_okb1 c) (sh_okb2 c) rfl ?_
        refine sh_w (i := (.aload_n 0)) (len := 1) (pc2 := 21) (lv2 := [(0, .ref 19), (1, .int x1)]) (st2 := [.ref 19]) (h2 := (sh_rep m.T (sh_u2 m.I 22 (Int32.toNatClampNeg (m.I 18 5)) x1) m.J)) rfl rfl rfl ?_
        refine sh_w (i := .dup) (len := 1) (pc2 := 22) (lv2 := [(0, .ref 19), (1, .int x1)]) (st2 := [.ref 19, .ref 19]) (h2 := (sh_rep m.T (sh_u2 m.I 22 (Int32.toNatClampNeg (m.I 18 5)) x1) m.J)) rfl rfl rfl ?_
        refine sh_gI1 (len := 3) (x := m.I 18 5) (pc2 := 25) rfl rfl (sh_s18 hT.st) rfl rfl rfl ?_
        refine sh_w (i := (.iconst 1)) (len := 1) (pc2 := 26) (lv2 := [(0, .ref 19), (1, .int x1)]) (st2 := [.int 1, .int (m.I 18 5), .ref 19]) (h2 := (sh_rep m.T (sh_u2 m.I 22 (Int32.toNatClampNeg (m.I 18 5)) x1) m.J)) rfl rfl rfl ?_
        refine sh_w (i := .iadd) (len := 1) (pc2 := 27) (lv2 := [(0, .ref 19), (1, .int x1)]) (st2 := [.int ((m.I 18 5) + 1), .ref 19]) (h2 := (sh_rep m.T (sh_u2 m.I 22 (Int32.toNatClampNeg (m.I 18 5)) x1) m.J)) rfl rfl rfl ?_
        refine sh_pI1 (x := (m.I 18 5) + 1) (pc2 := 30) rfl rfl (sh_s18 hT.st) rfl rfl rfl rfl ?_
        exact kk
      obtain rfl := Option.some.inj e
      obtain ⟨rfl, rfl⟩ := tg
      exact sh_Lk_ret (i := .return_) rfl rfl rfl (Nat.le_of_ble_eq_true rfl) (Nat.le_of_ble_eq_true rfl)
    · refine sh_Lk_lift (T := m.T) (I := m.I) (J := m.J) (s := m.s) (pc2 := 30) (lv2 := [(0, .ref 19), (1, .int x1)]) (st2 := []) (I2 := m.I) (J2 := m.J) (fun hT v kk => ?_) ?_
      · refine sh_jc (c := .ge) (off := (23)) (pc2 := 30) true rfl (sh_Bget c) rfl ?_
        exact kk
      obtain rfl := Option.some.inj e
      obtain ⟨rfl, rfl⟩ := tg
      exact sh_Lk_ret (i := .return_) rfl rfl rfl (Nat.le_of_ble_eq_true rfl) (Nat.le_of_ble_eq_true rfl)
  · refine sh_Lk_lift (T := m.T) (I := m.I) (J := m.J) (s := m.s) (pc2 := 7) (lv2 := [(0, .ref 24), (1, .int x1)]) (st2 := [.int 1000, .int (m.I 23 5)]) (I2 := m.I) (J2 := m.J) (fun hT v kk => ?_) ?_
    · refine sh_w (i := (.aload_n 0)) (len := 1) (pc2 := 1) (lv2 := [(0, .ref 24), (1, .int x1)]) (st2 := [.ref 24]) (h2 := (sh_rep m.T m.I m.J)) rfl rfl rfl ?_
      refine sh_gI1 (len := 3) (x := m.I 23 5) (pc2 := 4) rfl rfl (sh_s23 hT.st) rfl rfl rfl ?_
      refine sh_w (i := (.sipush 1000)) (len := 3) (pc2 := 7) (lv2 := [(0, .ref 24), (1, .int x1)]) (st2 := [.int 1000, .int (m.I 23 5)]) (h2 := (sh_rep m.T m.I m.J)) rfl rfl rfl ?_
      exact kk
    rcases sh_ite e with ⟨c, e⟩ | ⟨c, e⟩
    · refine sh_Lk_lift (T := m.T) (I := m.I) (J := m.J) (s := m.s) (pc2 := 19) (lv2 := [(0, .ref 24), (1, .int x1)]) (st2 := [.int x1, .int (m.I 23 5), .ref 28]) (I2 := m.I) (J2 := m.J) (fun hT v kk => ?_) ?_
      · refine sh_jc (c := .ge) (off := (23)) (pc2 := 10) false rfl (sh_Bgef c) rfl ?_
        refine sh_w (i := (.aload_n 0)) (len := 1) (pc2 := 11) (lv2 := [(0, .ref 24), (1, .int x1)]) (st2 := [.ref 24]) (h2 := (sh_rep m.T m.I m.J)) rfl rfl rfl ?_
        refine sh_gR1 (len := 3) (x := .ref 28) (pc2 := 14) rfl rfl (sh_s23 hT.st) rfl rfl ?_
        refine sh_w (i := (.aload_n 0)) (len := 1) (pc2 := 15) (lv2 := [(0, .ref 24), (1, .int x1)]) (st2 := [.ref 24, .ref 28]) (h2 := (sh_rep m.T m.I m.J)) rfl rfl rfl ?_
        refine sh_gI1 (len := 3) (x := m.I 23 5) (pc2 := 18) rfl rfl (sh_s23 hT.st) rfl rfl rfl ?_
        refine sh_w (i := (.iload_n 1)) (len := 1) (pc2 := 19) (lv2 := [(0, .ref 24), (1, .int x1)]) (st2 := [.int x1, .int (m.I 23 5), .ref 28]) (h2 := (sh_rep m.T m.I m.J)) rfl rfl rfl ?_
        exact kk
      obtain ⟨c, e⟩ := sh_gd e
      refine sh_Lk_lift (T := m.T) (I := m.I) (J := m.J) (s := m.s) (pc2 := 30) (lv2 := [(0, .ref 24), (1, .int x1)]) (st2 := []) (I2 := sh_u2 (sh_u2 m.I 27 (Int32.toNatClampNeg (m.I 23 5)) x1) 23 5 ((m.I 23 5) + 1)) (J2 := m.J) (fun hT v kk => ?_) ?_
      · refine sh_is1 (x := x1) (i := m.I 23 5) (pc2 := 20) rfl (sh_s27 hT.st) (sh_okb1 c) (sh_okb2 c) rfl ?_
        refine sh_w (i := (.aload_n 0)) (len := 1) (pc2 := 21) (lv2 := [(0, .ref 24), (1, .int x1)]) (st2 := [.ref 24]) (h2 := (sh_rep m.T (sh_u2 m.I 27 (Int32.toNatClampNeg (m.I 23 5)) x1) m.J)) rfl rfl rfl ?_
        refine sh_w (i := .dup) (len := 1) (pc2 := 22) (lv2 := [(0, .ref 24), (1, .int x1)]) (st2 := [.ref 24, .ref 24]) (h2 := (sh_rep m.T (sh_u2 m.I 27 (Int32.toNatClampNeg (m.I 23 5)) x1) m.J)) rfl rfl rfl ?_
        refine sh_gI1 (len := 3) (x := m.I 23 5) (pc2 := 25) rfl rfl (sh_s23 hT.st) rfl rfl rfl ?_
        refine sh_w (i := (.iconst 1)) (len := 1) (pc2 := 26) (lv2 := [(0, .ref 24), (1, .int x1)]) (st2 := [.int 1, .int (m.I 23 5), .ref 24]) (h2 := (sh_rep m.T (sh_u2 m.I 27 (Int32.toNatClampNeg (m.I 23 5)) x1) m.J)) rfl rfl rfl ?_
        refine sh_w (i := .iadd) (len := 1) (pc2 := 27) (lv2 := [(0, .ref 24), (1, .int x1)]) (st2 := [.int ((m.I 23 5) + 1), .ref 24]) (h2 := (sh_rep m.T (sh_u2 m.I 27 (Int32.toNatClampNeg (m.I 23 5)) x1) m.J)) rfl rfl rfl ?_
        refine sh_pI1 (x := (m.I 23 5) + 1) (pc2 := 30) rfl rfl (sh_s23 hT.st) rfl rfl rfl rfl ?_
        exact kk
      obtain rfl := Option.some.inj e
      obtain ⟨rfl, rfl⟩ := tg
      exact sh_Lk_ret (i := .return_) rfl rfl rfl (Nat.le_of_ble_eq_true rfl) (Nat.le_of_ble_eq_true rfl)
    · refine sh_Lk_lift (T := m.T) (I := m.I) (J := m.J) (s := m.s) (pc2 := 30) (lv2 := [(0, .ref 24), (1, .int x1)]) (st2 := []) (I2 := m.I) (J2 := m.J) (fun hT v kk => ?_) ?_
      · refine sh_jc (c := .ge) (off := (23)) (pc2 := 30) true rfl (sh_Bget c) rfl ?_
        exact kk
      obtain rfl := Option.some.inj e
      obtain ⟨rfl, rfl⟩ := tg
      exact sh_Lk_ret (i := .return_) rfl rfl rfl (Nat.le_of_ble_eq_true rfl) (Nat.le_of_ble_eq_true rfl)
theorem sl_101_31s {x1 : Nat} {x2 : Int32} {x3 : Int32} {x4 : Int32} {x5 : Int32} {x6 : Int32} {m m2 : sh_X} {o : Outcome} {z : ((Int32 × sh_X) ⊕ ((Int32 × sh_X) ⊕ (Unit × sh_X)))} (hx1 : sh_isE x1) (e : sf_101_31s x1 x2 x3 x4 x5 x6 m = some z) (tg : (sh_el (fun q => sh_Lk 101 31 [(0, .ref 42), (1, .ref (x1 + 1)), (2, .int x2), (3, .int x3), (4, .int x4), (5, .int x5), (6, .int q.1)] [] q.2 o m2 9 221) (sh_el (fun q => sh_Lk 101 9 [(0, .ref 42), (1, .ref (x1 + 1)), (2, .int x2), (3, .int x3), (4, .int x4), (5, .int q.1)] [] q.2 o m2 9 221) (sh_tV o m2))) z) : sh_Lk 101 31 [(0, .ref 42), (1, .ref (x1 + 1)), (2, .int x2), (3, .int x3), (4, .int x4), (5, .int x5), (6, .int x6)] [] m o m2 9 221 := by
  unfold sf_101_31s at e
  rcases hx1 with rfl | rfl | rfl
  · refine sh_Lk_lift (T := m.T) (I := m.I) (J := m.J) (s := m.s) (pc2 := 35) (lv2 := [(0, .ref 42), (1, .ref 14), (2, .int x2), (3, .int x3), (4, .int x4), (5, .int x5), (6, .int x6)]) (st2 := [.int x4, .int x6]) (I2 := m.I) (J2 := m.J) (fun hT v kk => ?_) ?_
    · refine sh_w (i := (.iload 6)) (len := 2) (pc2 := 33) (lv2 := [(0, .ref 42), (1, .ref 14), (2, .int x2), (3, .int x3), (4, .int x4), (5, .int x5), (6, .int x6)]) (st2 := [.int x6]) (h2 := (sh_rep m.T m.I m.J)) rfl rfl rfl ?_
      refine sh_w (i := (.iload 4)) (len := 2) (pc2 := 35) (lv2 := [(0, .ref 42), (1, .ref 14), (2, .int x2), (3, .int x3), (4, .int x4), (5, .int x5), (6, .int x6)]) (st2 := [.int x4, .int x6]) (h2 := (sh_rep m.T m.I m.J)) rfl rfl rfl ?_
      exact kk
    rcases sh_ite e with ⟨c, e⟩ | ⟨c, e⟩
    · refine sh_Lk_lift (T := m.T) (I := m.I) (J := m.J) (s := m.s) (pc2 := 53) (lv2 := [(0, .ref 42), (1, .ref 14), (2, .int x2), (3, .int x3), (4, .int x4), (5, .int x5), (6, .int x6)]) (st2 := [.int ((x3 + (x5 * x4)) + x6), .ref 45, .ref 14]) (I2 := m.I) (J2 := m.J) (fun hT v kk => ?_) ?_
      · refine sh_jc (c := .ge) (off := (30)) (pc2 := 38) false rfl (sh_Bgef c) rfl ?_
        refine sh_w (i := (.aload_n 1)) (len := 1) (pc2 := 39) (lv2 := [(0, .ref 42), (1, .ref 14), (2, .int x2), (3, .int x3), (4, .int x4), (5, .int x5), (6, .int x6)]) (st2 := [.ref 14]) (h2 := (sh_rep m.T m.I m.J)) rfl rfl rfl ?_
        refine sh_w (i := (.aload_n 0)) (len := 1) (pc2 := 40) (lv2 := [(0, .ref 42), (1, .ref 14), (2, .int x2), (3, .int x3), (4, .int x4), (5, .int x5), (6, .int x6)]) (st2 := [.ref 42, .ref 14]) (h2 := (sh_rep m.T m.I m.J)) rfl rfl rfl ?_
        refine sh_gR1 (len := 3) (x := .ref 45) (pc2 := 43) rfl rfl (sh_s41 hT.st) rfl rfl ?_
        refine sh_w (i := (.iload_n 3)) (len := 1) (pc2 := 44) (lv2 := [(0, .ref 42), (1, .ref 14), (2, .int x2), (3, .int x3), (4, .int x4), (5, .int x5), (6, .int x6)]) (st2 := [.int x3, .ref 45, .ref 14]) (h2 := (sh_rep m.T m.I m.J)) rfl rfl rfl ?_
        refine sh_w (i := (.iload 5)) (len := 2) (pc2 := 46) (lv2 := [(0, .ref 42), (1, .ref 14), (2, .int x2), (3, .int x3), (4, .int x4), (5, .int x5), (6, .int x6)]) (st2 := [.int x5, .int x3, .ref 45, .ref 14]) (h2 := (sh_rep m.T m.I m.J)) rfl rfl rfl ?_
        refine sh_w (i := (.iload 4)) (len := 2) (pc2 := 48) (lv2 := [(0, .ref 42), (1, .ref 14), (2, .int x2), (3, .int x3), (4, .int x4), (5, .int x5), (6, .int x6)]) (st2 := [.int x4, .int x5, .int x3, .ref 45, .ref 14]) (h2 := (sh_rep m.T m.I m.J)) rfl rfl rfl ?_
        refine sh_w (i := .imul) (len := 1) (pc2 := 49) (lv2 := [(0, .ref 42), (1, .ref 14), (2, .int x2), (3, .int x3), (4, .int x4), (5, .int x5), (6, .int x6)]) (st2 := [.int (x5 * x4), .int x3, .ref 45, .ref 14]) (h2 := (sh_rep m.T m.I m.J)) rfl rfl rfl ?_
        refine sh_w (i := .iadd) (len := 1) (pc2 := 50) (lv2 := [(0, .ref 42), (1, .ref 14), (2, .int x2), (3, .int x3), (4, .int x4), (5, .int x5), (6, .int x6)]) (st2 := [.int (x3 + (x5 * x4)), .ref 45, .ref 14]) (h2 := (sh_rep m.T m.I m.J)) rfl rfl rfl ?_
        refine sh_w (i := (.iload 6)) (len := 2) (pc2 := 52) (lv2 := [(0, .ref 42), (1, .ref 14), (2, .int x2), (3, .int x3), (4, .int x4), (5, .int x5), (6, .int x6)]) (st2 := [.int x6, .int (x3 + (x5 * x4)), .ref 45, .ref 14]) (h2 := (sh_rep m.T m.I m.J)) rfl rfl rfl ?_
        refine sh_w (i := .iadd) (len := 1) (pc2 := 53) (lv2 := [(0, .ref 42), (1, .ref 14), (2, .int x2), (3, .int x3), (4, .int x4), (5, .int x5), (6, .int x6)]) (st2 := [.int ((x3 + (x5 * x4)) + x6), .ref 45, .ref 14]) (h2 := (sh_rep m.T m.I m.J)) rfl rfl rfl ?_
        exact kk
      obtain ⟨r1, e1, e⟩ := sh_bc_e e
      refine sh_Lk_cV (r := (some (.int r1))) (st2 := [.int r1, .ref 14]) (pc2 := 56) (k2 := 103) (a := 44) (as := [.ref 45, .int ((x3 + (x5 * x4)) + x6)]) (rest := [.ref 14]) rfl rfl rfl (fun hT => (sh_s44 hT.st)) rfl rfl ⟨Nat.le_of_ble_eq_true rfl, Nat.le_of_ble_eq_true rfl⟩ (sl_103 e1 ⟨rfl, rfl⟩) rfl rfl (Nat.le_of_ble_eq_true rfl) (Nat.le_of_ble_eq_true rfl) ?_
      obtain ⟨r2, m12, e2, e⟩ := sh_bn_e e
      refine sh_Lk_cV (r := none) (st2 := []) (pc2 := 59) (k2 := 104) (a := 13) (as := [.ref 14, .int r1]) (rest := []) rfl rfl rfl (fun hT => (sh_s13 hT.st)) rfl rfl ⟨Nat.le_of_ble_eq_true rfl, Nat.le_of_ble_eq_true rfl⟩ (sl_104 (by decide) e2 ⟨rfl, rfl⟩) rfl rfl (Nat.le_of_ble_eq_true rfl) (Nat.le_of_ble_eq_true rfl) ?_
      refine sh_Lk_lift (T := m12.T) (I := m12.I) (J := m12.J) (s := m12.s) (pc2 := 31) (lv2 := [(6, .int (x6 + 1)), (0, .ref 42), (1, .ref 14), (2, .int x2), (3, .int x3), (4, .int x4), (5, .int x5)]) (st2 := []) (I2 := m12.I) (J2 := m12.J) (fun hT v kk => ?_) ?_
      · refine sh_w (i := (.iinc 6 1)) (len := 3) (pc2 := 62) (lv2 := [(6, .int (x6 + 1)), (0, .ref 42), (1, .ref 14), (2, .int x2), (3, .int x3), (4, .int x4), (5, .int x5)]) (st2 := []) (h2 := (sh_rep m12.T m12.I m12.J)) rfl rfl rfl ?_
        refine sh_w (i := (.goto (-31))) (len := 3) (pc2 := 31) (lv2 := [(6, .int (x6 + 1)), (0, .ref 42), (1, .ref 14), (2, .int x2), (3, .int x3), (4, .int x4), (5, .int x5)]) (st2 := []) (h2 := (sh_rep m12.T m12.I m12.J)) rfl rfl rfl ?_
        exact kk
      obtain rfl := Option.some.inj e
      exact sh_Lk_sub (sh_sub_c rfl (sh_sub_c rfl (sh_sub_c rfl (sh_sub_c rfl (sh_sub_c rfl (sh_sub_c rfl (sh_sub_c rfl (sh_sub_n)))))))) tg
    · refine sh_Lk_lift (T := m.T) (I := m.I) (J := m.J) (s := m.s) (pc2 := 9) (lv2 := [(5, .int (x5 + 1)), (0, .ref 42), (1, .ref 14), (2, .int x2), (3, .int x3), (4, .int x4), (6, .int x6)]) (st2 := []) (I2 := m.I) (J2 := m.J) (fun hT v kk => ?_) ?_
      · refine sh_jc (c := .ge) (off := (30)) (pc2 := 65) true rfl (sh_Bget c) rfl ?_
        refine sh_w (i := (.iinc 5 1)) (len := 3) (pc2 := 68) (lv2 := [(5, .int (x5 + 1)), (0, .ref 42), (1, .ref 14), (2, .int x2), (3, .int x3), (4, .int x4), (6, .int x6)]) (st2 := []) (h2 := (sh_rep m.T m.I m.J)) rfl rfl rfl ?_
        refine sh_w (i := (.goto (-59))) (len := 3) (pc2 := 9) (lv2 := [(5, .int (x5 + 1)), (0, .ref 42), (1, .ref 14), (2, .int x2), (3, .int x3), (4, .int x4), (6, .int x6)]) (st2 := []) (h2 := (sh_rep m.T m.I m.J)) rfl rfl rfl ?_
        exact kk
      obtain rfl := Option.some.inj e
      exact sh_Lk_sub (sh_sub_c rfl (sh_sub_c rfl (sh_sub_c rfl (sh_sub_c rfl (sh_sub_c rfl (sh_sub_c rfl (sh_sub_n))))))) tg
  · refine sh_Lk_lift (T := m.T) (I := m.I) (J := m.J) (s := m.s) (pc2 := 35) (lv2 := [(0, .ref 42), (1, .ref 19), (2, .int x2), (3, .int x3), (4, .int x4), (5, .int x5), (6, .int x6)]) (st2 := [.int x4, .int x6]) (I2 := m.I) (J2 := m.J) (fun hT v kk => ?_) ?_
    · refine sh_w (i := (.iload 6)) (len := 2) (pc2 := 33) (lv2 := [(0, .ref 42), (1, .ref 19), (2, .int x2), (3, .int x3), (4, .int x4), (5, .int x5), (6, .int x6)]) (st2 := [.int x6]) (h2 := (sh_rep m.T m.I m.J)) rfl rfl rfl ?_
      refine sh_w (i := (.iload 4)) (len := 2) (pc2 := 35) (lv2 := [(0, .ref 42), (1, .ref 19), (2, .int x2), (3, .int x3), (4, .int x4), (5, .int x5), (6, .int x6)]) (st2 := [.int x4, .int x6]) (h2 := (sh_rep m.T m.I m.J)) rfl rfl rfl ?_
      exact kk
    rcases sh_ite e with ⟨c, e⟩ | ⟨c, e⟩
    · refine sh_Lk_lift (T := m.T) (I := m.I) (J := m.J) (s := m.s) (pc2 := 53) (lv2 := [(0, .ref 42), (1, .ref 19), (2, .int x2), (3, .int x3), (4, .int x4), (5, .int x5), (6, .int x6)]) (st2 := [.int ((x3 + (x5 * x4)) + x6), .ref 45, .ref 19]) (I2 := m.I) (J2 := m.J) (fun hT v kk => ?_) ?_
      · refine sh_jc (c := .ge) (off := (30)) (pc2 := 38) false rfl (sh_Bgef c) rfl ?_
        refine sh_w (i := (.aload_n 1)) (len := 1) (pc2 := 39) (lv2 := [(0, .ref 42), (1, .ref 19), (2, .int x2), (3, .int x3), (4, .int x4), (5, .int x5), (6, .int x6)]) (st2 := [.ref 19]) (h2 := (sh_rep m.T m.I m.J)) rfl rfl rfl ?_
        refine sh_w (i := (.aload_n 0)) (len := 1) (pc2 := 40) (lv2 := [(0, .ref 42), (1, .ref 19), (2, .int x2), (3, .int x3), (4, .int x4), (5, .int x5), (6, .int x6)]) (st2 := [.ref 42, .ref 19]) (h2 := (sh_rep m.T m.I m.J)) rfl rfl rfl ?_
        refine sh_gR1 (len := 3) (x := .ref 45) (pc2 := 43) rfl rfl (sh_s41 hT.st) rfl rfl ?_
        refine sh_w (i := (.iload_n 3)) (len := 1) (pc2 := 44) (lv2 := [(0, .ref 42), (1, .ref 19), (2, .int x2), (3, .int x3), (4, .int x4), (5, .int x5), (6, .int x6)]) (st2 := [.int x3, .ref 45, .ref 19]) (h2 := (sh_rep m.T m.I m.J)) rfl rfl rfl ?_
        refine sh_w (i := (.iload 5)) (len := 2) (pc2 := 46) (lv2 := [(0, .ref 42), (1, .ref 19), (2, .int x2), (3, .int x3), (4, .int x4), (5, .int x5), (6, .int x6)]) (st2 := [.int x5, .int x3, .ref 45, .ref 19]) (h2 := (sh_rep m.T m.I m.J)) rfl rfl rfl ?_
        refine sh_w (i := (.iload 4)) (len := 2) (pc2 := 48) (lv2 := [(0, .ref 42), (1, .ref 19), (2, .int x2), (3, .int x3), (4, .int x4), (5, .int x5), (6, .int x6)]) (st2 := [.int x4, .int x5, .int x3, .ref 45, .ref 19]) (h2 := (sh_rep m.T m.I m.J)) rfl rfl rfl ?_
        refine sh_w (i := .imul) (len := 1) (pc2 := 49) (lv2 := [(0, .ref 42), (1, .ref 19), (2, .int x2), (3, .int x3), (4, .int x4), (5, .int x5), (6, .int x6)]) (st2 := [.int (x5 * x4), .int x3, .ref 45, .ref 19]) (h2 := (sh_rep m.T m.I m.J)) rfl rfl rfl ?_
        refine sh_w (i := .iadd) (len := 1) (pc2 := 50) (lv2 := [(0, .ref 42), (1, .ref 19), (2, .int x2), (3, .int x3), (4, .int x4), (5, .int x5), (6, .int x6)]) (st2 := [.int (x3 + (x5 * x4)), .ref 45, .ref 19]) (h2 := (sh_rep m.T m.I m.J)) rfl rfl rfl ?_
        refine sh_w (i := (.iload 6)) (len := 2) (pc2 := 52) (lv2 := [(0, .ref 42), (1, .ref 19), (2, .int x2), (3, .int x3), (4, .int x4), (5, .int x5), (6, .int x6)]) (st2 := [.int x6, .int (x3 + (x5 * x4)), .ref 45, .ref 19]) (h2 := (sh_rep m.T m.I m.J)) rfl rfl rfl ?_
        refine sh_w (i := .iadd) (len := 1) (pc2 := 53) (lv2 := [(0, .ref 42), (1, .ref 19), (2, .int x2), (3, .int x3), (4, .int x4), (5, .int x5), (6, .int x6)]) (st2 := [.int ((x3 + (x5 * x4)) + x6), .ref 45, .ref 19]) (h2 := (sh_rep m.T m.I m.J)) rfl rfl rfl ?_
        exact kk
      obtain ⟨r1, e1, e⟩ := sh_bc_e e
      refine sh_Lk_cV (r := (some (.int r1))) (st2 := [.int r1, .ref 19]) (pc2 := 56) (k2 := 103) (a := 44) (as := [.ref 45, .int ((x3 + (x5 * x4)) + x6)]) (rest := [.ref 19]) rfl rfl rfl (fun hT => (sh_s44 hT.st)) rfl rfl ⟨Nat.le_of_ble_eq_true rfl, Nat.le_of_ble_eq_true rfl⟩ (sl_103 e1 ⟨rfl, rfl⟩) rfl rfl (Nat.le_of_ble_eq_true rfl) (Nat.le_of_ble_eq_true rfl) ?_
      obtain ⟨r2, m12, e2, e⟩ := sh_bn_e e
      refine sh_Lk_cV (r := none) (st2 := []) (pc2 := 59) (k2 := 104) (a := 18) (as := [.ref 19, .int r1]) (rest := []) rfl rfl rfl (fun hT => (sh_s18 hT.st)) rfl rfl ⟨Nat.le_of_ble_eq_true rfl, Nat.le_of_ble_eq_true rfl⟩ (sl_104 (by decide) e2 ⟨rfl, rfl⟩) rfl rfl (Nat.le_of_ble_eq_true rfl) (Nat.le_of_ble_eq_true rfl) ?_
      refine sh_Lk_lift (T := m12.T) (I := m12.I) (J := m12.J) (s := m12.s) (pc2 := 31) (lv2 := [(6, .int (x6 + 1)), (0, .ref 42), (1, .ref 19), (2, .int x2), (3, .int x3), (4, .int x4), (5, .int x5)]) (st2 := []) (I2 := m12.I) (J2 := m12.J) (fun hT v kk => ?_) ?_
      · refine sh_w (i := (.iinc 6 1)) (len := 3) (pc2 := 62) (lv2 := [(6, .int (x6 + 1)), (0, .ref 42), (1, .ref 19), (2, .int x2), (3, .int x3), (4, .int x4), (5, .int x5)]) (st2 := []) (h2 := (sh_rep m12.T m12.I m12.J)) rfl rfl rfl ?_
        refine sh_w (i := (.goto (-31))) (len := 3) (pc2 := 31) (lv2 := [(6, .int (x6 + 1)), (0, .ref 42), (1, .ref 19), (2, .int x2), (3, .int x3), (4, .int x4), (5, .int x5)]) (st2 := []) (h2 := (sh_rep m12.T m12.I m12.J)) rfl rfl rfl ?_
        exact kk
      obtain rfl := Option.some.inj e
      exact sh_Lk_sub (sh_sub_c rfl (sh_sub_c rfl (sh_sub_c rfl (sh_sub_c rfl (sh_sub_c rfl (sh_sub_c rfl (sh_sub_c rfl (sh_sub_n)))))))) tg
    · refine sh_Lk_lift (T := m.T) (I := m.I) (J := m.J) (s := m.s) (pc2 := 9) (lv2 := [(5, .int (x5 + 1)), (0, .ref 42), (1, .ref 19), (2, .int x2), (3, .int x3), (4, .int x4), (6, .int x6)]) (st2 := []) (I2 := m.I) (J2 := m.J) (fun hT v kk => ?_) ?_
      · refine sh_jc (c := .ge) (off := (30)) (pc2 := 65) true rfl (sh_Bget c) rfl ?_
        refine sh_w (i := (.iinc 5 1)) (len := 3) (pc2 := 68) (lv2 := [(5, .int (x5 + 1)), (0, .ref 42), (1, .ref 19), (2, .int x2), (3, .int x3), (4, .int x4), (6, .int x6)]) (st2 := []) (h2 := (sh_rep m.T m.I m.J)) rfl rfl rfl ?_
        refine sh_w (i := (.goto (-59))) (len := 3) (pc2 := 9) (lv2 := [(5, .int (x5 + 1)), (0, .ref 42), (1, .ref 19), (2, .int x2), (3, .int x3), (4, .int x4), (6, .int x6)]) (st2 := []) (h2 := (sh_rep m.T m.I m.J)) rfl rfl rfl ?_
        exact kk
      obtain rfl := Option.some.inj e
      exact sh_Lk_sub (sh_sub_c rfl (sh_sub_c rfl (sh_sub_c rfl (sh_sub_c rfl (sh_sub_c rfl (sh_sub_c rfl (sh_sub_n))))))) tg
  · refine sh_Lk_lift (T := m.T) (I := m.I) (J := m.J) (s := m.s) (pc2 := 35) (lv2 := [(0, .ref 42), (1, .ref 24), (2, .int x2), (3, .int x3), (4, .int x4), (5, .int x5), (6, .int x6)]) (st2 := [.int x4, .int x6]) (I2 := m.I) (J2 := m.J) (fun hT v kk => ?_) ?_
    · refine sh_w (i := (.iload 6)) (len := 2) (pc2 := 33) (lv2 := [(0, .ref 42), (1, .ref 24), (2, .int x2), (3, .int x3), (4, .int x4), (5, .int x5), (6, .int x6)]) (st2 := [.int x6]) (h2 := (sh_rep m.T m.I m.J)) rfl rfl rfl ?_
      refine sh_w (i := (.iload 4)) (len := 2) (pc2 := 35) (lv2 := [(0, .ref 42), (1, .ref 24), (2, .int x2), (3, .int x3), (4, .int x4), (5, .int x5), (6, .int x6)]) (st2 := [.int x4, .int x6]) (h2 := (sh_rep m.T m.I m.J)) rfl rfl rfl ?_
      exact kk
    rcases sh_ite e with ⟨c, e⟩ | ⟨c, e⟩
    · refine sh_Lk_lift (T := m.T) (I := m.I) (J := m.J) (s := m.s) (pc2 := 53) (lv2 := [(0, .ref 42), (1, .ref 24), (2, .int x2), (3, .int x3), (4, .int x4), (5, .int x5), (6, .int x6)]) (st2 := [.int ((x3 + (x5 * x4)) + x6), .ref 45, .ref 24]) (I2 := m.I) (J2 := m.J) (fun hT v kk => ?_) ?_
      · refine sh_jc (c := .ge) (off := (30)) (pc2 := 38) false rfl (sh_Bgef c) rfl ?_
        refine sh_w (i := (.aload_n 1)) (len := 1) (pc2 := 39) (lv2 := [(0, .ref 42), (1, .ref 24), (2, .int x2), (3, .int x3), (4, .int x4), (5, .int x5), (6, .int x6)]) (st2 := [.ref 24]) (h2 := (sh_rep m.T m.I m.J)) rfl rfl rfl ?_
        refine sh_w (i := (.aload_n 0)) (len := 1) (pc2 := 40) (lv2 := [(0, .ref 42), (1, .ref 24), (2, .int x2), (3, .int x3), (4, .int x4), (5, .int x5), (6, .int x6)]) (st2 := [.ref 42, .ref 24]) (h2 := (sh_rep m.T m.I m.J)) rfl rfl rfl ?_
        refine sh_gR1 (len := 3) (x := .ref 45) (pc2 := 43) rfl rfl (sh_s41 hT.st) rfl rfl ?_
        refine sh_w (i := (.iload_n 3)) (len := 1) (pc2 := 44) (lv2 := [(0, .ref 42), (1, .ref 24), (2, .int x2), (3, .int x3), (4, .int x4), (5, .int x5), (6, .int x6)]) (st2 := [.int x3, .ref 45, .ref 24]) (h2 := (sh_rep m.T m.I m.J)) rfl rfl rfl ?_
        refine sh_w (i := (.iload 5)) (len := 2) (pc2 := 46) (lv2 := [(0, .ref 42), (1, .ref 24), (2, .int x2), (3, .int x3), (4, .int x4), (5, .int x5), (6, .int x6)]) (st2 := [.int x5, .int x3, .ref 45, .ref 24]) (h2 := (sh_rep m.T m.I m.J)) rfl rfl rfl ?_
        refine sh_w (i := (.iload 4)) (len := 2) (pc2 := 48) (lv2 := [(0, .ref 42), (1, .ref 24), (2, .int x2), (3, .int x3), (4, .int x4), (5, .int x5), (6, .int x6)]) (st2 := [.int x4, .int x5, .int x3, .ref 45, .ref 24]) (h2 := (sh_rep m.T m.I m.J)) rfl rfl rfl ?_
        refine sh_w (i := .imul) (len := 1) (pc2 := 49) (lv2 := [(0, .ref 42), (1, .ref 24), (2, .int x2), (3, .int x3), (4, .int x4), (5, .int x5), (6, .int x6)]) (st2 := [.int (x5 * x4), .int x3, .ref 45, .ref 24]) (h2 := (sh_rep m.T m.I m.J)) rfl rfl rfl ?_
        refine sh_w (i := .iadd) (len := 1) (pc2 := 50) (lv2 := [(0, .ref 42), (1, .ref 24), (2, .int x2), (3, .int x3), (4, .int x4), (5, .int x5), (6, .int x6)]) (st2 := [.int (x3 + (x5 * x4)), .ref 45, .ref 24]) (h2 := (sh_rep m.T m.I m.J)) rfl rfl rfl ?_
        refine sh_w (i := (.iload 6)) (len := 2) (pc2 := 52) (lv2 := [(0, .ref 42), (1, .ref 24), (2, .int x2), (3, .int x3), (4, .int x4), (5, .int x5), (6, .int x6)]) (st2 := [.int x6, .int (x3 + (x5 * x4)), .ref 45, .ref 24]) (h2 := (sh_rep m.T m.I m.J)) rfl rfl rfl ?_
        refine sh_w (i := .iadd) (len := 1) (pc2 := 53) (lv2 := [(0, .ref 42), (1, .ref 24), (2, .int x2), (3, .int x3), (4, .int x4), (5, .int x5), (6, .int x6)]) (st2 := [.int ((x3 + (x5 * x4)) + x6), .ref 45, .ref 24]) (h2 := (sh_rep m.T m.I m.J)) rfl rfl rfl ?_
        exact kk
      obtain ⟨r1, e1, e⟩ := sh_bc_e e
      refine sh_Lk_cV (r := (some (.int r1))) (st2 := [.int r1, .ref 24]) (pc2 := 56) (k2 := 103) (a := 44) (as := [.ref 45, .int ((x3 + (x5 * x4)) + x6)]) (rest := [.ref 24]) rfl rfl rfl (fun hT => (sh_s44 hT.st)) rfl rfl ⟨Nat.le_of_ble_eq_true rfl, Nat.le_of_ble_eq_true rfl⟩ (sl_103 e1 ⟨rfl, rfl⟩) rfl rfl (Nat.le_of_ble_eq_true rfl) (Nat.le_of_ble_eq_true rfl) ?_
      obtain ⟨r2, m12, e2, e⟩ := sh_bn_e e
      refine sh_Lk_cV (r := none) (st2 := []) (pc2 := 59) (k2 := 104) (a := 23) (as := [.ref 24, .int r1]) (rest := []) rfl rfl rfl (fun hT => (sh_s23 hT.st)) rfl rfl ⟨Nat.le_of_ble_eq_true rfl, Nat.le_of_ble_eq_true rfl⟩ (sl_104 (by decide) e2 ⟨rfl, rfl⟩) rfl rfl (Nat.le_of_ble_eq_true rfl) (Nat.le_of_ble_eq_true rfl) ?_
      refine sh_Lk_lift (T := m12.T) (I := m12.I) (J := m12.J) (s := m12.s) (pc2 := 31) (lv2 := [(6, .int (x6 + 1)), (0, .ref 42), (1, .ref 24), (2, .int x2), (3, .int x3), (4, .int x4), (5, .int x5)]) (st2 := []) (I2 := m12.I) (J2 := m12.J) (fun hT v kk => ?_) ?_
      · refine sh_w (i := (.iinc 6 1)) (len := 3) (pc2 := 62) (lv2 := [(6, .int (x6 + 1)), (0, .ref 42), (1, .ref 24), (2, .int x2), (3, .int x3), (4, .int x4), (5, .int x5)]) (st2 := []) (h2 := (sh_rep m12.T m12.I m12.J)) rfl rfl rfl ?_
        refine sh_w (i := (.goto (-31))) (len := 3) (pc2 := 31) (lv2 := [(6, .int (x6 + 1)), (0, .ref 42), (1, .ref 24), (2, .int x2), (3, .int x3), (4, .int x4), (5, .int x5)]) (st2 := []) (h2 := (sh_rep m12.T m12.I m12.J)) rfl rfl rfl ?_
        exact kk
      obtain rfl := Option.some.inj e
      exact sh_Lk_sub (sh_sub_c rfl (sh_sub_c rfl (sh_sub_c rfl (sh_sub_c rfl (sh_sub_c rfl (sh_sub_c rfl (sh_sub_c rfl (sh_sub_n)))))))) tg
    · refine sh_Lk_lift (T := m.T) (I := m.I) (J := m.J) (s := m.s) (pc2 := 9) (lv2 := [(5, .int (x5 + 1)), (0, .ref 42), (1, .ref 24), (2, .int x2), (3, .int x3), (4, .int x4), (6, .int x6)]) (st2 := []) (I2 := m.I) (J2 := m.J) (fun hT v kk => ?_) ?_
      · refine sh_jc (c := .ge) (off := (30)) (pc2 := 65) true rfl (sh_Bget c) rfl ?_
        refine sh_w (i := (.iinc 5 1)) (len := 3) (pc2 := 68) (lv2 := [(5, .int (x5 + 1)), (0, .ref 42), (1, .ref 24), (2, .int x2), (3, .int x3), (4, .int x4), (6, .int x6)]) (st2 := []) (h2 := (sh_rep m.T m.I m.J)) rfl rfl rfl ?_
        refine sh_w (i := (.goto (-59))) (len := 3) (pc2 := 9) (lv2 := [(5, .int (x5 + 1)), (0, .ref 42), (1, .ref 24), (2, .int x2), (3, .int x3), (4, .int x4), (6, .int x6)]) (st2 := []) (h2 := (sh_rep m.T m.I m.J)) rfl rfl rfl ?_
        exact kk
      obtain rfl := Option.some.inj e
      exact sh_Lk_sub (sh_sub_c rfl (sh_sub_c rfl (sh_sub_c rfl (sh_sub_c rfl (sh_sub_c rfl (sh_sub_c rfl (sh_sub_n))))))) tg
theorem sl_101_31 {x1 : Nat} {x2 : Int32} {x3 : Int32} {x4 : Int32} {x5 : Int32} {x6 : Int32} {m m2 : sh_X} {o : Outcome} {z : ((Int32 × sh_X) ⊕ (Unit × sh_X))} (hx1 : sh_isE x1) (e : sf_101_31 x1 x2 x3 x4 x5 x6 m = some z) (tg : (sh_el (fun q => sh_Lk 101 9 [(0, .ref 42), (1, .ref (x1 + 1)), (2, .int x2), (3, .int x3), (4, .int x4), (5, .int q.1)] [] q.2 o m2 9 221) (sh_tV o m2)) z) : sh_Lk 101 31 [(0, .ref 42), (1, .ref (x1 + 1)), (2, .int x2), (3, .int x3), (4, .int x4), (5, .int x5), (6, .int x6)] [] m o m2 9 221 := by
  unfold sf_101_31 at e
  exact sh_while_lk (P := fun q => sh_Lk 101 31 [(0, .ref 42), (1, .ref (x1 + 1)), (2, .int x2), (3, .int x3), (4, .int x4), (5, .int x5), (6, .int q.1)] [] q.2 o m2 9 221) (Q := (sh_el (fun q => sh_Lk 101 9 [(0, .ref 42), (1, .ref (x1 + 1)), (2, .int x2), (3, .int x3), (4, .int x4), (5, .int q.1)] [] q.2 o m2 9 221) (sh_tV o m2))) (fun q z e tg => sl_101_31s (x1 := x1) (x2 := x2) (x3 := x3) (x4 := x4) (x5 := x5) (x6 := q.1) (m := q.2) hx1 e tg) (s := (x6, m)) e tg
theorem sl_101_9s {x1 : Nat} {x2 : Int32} {x3 : Int32} {x4 : Int32} {x5 : Int32} {m m2 : sh_X} {o : Outcome} {z : ((Int32 × sh_X) ⊕ (Unit × sh_X))} (hx1 : sh_isE x1) (e : sf_101_9s x1 x2 x3 x4 x5 m = some z) (tg : (sh_el (fun q => sh_Lk 101 9 [(0, .ref 42), (1, .ref (x1 + 1)), (2, .int x2), (3, .int x3), (4, .int x4), (5, .int q.1)] [] q.2 o m2 9 221) (sh_tV o m2)) z) : sh_Lk 101 9 [(0, .ref 42), (1, .ref (x1 + 1)), (2, .int x2), (3, .int x3), (4, .int x4), (5, .int x5)] [] m o m2 9 221 := by
  unfold sf_101_9s at e
  rcases hx1 with rfl | rfl | rfl
  · refine sh_Lk_lift (T := m.T) (I := m.I) (J := m.J) (s := m.s) (pc2 := 13) (lv2 := [(0, .ref 42), (1, .ref 14), (2, .int x2), (3, .int x3), (4, .int x4), (5, .int x5)]) (st2 := [.int x2, .int 1, .int x5]) (I2 := m.I) (J2 := m.J) (fun hT v kk => ?_) ?_
    · refine sh_w (i := (.iload 5)) (len := 2) (pc2 := 11) (lv2 := [(0, .ref 42), (1, .ref 14), (2, .int x2), (3, .int x3), (4, .int x4), (5, .int x5)]) (st2 := [.int x5]) (h2 := (sh_rep m.T m.I m.J)) rfl rfl rfl ?_
      refine sh_w (i := (.iconst 1)) (len := 1) (pc2 := 12) (lv2 := [(0, .ref 42), (1, .ref 14), (2, .int x2), (3, .int x3), (4, .int x4), (5, .int x5)]) (st2 := [.int 1, .int x5]) (h2 := (sh_rep m.T m.I m.J)) rfl rfl rfl ?_
      refine sh_w (i := (.iload_n 2)) (len := 1) (pc2 := 13) (lv2 := [(0, .ref 42), (1, .ref 14), (2, .int x2), (3, .int x3), (4, .int x4), (5, .int x5)]) (st2 := [.int x2, .int 1, .int x5]) (h2 := (sh_rep m.T m.I m.J)) rfl rfl rfl ?_
      exact kk
    refine sh_Lk_cS (r := (some (.int (sf_93 x2)))) (st2 := [.int (sf_93 x2), .int 1, .int x5]) (pc2 := 16) (k2 := 93) (as := [.int x2]) (rest := [.int 1, .int x5]) rfl rfl (by decide) (Nat.le_of_ble_eq_true rfl) rfl rfl ⟨Nat.le_of_ble_eq_true rfl, Nat.le_of_ble_eq_true rfl⟩ (sl_93 (m := m) rfl ⟨rfl, rfl⟩) rfl rfl (Nat.le_of_ble_eq_true rfl) (Nat.le_of_ble_eq_true rfl) ?_
    refine sh_Lk_cS (r := (some (.int (sf_42 1 (sf_93 x2))))) (st2 := [.int (sf_42 1 (sf_93 x2)), .int x5]) (pc2 := 19) (k2 := 42) (as := [.int 1, .int (sf_93 x2)]) (rest := [.int x5]) rfl rfl (by decide) (Nat.le_of_ble_eq_true rfl) rfl rfl ⟨Nat.le_of_ble_eq_true rfl, Nat.le_of_ble_eq_true rfl⟩ (sl_42 (m := m) rfl ⟨rfl, rfl⟩) rfl rfl (Nat.le_of_ble_eq_true rfl) (Nat.le_of_ble_eq_true rfl) ?_
    rcases sh_ite e with ⟨c, e⟩ | ⟨c, e⟩
    · refine sh_Lk_lift (T := m.T) (I := m.I) (J := m.J) (s := m.s) (pc2 := 25) (lv2 := [(0, .ref 42), (1, .ref 14), (2, .int x2), (3, .int x3), (4, .int x4), (5, .int x5)]) (st2 := [.int x4, .ref 14]) (I2 := m.I) (J2 := m.J) (fun hT v kk => ?_) ?_
      · refine sh_jc (c := .ge) (off := (52)) (pc2 := 22) false rfl (sh_Bgef c) rfl ?_
        refine sh_w (i := (.aload_n 1)) (len := 1) (pc2 := 23) (lv2 := [(0, .ref 42), (1, .ref 14), (2, .int x2), (3, .int x3), (4, .int x4), (5, .int x5)]) (st2 := [.ref 14]) (h2 := (sh_rep m.T m.I m.J)) rfl rfl rfl ?_
        refine sh_w (i := (.iload 4)) (len := 2) (pc2 := 25) (lv2 := [(0, .ref 42), (1, .ref 14), (2, .int x2), (3, .int x3), (4, .int x4), (5, .int x5)]) (st2 := [.int x4, .ref 14]) (h2 := (sh_rep m.T m.I m.J)) rfl rfl rfl ?_
        exact kk
      obtain ⟨r3, m13, e3, e⟩ := sh_bn_e e
      refine sh_Lk_cV (r := none) (st2 := []) (pc2 := 28) (k2 := 102) (a := 13) (as := [.ref 14, .int x4]) (rest := []) rfl rfl rfl (fun hT => (sh_s13 hT.st)) rfl rfl ⟨Nat.le_of_ble_eq_true rfl, Nat.le_of_ble_eq_true rfl⟩ (sl_102 (by decide) e3 ⟨rfl, rfl⟩) rfl rfl (Nat.le_of_ble_eq_true rfl) (Nat.le_of_ble_eq_true rfl) ?_
      refine sh_Lk_lift (T := m13.T) (I := m13.I) (J := m13.J) (s := m13.s) (pc2 := 31) (lv2 := [(6, .int 0), (0, .ref 42), (1, .ref 14), (2, .int x2), (3, .int x3), (4, .int x4), (5, .int x5)]) (st2 := []) (I2 := m13.I) (J2 := m13.J) (fun hT v kk => ?_) ?_
      · refine sh_w (i := (.iconst 0)) (len := 1) (pc2 := 29) (lv2 := [(0, .ref 42), (1, .ref 14), (2, .int x2), (3, .int x3), (4, .int x4), (5, .int x5)]) (st2 := [.int 0]) (h2 := (sh_rep m13.T m13.I m13.J)) rfl rfl rfl ?_
        refine sh_w (i := (.istore 6)) (len := 2) (pc2 := 31) (lv2 := [(6, .int 0), (0, .ref 42), (1, .ref 14), (2, .int x2), (3, .int x3), (4, .int x4), (5, .int x5)]) (st2 := []) (h2 := (sh_rep m13.T m13.I m13.J)) rfl rfl rfl ?_
        exact kk
      exact sh_Lk_sub (sh_sub_c rfl (sh_sub_c rfl (sh_sub_c rfl (sh_sub_c rfl (sh_sub_c rfl (sh_sub_c rfl (sh_sub_c rfl (sh_sub_n)))))))) (sl_101_31 (by decide) e tg)
    · refine sh_Lk_lift (T := m.T) (I := m.I) (J := m.J) (s := m.s) (pc2 := 71) (lv2 := [(0, .ref 42), (1, .ref 14), (2, .int x2), (3, .int x3), (4, .int x4), (5, .int x5)]) (st2 := []) (I2 := m.I) (J2 := m.J) (fun hT v kk => ?_) ?_
      · refine sh_jc (c := .ge) (off := (52)) (pc2 := 71) true rfl (sh_Bget c) rfl ?_
        exact kk
      obtain rfl := Option.some.inj e
      obtain ⟨rfl, rfl⟩ := tg
      exact sh_Lk_ret (i := .return_) rfl rfl rfl (Nat.le_of_ble_eq_true rfl) (Nat.le_of_ble_eq_true rfl)
  · refine sh_Lk_lift (T := m.T) (I := m.I) (J := m.J) (s := m.s) (pc2 := 13) (lv2 := [(0, .ref 42), (1, .ref 19), (2, .int x2), (3, .int x3), (4, .int x4), (5, .int x5)]) (st2 := [.int x2, .int 1, .int x5]) (I2 := m.I) (J2 := m.J) (fun hT v kk => ?_) ?_
    · refine sh_w (i := (.iload 5)) (len := 2) (pc2 := 11) (lv2 := [(0, .ref 42), (1, .ref 19), (2, .int x2), (3, .int x3), (4, .int x4), (5, .int x5)]) (st2 := [.int x5]) (h2 := (sh_rep m.T m.I m.J)) rfl rfl rfl ?_
      refine sh_w (i := (.iconst 1)) (len := 1) (pc2 := 12) (lv2 := [(0, .ref 42), (1, .ref 19), (2, .int x2), (3, .int x3), (4, .int x4), (5, .int x5)]) (st2 := [.int 1, .int x5]) (h2 := (sh_rep m.T m.I m.J)) rfl rfl rfl ?_
      refine sh_w (i := (.iload_n 2)) (len := 1) (pc2 := 13) (lv2 := [(0, .ref 42), (1, .ref 19), (2, .int x2), (3, .int x3), (4, .int x4), (5, .int x5)]) (st2 := [.int x2, .int 1, .int x5]) (h2 := (sh_rep m.T m.I m.J)) rfl rfl rfl ?_
      exact kk
    refine sh_Lk_cS (r := (some (.int (sf_93 x2)))) (st2 := [.int (sf_93 x2), .int 1, .int x5]) (pc2 := 16) (k2 := 93) (as := [.int x2]) (rest := [.int 1, .int x5]) rfl rfl (by decide) (Nat.le_of_ble_eq_true rfl) rfl rfl ⟨Nat.le_of_ble_eq_true rfl, Nat.le_of_ble_eq_true rfl⟩ (sl_93 (m := m) rfl ⟨rfl, rfl⟩) rfl rfl (Nat.le_of_ble_eq_true rfl) (Nat.le_of_ble_eq_true rfl) ?_
    refine sh_Lk_cS (r := (some (.int (sf_42 1 (sf_93 x2))))) (st2 := [.int (sf_42 1 (sf_93 x2)), .int x5]) (pc2 := 19) (k2 := 42) (as := [.int 1, .int (sf_93 x2)]) (rest := [.int x5]) rfl rfl (by decide) (Nat.le_of_ble_eq_true rfl) rfl rfl ⟨Nat.le_of_ble_eq_true rfl, Nat.le_of_ble_eq_true rfl⟩ (sl_42 (m := m) rfl ⟨rfl, rfl⟩) rfl rfl (Nat.le_of_ble_eq_true rfl) (Nat.le_of_ble_eq_true rfl) ?_
    rcases sh_ite e with ⟨c, e⟩ | ⟨c, e⟩
    · refine sh_Lk_lift (T := m.T) (I := m.I) (J := m.J) (s := m.s) (pc2 := 25) (lv2 := [(0, .ref 42), (1, .ref 19), (2, .int x2), (3, .int x3), (4, .int x4), (5, .int x5)]) (st2 := [.int x4, .ref 19]) (I2 := m.I) (J2 := m.J) (fun hT v kk => ?_) ?_
      · refine sh_jc (c := .ge) (off := (52)) (pc2 := 22) false rfl (sh_Bgef c) rfl ?_
        refine sh_w (i := (.aload_n 1)) (len := 1) (pc2 := 23) (lv2 := [(0, .ref 42), (1, .ref 19), (2, .int x2), (3, .int x3), (4, .int x4), (5, .int x5)]) (st2 := [.ref 19]) (h2 := (sh_rep m.T m.I m.J)) rfl rfl rfl ?_
        refine sh_w (i := (.iload 4)) (len := 2) (pc2 := 25) (lv2 := [(0, .ref 42), (1, .ref 19), (2, .int x2), (3, .int x3), (4, .int x4), (5, .int x5)]) (st2 := [.int x4, .ref 19]) (h2 := (sh_rep m.T m.I m.J)) rfl rfl rfl ?_
        exact kk
      obtain ⟨r3, m13, e3, e⟩ := sh_bn_e e
      refine sh_Lk_cV (r := none) (st2 := []) (pc2 := 28) (k2 := 102) (a := 18) (as := [.ref 19, .int x4]) (rest := []) rfl rfl rfl (fun hT => (sh_s18 hT.st)) rfl rfl ⟨Nat.le_of_ble_eq_true rfl, Nat.le_of_ble_eq_true rfl⟩ (sl_102 (by decide) e3 ⟨rfl, rfl⟩) rfl rfl (Nat.le_of_ble_eq_true rfl) (Nat.le_of_ble_eq_true rfl) ?_
      refine sh_Lk_lift (T := m13.T) (I := m13.I) (J := m13.J) (s := m13.s) (pc2 := 31) (lv2 := [(6, .int 0), (0, .ref 42), (1, .ref 19), (2, .int x2), (3, .int x3), (4, .int x4), (5, .int x5)]) (st2 := []) (I2 := m13.I) (J2 := m13.J) (fun hT v kk => ?_) ?_
      · refine sh_w (i := (.iconst 0)) (len := 1) (pc2 := 29) (lv2 := [(0, .ref 42), (1, .ref 19), (2, .int x2), (3, .int x3), (4, .int x4), (5, .int x5)]) (st2 := [.int 0]) (h2 := (sh_rep m13.T m13.I m13.J)) rfl rfl rfl ?_
        refine sh_w (i := (.istore 6)) (len := 2) (pc2 := 31) (lv2 := [(6, .int 0), (0, .ref 42), (1, .ref 19), (2, .int x2), (3, .int x3), (4, .int x4), (5, .int x5)]) (st2 := []) (h2 := (sh_rep m13.T m13.I m13.J)) rfl rfl rfl ?_
        exact kk
      exact sh_Lk_sub (sh_sub_c rfl (sh_sub_c rfl (sh_sub_c rfl (sh_sub_c rfl (sh_sub_c rfl (sh_sub_c rfl (sh_sub_c rfl (sh_sub_n)))))))) (sl_101_31 (by decide) e tg)
    · refine sh_Lk_lift (T := m.T) (I := m.I) (J := m.J) (s := m.s) (pc2 := 71) (lv2 := [(0, .ref 42), (1, .ref 19), (2, .int x2), (3, .int x3), (4, .int x4), (5, .int x5)]) (st2 := []) (I2 := m.I) (J2 := m.J) (fun hT v kk => ?_) ?_
      · refine sh_jc (c := .ge) (off := (52)) (pc2 := 71) true rfl (sh_Bget c) rfl ?_
        exact kk
      obtain rfl := Option.some.inj e
      obtain ⟨rfl, rfl⟩ := tg
      exact sh_Lk_ret (i := .return_) rfl rfl rfl (Nat.le_of_ble_eq_true rfl) (Nat.le_of_ble_eq_true rfl)
  · refine sh_Lk_lift (T := m.T) (I := m.I) (J := m.J) (s := m.s) (pc2 := 13) (lv2 := [(0, .ref 42), (1, .ref 24), (2, .int x2), (3, .int x3), (4, .int x4), (5, .int x5)]) (st2 := [.int x2, .int 1, .int x5]) (I2 := m.I) (J2 := m.J) (fun hT v kk => ?_) ?_
    · refine sh_w (i := (.iload 5)) (len := 2) (pc2 := 11) (lv2 := [(0, .ref 42), (1, .ref 24), (2, .int x2), (3, .int x3), (4, .int x4), (5, .int x5)]) (st2 := [.int x5]) (h2 := (sh_rep m.T m.I m.J)) rfl rfl rfl ?_
      refine sh_w (i := (.iconst 1)) (len := 1) (pc2 := 12) (lv2 := [(0, .ref 42), (1, .ref 24), (2, .int x2), (3, .int x3), (4, .int x4), (5, .int x5)]) (st2 := [.int 1, .int x5]) (h2 := (sh_rep m.T m.I m.J)) rfl rfl rfl ?_
      refine sh_w (i := (.iload_n 2)) (len := 1) (pc2 := 13) (lv2 := [(0, .ref 42), (1, .ref 24), (2, .int x2), (3, .int x3), (4, .int x4), (5, .int x5)]) (st2 := [.int x2, .int 1, .int x5]) (h2 := (sh_rep m.T m.I m.J)) rfl rfl rfl ?_
      exact kk
    refine sh_Lk_cS (r := (some (.int (sf_93 x2)))) (st2 := [.int (sf_93 x2), .int 1, .int x5]) (pc2 := 16) (k2 := 93) (as := [.int x2]) (rest := [.int 1, .int x5]) rfl rfl (by decide) (Nat.le_of_ble_eq_true rfl) rfl rfl ⟨Nat.le_of_ble_eq_true rfl, Nat.le_of_ble_eq_true rfl⟩ (sl_93 (m := m) rfl ⟨rfl, rfl⟩) rfl rfl (Nat.le_of_ble_eq_true rfl) (Nat.le_of_ble_eq_true rfl) ?_
    refine sh_Lk_cS (r := (some (.int (sf_42 1 (sf_93 x2))))) (st2 := [.int (sf_42 1 (sf_93 x2)), .int x5]) (pc2 := 19) (k2 := 42) (as := [.int 1, .int (sf_93 x2)]) (rest := [.int x5]) rfl rfl (by decide) (Nat.le_of_ble_eq_true rfl) rfl rfl ⟨Nat.le_of_ble_eq_true rfl, Nat.le_of_ble_eq_true rfl⟩ (sl_42 (m := m) rfl ⟨rfl, rfl⟩) rfl rfl (Nat.le_of_ble_eq_true rfl) (Nat.le_of_ble_eq_true rfl) ?_
    rcases sh_ite e with ⟨c, e⟩ | ⟨c, e⟩
    · refine sh_Lk_lift (T := m.T) (I := m.I) (J := m.J) (s := m.s) (pc2 := 25) (lv2 := [(0, .ref 42), (1, .ref 24), (2, .int x2), (3, .int x3), (4, .int x4), (5, .int x5)]) (st2 := [.int x4, .ref 24]) (I2 := m.I) (J2 := m.J) (fun hT v kk => ?_) ?_
      · refine sh_jc (c := .ge) (off := (52)) (pc2 := 22) false rfl (sh_Bgef c) rfl ?_
        refine sh_w (i := (.aload_n 1)) (len := 1) (pc2 := 23) (lv2 := [(0, .ref 42), (1, .ref 24), (2, .int x2), (3, .int x3), (4, .int x4), (5, .int x5)]) (st2 := [.ref 24]) (h2 := (sh_rep m.T m.I m.J)) rfl rfl rfl ?_
        refine sh_w (i := (.iload 4)) (len := 2) (pc2 := 25) (lv2 := [(0, .ref 42), (1, .ref 24), (2, .int x2), (3, .int x3), (4, .int x4), (5, .int x5)]) (st2 := [.int x4, .ref 24]) (h2 := (sh_rep m.T m.I m.J)) rfl rfl rfl ?_
        exact kk
      obtain ⟨r3, m13, e3, e⟩ := sh_bn_e e
      refine sh_Lk_cV (r := none) (st2 := []) (pc2 := 28) (k2 := 102) (a := 23) (as := [.ref 24, .int x4]) (rest := []) rfl rfl rfl (fun hT => (sh_s23 hT.st)) rfl rfl ⟨Nat.le_of_ble_eq_true rfl, Nat.le_of_ble_eq_true rfl⟩ (sl_102 (by decide) e3 ⟨rfl, rfl⟩) rfl rfl (Nat.le_of_ble_eq_true rfl) (Nat.le_of_ble_eq_true rfl) ?_
      refine sh_Lk_lift (T := m13.T) (I := m13.I) (J := m13.J) (s := m13.s) (pc2 := 31) (lv2 := [(6, .int 0), (0, .ref 42), (1, .ref 24), (2, .int x2), (3, .int x3), (4, .int x4), (5, .int x5)]) (st2 := []) (I2 := m13.I) (J2 := m13.J) (fun hT v kk => ?_) ?_
      · refine sh_w (i := (.iconst 0)) (len := 1) (pc2 := 29) (lv2 := [(0, .ref 42), (1, .ref 24), (2, .int x2), (3, .int x3), (4, .int x4), (5, .int x5)]) (st2 := [.int 0]) (h2 := (sh_rep m13.T m13.I m13.J)) rfl rfl rfl ?_
        refine sh_w (i := (.istore 6)) (len := 2) (pc2 := 31) (lv2 := [(6, .int 0), (0, .ref 42), (1, .ref 24), (2, .int x2), (3, .int x3), (4, .int x4), (5, .int x5)]) (st2 := []) (h2 := (sh_rep m13.T m13.I m13.J)) rfl rfl rfl ?_
        exact kk
      exact sh_Lk_sub (sh_sub_c rfl (sh_sub_c rfl (sh_sub_c rfl (sh_sub_c rfl (sh_sub_c rfl (sh_sub_c rfl (sh_sub_c rfl (sh_sub_n)))))))) (sl_101_31 (by decide) e tg)
    · refine sh_Lk_lift (T := m.T) (I := m.I) (J := m.J) (s := m.s) (pc2 := 71) (lv2 := [(0, .ref 42), (1, .ref 24), (2, .int x2), (3, .int x3), (4, .int x4), (5, .int x5)]) (st2 := []) (I2 := m.I) (J2 := m.J) (fun hT v kk => ?_) ?_
      · refine sh_jc (c := .ge) (off := (52)) (pc2 := 71) true rfl (sh_Bget c) rfl ?_
        exact kk
      obtain rfl := Option.some.inj e
      obtain ⟨rfl, rfl⟩ := tg
      exact sh_Lk_ret (i := .return_) rfl rfl rfl (Nat.le_of_ble_eq_true rfl) (Nat.le_of_ble_eq_true rfl)
theorem sl_101_9 {x1 : Nat} {x2 : Int32} {x3 : Int32} {x4 : Int32} {x5 : Int32} {m m2 : sh_X} {o : Outcome} {z : (Unit × sh_X)} (hx1 : sh_isE x1) (e : sf_101_9 x1 x2 x3 x4 x5 m = some z) (tg : (sh_tV o m2) z) : sh_Lk 101 9 [(0, .ref 42), (1, .ref (x1 + 1)), (2, .int x2), (3, .int x3), (4, .int x4), (5, .int x5)] [] m o m2 9 221 := by
  unfold sf_101_9 at e
  exact sh_while_lk (P := fun q => sh_Lk 101 9 [(0, .ref 42), (1, .ref (x1 + 1)), (2, .int x2), (3, .int x3), (4, .int x4), (5, .int q.1)] [] q.2 o m2 9 221) (Q := (sh_tV o m2)) (fun q z e tg => sl_101_9s (x1 := x1) (x2 := x2) (x3 := x3) (x4 := x4) (x5 := q.1) (m := q.2) hx1 e tg) (s := (x5, m)) e tg
theorem sl_101 {x1 : Nat} {x2 : Int32} {x3 : Int32} {m m2 : sh_X} {o : Outcome} {z : (Unit × sh_X)} (hx1 : sh_isE x1) (e : sf_101 x1 x2 x3 m = some z) (tg : (sh_tV o m2) z) : sh_Lk 101 0 [(0, .ref 42), (1, .ref (x1 + 1)), (2, .int x2), (3, .int x3)] [] m o m2 9 221 := by
  unfold sf_101 at e
  rcases hx1 with rfl | rfl | rfl
  · refine sh_Lk_lift (T := m.T) (I := m.I) (J := m.J) (s := m.s) (pc2 := 1) (lv2 := [(0, .ref 42), (1, .ref 14), (2, .int x2), (3, .int x3)]) (st2 := [.int x2]) (I2 := m.I) (J2 := m.J) (fun hT v kk => ?_) ?_
    · refine sh_w (i := (.iload_n 2)) (len := 1) (pc2 := 1) (lv2 := [(0, .ref 42), (1, .ref 14), (2, .int x2), (3, .int x3)]) (st2 := [.int x2]) (h2 := (sh_rep m.T m.I m.J)) rfl rfl rfl ?_
      exact kk
    refine sh_Lk_cS (r := (some (.int (sf_94 x2)))) (st2 := [.int (sf_94 x2)]) (pc2 := 4) (k2 := 94) (as := [.int x2]) (rest := []) rfl rfl (by decide) (Nat.le_of_ble_eq_true rfl) rfl rfl ⟨Nat.le_of_ble_eq_true rfl, Nat.le_of_ble_eq_true rfl⟩ (sl_94 (m := m) rfl ⟨rfl, rfl⟩) rfl rfl (Nat.le_of_ble_eq_true rfl) (Nat.le_of_ble_eq_true rfl) ?_
    refine sh_Lk_lift (T := m.T) (I := m.I) (J := m.J) (s := m.s) (pc2 := 9) (lv2 := [(5, .int 0), (4, .int (sf_94 x2)), (0, .ref 42), (1, .ref 14), (2, .int x2), (3, .int x3)]) (st2 := []) (I2 := m.I) (J2 := m.J) (fun hT v kk => ?_) ?_
    · refine sh_w (i := (.istore 4)) (len := 2) (pc2 := 6) (lv2 := [(4, .int (sf_94 x2)), (0, .ref 42), (1, .ref 14), (2, .int x2), (3, .int x3)]) (st2 := []) (h2 := (sh_rep m.T m.I m.J)) rfl rfl rfl ?_
      refine sh_w (i := (.iconst 0)) (len := 1) (pc2 := 7) (lv2 := [(4, .int (sf_94 x2)), (0, .ref 42), (1, .ref 14), (2, .int x2), (3, .int x3)]) (st2 := [.int 0]) (h2 := (sh_rep m.T m.I m.J)) rfl rfl rfl ?_
      refine sh_w (i := (.istore 5)) (len := 2) (pc2 := 9) (lv2 := [(5, .int 0), (4, .int (sf_94 x2)), (0, .ref 42), (1, .ref 14), (2, .int x2), (3, .int x3)]) (st2 := []) (h2 := (sh_rep m.T m.I m.J)) rfl rfl rfl ?_
      exact kk
    exact sh_Lk_sub (sh_sub_c rfl (sh_sub_c rfl (sh_sub_c rfl (sh_sub_c rfl (sh_sub_c rfl (sh_sub_c rfl (sh_sub_n))))))) (sl_101_9 (by decide) e tg)
  · refine sh_Lk_lift (T := m.T) (I := m.I) (J := m.J) (s := m.s) (pc2 := 1) (lv2 := [(0, .ref 42), (1, .ref 19), (2, .int x2), (3, .int x3)]) (st2 := [.int x2]) (I2 := m.I) (J2 := m.J) (fun hT v kk => ?_) ?_
    · refine sh_w (i := (.iload_n 2)) (len := 1) (pc2 := 1) (lv2 := [(0, .ref 42), (1, .ref 19), (2, .int x2), (3, .int x3)]) (st2 := [.int x2]) (h2 := (sh_rep m.T m.I m.J)) rfl rfl rfl ?_
      exact kk
    refine sh_Lk_cS (r := (some (.int (sf_94 x2)))) (st2 := [.int (sf_94 x2)]) (pc2 := 4) (k2 := 94) (as := [.int x2]) (rest := []) rfl rfl (by decide) (Nat.le_of_ble_eq_true rfl) rfl rfl ⟨Nat.le_of_ble_eq_true rfl, Nat.le_of_ble_eq_true rfl⟩ (sl_94 (m := m) rfl ⟨rfl, rfl⟩) rfl rfl (Nat.le_of_ble_eq_true rfl) (Nat.le_of_ble_eq_true rfl) ?_
    refine sh_Lk_lift (T := m.T) (I := m.I) (J := m.J) (s := m.s) (pc2 := 9) (lv2 := [(5, .int 0), (4, .int (sf_94 x2)), (0, .ref 42), (1, .ref 19), (2, .int x2), (3, .int x3)]) (st2 := []) (I2 := m.I) (J2 := m.J) (fun hT v kk => ?_) ?_
    · refine sh_w (i := (.istore 4)) (len := 2) (pc2 := 6) (lv2 := [(4, .int (sf_94 x2)), (0, .ref 42), (1, .ref 19), (2, .int x2), (3, .int x3)]) (st2 := []) (h2 := (sh_rep m.T m.I m.J)) rfl rfl rfl ?_
      refine sh_w (i := (.iconst 0)) (len := 1) (pc2 := 7) (lv2 := [(4, .int (sf_94 x2)), (0, .ref 42), (1, .ref 19), (2, .int x2), (3, .int x3)]) (st2 := [.int 0]) (h2 := (sh_rep m.T m.I m.J)) rfl rfl rfl ?_
      refine sh_w (i := (.istore 5)) (len := 2) (pc2 := 9) (lv2 := [(5, .int 0), (4, .int (sf_94 x2)), (0, .ref 42), (1, .ref 19), (2, .int x2), (3, .int x3)]) (st2 := []) (h2 := (sh_rep m.T m.I m.J)) rfl rfl rfl ?_
      exact kk
    exact sh_Lk_sub (sh_sub_c rfl (sh_sub_c rfl (sh_sub_c rfl (sh_sub_c rfl (sh_sub_c rfl (sh_sub_c rfl (sh_sub_n))))))) (sl_101_9 (by decide) e tg)
  · refine sh_Lk_lift (T := m.T) (I := m.I) (J := m.J) (s := m.s) (pc2 := 1) (lv2 := [(0, .ref 42), (1, .ref 24), (2, .int x2), (3, .int x3)]) (st2 := [.int x2]) (I2 := m.I) (J2 := m.J) (fun hT v kk => ?_) ?_
    · refine sh_w (i := (.iload_n 2)) (len := 1) (pc2 := 1) (lv2 := [(0, .ref 42), (1, .ref 24), (2, .int x2), (3, .int x3)]) (st2 := [.int x2]) (h2 := (sh_rep m.T m.I m.J)) rfl rfl rfl ?_
      exact kk
    refine sh_Lk_cS (r := (some (.int (sf_94 x2)))) (st2 := [.int (sf_94 x2)]) (pc2 := 4) (k2 := 94) (as := [.int x2]) (rest := []) rfl rfl (by decide) (Nat.le_of_ble_eq_true rfl) rfl rfl ⟨Nat.le_of_ble_eq_true rfl, Nat.le_of_ble_eq_true rfl⟩ (sl_94 (m := m) rfl ⟨rfl, rfl⟩) rfl rfl (Nat.le_of_ble_eq_true rfl) (Nat.le_of_ble_eq_true rfl) ?_
    refine sh_Lk_lift (T := m.T) (I := m.I) (J := m.J) (s := m.s) (pc2 := 9) (lv2 := [(5, .int 0), (4, .int (sf_94 x2)), (0, .ref 42), (1, .ref 24), (2, .int x2), (3, .int x3)]) (st2 := []) (I2 := m.I) (J2 := m.J) (fun hT v kk => ?_) ?_
    · refine sh_w (i := (.istore 4)) (len := 2) (pc2 := 6) (lv2 := [(4, .int (sf_94 x2)), (0, .ref 42), (1, .ref 24), (2, .int x2), (3, .int x3)]) (st2 := []) (h2 := (sh_rep m.T m.I m.J)) rfl rfl rfl ?_
      refine sh_w (i := (.iconst 0)) (len := 1) (pc2 := 7) (lv2 := [(4, .int (sf_94 x2)), (0, .ref 42), (1, .ref 24), (2, .int x2), (3, .int x3)]) (st2 := [.int 0]) (h2 := (sh_rep m.T m.I m.J)) rfl rfl rfl ?_
      refine sh_w (i := (.istore 5)) (len := 2) (pc2 := 9) (lv2 := [(5, .int 0), (4, .int (sf_94 x2)), (0, .ref 42), (1, .ref 24), (2, .int x2), (3, .int x3)]) (st2 := []) (h2 := (sh_rep m.T m.I m.J)) rfl rfl rfl ?_
      exact kk
    exact sh_Lk_sub (sh_sub_c rfl (sh_sub_c rfl (sh_sub_c rfl (sh_sub_c rfl (sh_sub_c rfl (sh_sub_c rfl (sh_sub_n))))))) (sl_101_9 (by decide) e tg)
