/-! LINKS, printed by gen27.py -/
theorem sl_293_77s {Q : sh_Q279} {d : Nat} {x2 : Int32} {x3 : Int32} {x4 : Int32} {x5 : Int32} {m m2 : sh_X} {o : Outcome} {z : ((Int32 × sh_X) ⊕ (Bool × sh_X))} (hQ : sh_QL279 Q d) (e : sf_293_77s Q x2 x3 x4 x5 m = some z) (tg : (sh_el (fun q => sh_Lk 293 77 [(0, .ref 67), (2, .int x2), (3, .int x3), (4, .int x4), (5, .int q.1)] [] q.2 o m2 (d + 1 + 15) (40 * (d + 1) + 385)) (sh_tZ o m2)) z) : sh_Lk 293 77 [(0, .ref 67), (2, .int x2), (3, .int x3), (4, .int x4), (5, .int x5)] [] m o m2 (d + 1 + 15) (40 * (d + 1) + 385) := by
  unfold sf_293_77s at e
  refine sh_Lk_lift (T := m.T) (I := m.I) (J := m.J) (s := m.s) (pc2 := 83) (lv2 := [(0, .ref 67), (2, .int x2), (3, .int x3), (4, .int x4), (5, .int x5)]) (st2 := [.int (m.I 66 45), .int x5]) (I2 := m.I) (J2 := m.J) (fun hT v kk => ?_) ?_
  · refine sh_w (i := (.iload 5)) (len := 2) (pc2 := 79) (lv2 := [(0, .ref 67), (2, .int x2), (3, .int x3), (4, .int x4), (5, .int x5)]) (st2 := [.int x5]) (h2 := (sh_rep m.T m.I m.J)) rfl rfl rfl ?_
    refine sh_w (i := (.aload_n 0)) (len := 1) (pc2 := 80) (lv2 := [(0, .ref 67), (2, .int x2), (3, .int x3), (4, .int x4), (5, .int x5)]) (st2 := [.ref 67, .int x5]) (h2 := (sh_rep m.T m.I m.J)) rfl rfl rfl ?_
    refine sh_gI1 (len := 3) (x := m.I 66 45) (pc2 := 83) rfl rfl (sh_s66 hT.st) rfl rfl rfl ?_
    exact kk
  rcases sh_ite e with ⟨c, e⟩ | ⟨c, e⟩
  · refine sh_Lk_lift (T := m.T) (I := m.I) (J := m.J) (s := m.s) (pc2 := 103) (lv2 := [(0, .ref 67), (2, .int x2), (3, .int x3), (4, .int x4), (5, .int x5)]) (st2 := [.int (x4 + x5), .ref 93, .int (x2 + x5), .ref 93]) (I2 := m.I) (J2 := m.J) (fun hT v kk => ?_) ?_
    · refine sh_jc (c := .ge) (off := (28)) (pc2 := 86) false rfl (sh_Bgef c) rfl ?_
      refine sh_w (i := (.aload_n 0)) (len := 1) (pc2 := 87) (lv2 := [(0, .ref 67), (2, .int x2), (3, .int x3), (4, .int x4), (5, .int x5)]) (st2 := [.ref 67]) (h2 := (sh_rep m.T m.I m.J)) rfl rfl rfl ?_
      refine sh_gR1 (len := 3) (x := .ref 93) (pc2 := 90) rfl rfl (sh_s66 hT.st) rfl rfl ?_
      refine sh_w (i := (.iload_n 2)) (len := 1) (pc2 := 91) (lv2 := [(0, .ref 67), (2, .int x2), (3, .int x3), (4, .int x4), (5, .int x5)]) (st2 := [.int x2, .ref 93]) (h2 := (sh_rep m.T m.I m.J)) rfl rfl rfl ?_
      refine sh_w (i := (.iload 5)) (len := 2) (pc2 := 93) (lv2 := [(0, .ref 67), (2, .int x2), (3, .int x3), (4, .int x4), (5, .int x5)]) (st2 := [.int x5, .int x2, .ref 93]) (h2 := (sh_rep m.T m.I m.J)) rfl rfl rfl ?_
      refine sh_w (i := .iadd) (len := 1) (pc2 := 94) (lv2 := [(0, .ref 67), (2, .int x2), (3, .int x3), (4, .int x4), (5, .int x5)]) (st2 := [.int (x2 + x5), .ref 93]) (h2 := (sh_rep m.T m.I m.J)) rfl rfl rfl ?_
      refine sh_w (i := (.aload_n 0)) (len := 1) (pc2 := 95) (lv2 := [(0, .ref 67), (2, .int x2), (3, .int x3), (4, .int x4), (5, .int x5)]) (st2 := [.ref 67, .int (x2 + x5), .ref 93]) (h2 := (sh_rep m.T m.I m.J)) rfl rfl rfl ?_
      refine sh_gR1 (len := 3) (x := .ref 93) (pc2 := 98) rfl rfl (sh_s66 hT.st) rfl rfl ?_
      refine sh_w (i := (.iload 4)) (len := 2) (pc2 := 100) (lv2 := [(0, .ref 67), (2, .int x2), (3, .int x3), (4, .int x4), (5, .int x5)]) (st2 := [.int x4, .ref 93, .int (x2 + x5), .ref 93]) (h2 := (sh_rep m.T m.I m.J)) rfl rfl rfl ?_
      refine sh_w (i := (.iload 5)) (len := 2) (pc2 := 102) (lv2 := [(0, .ref 67), (2, .int x2), (3, .int x3), (4, .int x4), (5, .int x5)]) (st2 := [.int x5, .int x4, .ref 93, .int (x2 + x5), .ref 93]) (h2 := (sh_rep m.T m.I m.J)) rfl rfl rfl ?_
      refine sh_w (i := .iadd) (len := 1) (pc2 := 103) (lv2 := [(0, .ref 67), (2, .int x2), (3, .int x3), (4, .int x4), (5, .int x5)]) (st2 := [.int (x4 + x5), .ref 93, .int (x2 + x5), .ref 93]) (h2 := (sh_rep m.T m.I m.J)) rfl rfl rfl ?_
      exact kk
    obtain ⟨c, e⟩ := sh_gd e
    refine sh_Lk_lift (T := m.T) (I := m.I) (J := m.J) (s := m.s) (pc2 := 104) (lv2 := [(0, .ref 67), (2, .int x2), (3, .int x3), (4, .int x4), (5, .int x5)]) (st2 := [.long (m.J 92 (Int32.toNatClampNeg (x4 + x5))), .int (x2 + x5), .ref 93]) (I2 := m.I) (J2 := m.J) (fun hT v kk => ?_) ?_
    · refine sh_la1 (x := m.J 92 (Int32.toNatClampNeg (x4 + x5))) (pc2 := 104) rfl (sh_s92 hT.st) (sh_okb1 c) (sh_okb2 c) rfl rfl ?_
      exact kk
    obtain ⟨c, e⟩ := sh_gd e
    refine sh_Lk_lift (T := m.T) (I := m.I) (J := m.J) (s := m.s) (pc2 := 77) (lv2 := [(5, .int (x5 + 1)), (0, .ref 67), (2, .int x2), (3, .int x3), (4, .int x4)]) (st2 := []) (I2 := m.I) (J2 := sh_u2 m.J 92 (Int32.toNatClampNeg (x2 + x5)) (m.J 92 (Int32.toNatClampNeg (x4 + x5)))) (fun hT v kk => ?_) ?_
    · refine sh_ls1 (x := m.J 92 (Int32.toNatClampNeg (x4 + x5))) (i := x2 + x5) (pc2 := 105) rfl (sh_s92 hT.st) (sh_okb1 c) (sh_okb2 c) rfl ?_
      refine sh_w (i := (.iinc 5 1)) (len := 3) (pc2 := 108) (lv2 := [(5, .int (x5 + 1)), (0, .ref 67), (2, .int x2), (3, .int x3), (4, .int x4)]) (st2 := []) (h2 := (sh_rep m.T m.I (sh_u2 m.J 92 (Int32.toNatClampNeg (x2 + x5)) (m.J 92 (Int32.toNatClampNeg (x4 + x5)))))) rfl rfl rfl ?_
      refine sh_w (i := (.goto (-31))) (len := 3) (pc2 := 77) (lv2 := [(5, .int (x5 + 1)), (0, .ref 67), (2, .int x2), (3, .int x3), (4, .int x4)]) (st2 := []) (h2 := (sh_rep m.T m.I (sh_u2 m.J 92 (Int32.toNatClampNeg (x2 + x5)) (m.J 92 (Int32.toNatClampNeg (x4 + x5)))))) rfl rfl rfl ?_
      exact kk
    obtain rfl := Option.some.inj e
    exact sh_Lk_sub (sh_sub_c rfl (sh_sub_c rfl (sh_sub_c rfl (sh_sub_c rfl (sh_sub_c rfl (sh_sub_n)))))) tg
  · refine sh_Lk_lift (T := m.T) (I := m.I) (J := m.J) (s := m.s) (pc2 := 130) (lv2 := [(0, .ref 67), (2, .int x2), (3, .int x3), (4, .int x4), (5, .int x5)]) (st2 := [.int x3, .int (m.I 66 53), .ref 94]) (I2 := sh_u2 m.I 66 41 (x2 + (m.I 66 45))) (J2 := m.J) (fun hT v kk => ?_) ?_
    · refine sh_jc (c := .ge) (off := (28)) (pc2 := 111) true rfl (sh_Bget c) rfl ?_
      refine sh_w (i := (.aload_n 0)) (len := 1) (pc2 := 112) (lv2 := [(0, .ref 67), (2, .int x2), (3, .int x3), (4, .int x4), (5, .int x5)]) (st2 := [.ref 67]) (h2 := (sh_rep m.T m.I m.J)) rfl rfl rfl ?_
      refine sh_w (i := (.iload_n 2)) (len := 1) (pc2 := 113) (lv2 := [(0, .ref 67), (2, .int x2), (3, .int x3), (4, .int x4), (5, .int x5)]) (st2 := [.int x2, .ref 67]) (h2 := (sh_rep m.T m.I m.J)) rfl rfl rfl ?_
      refine sh_w (i := (.aload_n 0)) (len := 1) (pc2 := 114) (lv2 := [(0, .ref 67), (2, .int x2), (3, .int x3), (4, .int x4), (5, .int x5)]) (st2 := [.ref 67, .int x2, .ref 67]) (h2 := (sh_rep m.T m.I m.J)) rfl rfl rfl ?_
      refine sh_gI1 (len := 3) (x := m.I 66 45) (pc2 := 117) rfl rfl (sh_s66 hT.st) rfl rfl rfl ?_
      refine sh_w (i := .iadd) (len := 1) (pc2 := 118) (lv2 := [(0, .ref 67), (2, .int x2), (3, .int x3), (4, .int x4), (5, .int x5)]) (st2 := [.int (x2 + (m.I 66 45)), .ref 67]) (h2 := (sh_rep m.T m.I m.J)) rfl rfl rfl ?_
      refine sh_pI1 (x := x2 + (m.I 66 45)) (pc2 := 121) rfl rfl (sh_s66 hT.st) rfl rfl rfl rfl ?_
      refine sh_w (i := (.aload_n 0)) (len := 1) (pc2 := 122) (lv2 := [(0, .ref 67), (2, .int x2), (3, .int x3), (4, .int x4), (5, .int x5)]) (st2 := [.ref 67]) (h2 := (sh_rep m.T (sh_u2 m.I 66 41 (x2 + (m.I 66 45))) m.J)) rfl rfl rfl ?_
      refine sh_gR1 (len := 3) (x := .ref 94) (pc2 := 125) rfl rfl (sh_s66 hT.st) rfl rfl ?_
      refine sh_w (i := (.aload_n 0)) (len := 1) (pc2 := 126) (lv2 := [(0, .ref 67), (2, .int x2), (3, .int x3), (4, .int x4), (5, .int x5)]) (st2 := [.ref 67, .ref 94]) (h2 := (sh_rep m.T (sh_u2 m.I 66 41 (x2 + (m.I 66 45))) m.J)) rfl rfl rfl ?_
      refine sh_gI1 (len := 3) (x := m.I 66 53) (pc2 := 129) rfl rfl (sh_s66 hT.st) rfl rfl rfl ?_
      refine sh_w (i := (.iload_n 3)) (len := 1) (pc2 := 130) (lv2 := [(0, .ref 67), (2, .int x2), (3, .int x3), (4, .int x4), (5, .int x5)]) (st2 := [.int x3, .int (m.I 66 53), .ref 94]) (h2 := (sh_rep m.T (sh_u2 m.I 66 41 (x2 + (m.I 66 45))) m.J)) rfl rfl rfl ?_
      exact kk
    obtain ⟨c, e⟩ := sh_gd e
    refine sh_Lk_lift (T := m.T) (I := sh_u2 m.I 66 41 (x2 + (m.I 66 45))) (J := m.J) (s := m.s) (pc2 := 143) (lv2 := [(0, .ref 67), (2, .int x2), (3, .int x3), (4, .int x4), (5, .int x5)]) (st2 := [.int (m.I 66 43), .int (m.I 66 53), .ref 95]) (I2 := sh_u2 (sh_u2 m.I 66 41 (x2 + (m.I 66 45))) 93 (Int32.toNatClampNeg (m.I 66 53)) x3) (J2 := m.J) (fun hT v kk => ?_) ?_
    · refine sh_is1 (x := x3) (i := m.I 66 53) (pc2 := 131) rfl (sh_s93 hT.st) (sh_okb1 c) (sh_okb2 c) rfl ?_
      refine sh_w (i := (.aload_n 0)) (len := 1) (pc2 := 132) (lv2 := [(0, .ref 67), (2, .int x2), (3, .int x3), (4, .int x4), (5, .int x5)]) (st2 := [.ref 67]) (h2 := (sh_rep m.T (sh_u2 (sh_u2 m.I 66 41 (x2 + (m.I 66 45))) 93 (Int32.toNatClampNeg (m.I 66 53)) x3) m.J)) rfl rfl rfl ?_
      refine sh_gR1 (len := 3) (x := .ref 95) (pc2 := 135) rfl rfl (sh_s66 hT.st) rfl rfl ?_
      refine sh_w (i := (.aload_n 0)) (len := 1) (pc2 := 136) (lv2 := [(0, .ref 67), (2, .int x2), (3, .int x3), (4, .int x4), (5, .int x5)]) (st2 := [.ref 67, .ref 95]) (h2 := (sh_rep m.T (sh_u2 (sh_u2 m.I 66 41 (x2 + (m.I 66 45))) 93 (Int32.toNatClampNeg (m.I 66 53)) x3) m.J)) rfl rfl rfl ?_
      refine sh_gI1 (len := 3) (x := m.I 66 53) (pc2 := 139) rfl rfl (sh_s66 hT.st) rfl rfl rfl ?_
      refine sh_w (i := (.aload_n 0)) (len := 1) (pc2 := 140) (lv2 := [(0, .ref 67), (2, .int x2), (3, .int x3), (4, .int x4), (5, .int x5)]) (st2 := [.ref 67, .int (m.I 66 53), .ref 95]) (h2 := (sh_rep m.T (sh_u2 (sh_u2 m.I 66 41 (x2 + (m.I 66 45))) 93 (Int32.toNatClampNeg (m.I 66 53)) x3) m.J)) rfl rfl rfl ?_
      refine sh_gI1 (len := 3) (x := m.I 66 43) (pc2 := 143) rfl rfl (sh_s66 hT.st) rfl rfl rfl ?_
      exact kk
    obtain ⟨c, e⟩ := sh_gd e
    refine sh_Lk_lift (T := m.T) (I := sh_u2 (sh_u2 m.I 66 41 (x2 + (m.I 66 45))) 93 (Int32.toNatClampNeg (m.I 66 53)) x3) (J := m.J) (s := m.s) (pc2 := 156) (lv2 := [(0, .ref 67), (2, .int x2), (3, .int x3), (4, .int x4), (5, .int x5)]) (st2 := [.int (m.I 66 44), .int (m.I 66 53), .ref 96]) (I2 := sh_u2 (sh_u2 (sh_u2 m.I 66 41 (x2 + (m.I 66 45))) 93 (Int32.toNatClampNeg (m.I 66 53)) x3) 94 (Int32.toNatClampNeg (m.I 66 53)) (m.I 66 43)) (J2 := m.J) (fun hT v kk => ?_) ?_
    · refine sh_is1 (x := m.I 66 43) (i := m.I 66 53) (pc2 := 144) rfl (sh_s94 hT.st) (sh_okb1 c) (sh_okb2 c) rfl ?_
      refine sh_w (i := (.aload_n 0)) (len := 1) (pc2 := 145) (lv2 := [(0, .ref 67), (2, .int x2), (3, .int x3), (4, .int x4), (5, .int x5)]) (st2 := [.ref 67]) (h2 := (sh_rep m.T (sh_u2 (sh_u2 (sh_u2 m.I 66 41 (x2 + (m.I 66 45))) 93 (Int32.toNatClampNeg (m.I 66 53)) x3) 94 (Int32.toNatClampNeg (m.I 66 53)) (m.I 66 43)) m.J)) rfl rfl rfl ?_
      refine sh_gR1 (len := 3) (x := .ref 96) (pc2 := 148) rfl rfl (sh_s66 hT.st) rfl rfl ?_
      refine sh_w (i := (.aload_n 0)) (len := 1) (pc2 := 149) (lv2 := [(0, .ref 67), (2, .int x2), (3, .int x3), (4, .int x4), (5, .int x5)]) (st2 := [.ref 67, .ref 96]) (h2 := (sh_rep m.T (sh_u2 (sh_u2 (sh_u2 m.I 66 41 (x2 + (m.I 66 45))) 93 (Int32.toNatClampNeg (m.I 66 53)) x3) 94 (Int32.toNatClampNeg (m.I 66 53)) (m.I 66 43)) m.J)) rfl rfl rfl ?_
      refine sh_gI1 (len := 3) (x := m.I 66 53) (pc2 := 152) rfl rfl (sh_s66 hT.st) rfl rfl rfl ?_
      refine sh_w (i := (.aload_n 0)) (len := 1) (pc2 := 153) (lv2 := [(0, .ref 67), (2, .int x2), (3, .int x3), (4, .int x4), (5, .int x5)]) (st2 := [.ref 67, .int (m.I 66 53), .ref 96]) (h2 := (sh_rep m.T (sh_u2 (sh_u2 (sh_u2 m.I 66 41 (x2 + (m.I 66 45))) 93 (Int32.toNatClampNeg (m.I 66 53)) x3) 94 (Int32.toNatClampNeg (m.I 66 53)) (m.I 66 43)) m.J)) rfl rfl rfl ?_
      refine sh_gI1 (len := 3) (x := m.I 66 44) (pc2 := 156) rfl rfl (sh_s66 hT.st) rfl rfl rfl ?_
      exact kk
    obtain ⟨c, e⟩ := sh_gd e
    refine sh_Lk_lift (T := m.T) (I := sh_u2 (sh_u2 (sh_u2 m.I 66 41 (x2 + (m.I 66 45))) 93 (Int32.toNatClampNeg (m.I 66 53)) x3) 94 (Int32.toNatClampNeg (m.I 66 53)) (m.I 66 43)) (J := m.J) (s := m.s) (pc2 := 169) (lv2 := [(0, .ref 67), (2, .int x2), (3, .int x3), (4, .int x4), (5, .int x5)]) (st2 := [.int (m.I 66 45), .int (m.I 66 53), .ref 97]) (I2 := sh_u2 (sh_u2 (sh_u2 (sh_u2 m.I 66 41 (x2 + (m.I 66 45))) 93 (Int32.toNatClampNeg (m.I 66 53)) x3) 94 (Int32.toNatClampNeg (m.I 66 53)) (m.I 66 43)) 95 (Int32.toNatClampNeg (m.I 66 53)) (m.I 66 44)) (J2 := m.J) (fun hT v kk => ?_) ?_
    · refine sh_is1 (x := m.I 66 44) (i := m.I 66 53) (pc2 := 157) rfl (sh_s95 hT.st) (sh_okb1 c) (sh_okb2 c) rfl ?_
      refine sh_w (i := (.aload_n 0)) (len := 1) (pc2 := 158) (lv2 := [(0, .ref 67), (2, .int x2), (3, .int x3), (4, .int x4), (5, .int x5)]) (st2 := [.ref 67]) (h2 := (sh_rep m.T (sh_u2 (sh_u2 (sh_u2 (sh_u2 m.I 66 41 (x2 + (m.I 66 45))) 93 (Int32.toNatClampNeg (m.I 66 53)) x3) 94 (Int32.toNatClampNeg (m.I 66 53)) (m.I 66 43)) 95 (Int32.toNatClampNeg (m.I 66 53)) (m.I 66 44)) m.J)) rfl rfl rfl ?_
      refine sh_gR1 (len := 3) (x := .ref 97) (pc2 := 161) rfl rfl (sh_s66 hT.st) rfl rfl ?_
      refine sh_w (i := (.aload_n 0)) (len := 1) (pc2 := 162) (lv2 := [(0, .ref 67), (2, .int x2), (3, .int x3), (4, .int x4), (5, .int x5)]) (st2 := [.ref 67, .ref 97]) (h2 := (sh_rep m.T (sh_u2 (sh_u2 (sh_u2 (sh_u2 m.I 66 41 (x2 + (m.I 66 45))) 93 (Int32.toNatClampNeg (m.I 66 53)) x3) 94 (Int32.toNatClampNeg (m.I 66 53)) (m.I 66 43)) 95 (Int32.toNatClampNeg (m.I 66 53)) (m.I 66 44)) m.J)) rfl rfl rfl ?_
      refine sh_gI1 (len := 3) (x := m.I 66 53) (pc2 := 165) rfl rfl (sh_s66 hT.st) rfl rfl rfl ?_
      refine sh_w (i := (.aload_n 0)) (len := 1) (pc2 := 166) (lv2 := [(0, .ref 67), (2, .int x2), (3, .int x3), (4, .int x4), (5, .int x5)]) (st2 := [.ref 67, .int (m.I 66 53), .ref 97]) (h2 := (sh_rep m.T (sh_u2 (sh_u2 (sh_u2 (sh_u2 m.I 66 41 (x2 + (m.I 66 45))) 93 (Int32.toNatClampNeg (m.I 66 53)) x3) 94 (Int32.toNatClampNeg (m.I 66 53)) (m.I 66 43)) 95 (Int32.toNatClampNeg (m.I 66 53)) (m.I 66 44)) m.J)) rfl rfl rfl ?_
      refine sh_gI1 (len := 3) (x := m.I 66 45) (pc2 := 169) rfl rfl (sh_s66 hT.st) rfl rfl rfl ?_
      exact kk
    obtain ⟨c, e⟩ := sh_gd e
    refine sh_Lk_lift (T := m.T) (I := sh_u2 (sh_u2 (sh_u2 (sh_u2 m.I 66 41 (x2 + (m.I 66 45))) 93 (Int32.toNatClampNeg (m.I 66 53)) x3) 94 (Int32.toNatClampNeg (m.I 66 53)) (m.I 66 43)) 95 (Int32.toNatClampNeg (m.I 66 53)) (m.I 66 44)) (J := m.J) (s := m.s) (pc2 := 179) (lv2 := [(0, .ref 67), (2, .int x2), (3, .int x3), (4, .int x4), (5, .int x5)]) (st2 := [.int x2, .int (m.I 66 53), .ref 98]) (I2 := sh_u2 (sh_u2 (sh_u2 (sh_u2 (sh_u2 m.I 66 41 (x2 + (m.I 66 45))) 93 (Int32.toNatClampNeg (m.I 66 53)) x3) 94 (Int32.toNatClampNeg (m.I 66 53)) (m.I 66 43)) 95 (Int32.toNatClampNeg (m.I 66 53)) (m.I 66 44)) 96 (Int32.toNatClampNeg (m.I 66 53)) (m.I 66 45)) (J2 := m.J) (fun hT v kk => ?_) ?_
    · refine sh_is1 (x := m.I 66 45) (i := m.I 66 53) (pc2 := 170) rfl (sh_s96 hT.st) (sh_okb1 c) (sh_okb2 c) rfl ?_
      refine sh_w (i := (.aload_n 0)) (len := 1) (pc2 := 171) (lv2 := [(0, .ref 67), (2, .int x2), (3, .int x3), (4, .int x4), (5, .int x5)]) (st2 := [.ref 67]) (h2 := (sh_rep m.T (sh_u2 (sh_u2 (sh_u2 (sh_u2 (sh_u2 m.I 66 41 (x2 + (m.I 66 45))) 93 (Int32.toNatClampNeg (m.I 66 53)) x3) 94 (Int32.toNatClampNeg (m.I 66 53)) (m.I 66 43)) 95 (Int32.toNatClampNeg (m.I 66 53)) (m.I 66 44)) 96 (Int32.toNatClampNeg (m.I 66 53)) (m.I 66 45)) m.J)) rfl rfl rfl ?_
      refine sh_gR1 (len := 3) (x := .ref 98) (pc2 := 174) rfl rfl (sh_s66 hT.st) rfl rfl ?_
      refine sh_w (i := (.aload_n 0)) (len := 1) (pc2 := 175) (lv2 := [(0, .ref 67), (2, .int x2), (3, .int x3), (4, .int x4), (5, .int x5)]) (st2 := [.ref 67, .ref 98]) (h2 := (sh_rep m.T (sh_u2 (sh_u2 (sh_u2 (sh_u2 (sh_u2 m.I 66 41 (x2 + (m.I 66 45))) 93 (Int32.toNatClampNeg (m.I 66 53)) x3) 94 (Int32.toNatClampNeg (m.I 66 53)) (m.I 66 43)) 95 (Int32.toNatClampNeg (m.I 66 53)) (m.I 66 44)) 96 (Int32.toNatClampNeg (m.I 66 53)) (m.I 66 45)) m.J)) rfl rfl rfl ?_
      refine sh_gI1 (len := 3) (x := m.I 66 53) (pc2 := 178) rfl rfl (sh_s66 hT.st) rfl rfl rfl ?_
      refine sh_w (i := (.iload_n 2)) (len := 1) (pc2 := 179) (lv2 := [(0, .ref 67), (2, .int x2), (3, .int x3), (4, .int x4), (5, .int x5)]) (st2 := [.int x2, .int (m.I 66 53), .ref 98]) (h2 := (sh_rep m.T (sh_u2 (sh_u2 (sh_u2 (sh_u2 (sh_u2 m.I 66 41 (x2 + (m.I 66 45))) 93 (Int32.toNatClampNeg (m.I 66 53)) x3) 94 (Int32.toNatClampNeg (m.I 66 53)) (m.I 66 43)) 95 (Int32.toNatClampNeg (m.I 66 53)) (m.I 66 44)) 96 (Int32.toNatClampNeg (m.I 66 53)) (m.I 66 45)) m.J)) rfl rfl rfl ?_
      exact kk
    obtain ⟨c, e⟩ := sh_gd e
    refine sh_Lk_lift (T := m.T) (I := sh_u2 (sh_u2 (sh_u2 (sh_u2 (sh_u2 m.I 66 41 (x2 + (m.I 66 45))) 93 (Int32.toNatClampNeg (m.I 66 53)) x3) 94 (Int32.toNatClampNeg (m.I 66 53)) (m.I 66 43)) 95 (Int32.toNatClampNeg (m.I 66 53)) (m.I 66 44)) 96 (Int32.toNatClampNeg (m.I 66 53)) (m.I 66 45)) (J := m.J) (s := m.s) (pc2 := 191) (lv2 := [(0, .ref 67), (2, .int x2), (3, .int x3), (4, .int x4), (5, .int x5)]) (st2 := [.int 1]) (I2 := sh_u2 (sh_u2 (sh_u2 (sh_u2 (sh_u2 (sh_u2 (sh_u2 m.I 66 41 (x2 + (m.I 66 45))) 93 (Int32.toNatClampNeg (m.I 66 53)) x3) 94 (Int32.toNatClampNeg (m.I 66 53)) (m.I 66 43)) 95 (Int32.toNatClampNeg (m.I 66 53)) (m.I 66 44)) 96 (Int32.toNatClampNeg (m.I 66 53)) (m.I 66 45)) 97 (Int32.toNatClampNeg (m.I 66 53)) x2) 66 53 ((m.I 66 53) + 1)) (J2 := m.J) (fun hT v kk => ?_) ?_
    · refine sh_is1 (x := x2) (i := m.I 66 53) (pc2 := 180) rfl (sh_s97 hT.st) (sh_okb1 c) (sh_okb2 c) rfl ?_
      refine sh_w (i := (.aload_n 0)) (len := 1) (pc2 := 181) (lv2 := [(0, .ref 67), (2, .int x2), (3, .int x3), (4, .int x4), (5, .int x5)]) (st2 := [.ref 67]) (h2 := (sh_rep m.T (sh_u2 (sh_u2 (sh_u2 (sh_u2 (sh_u2 (sh_u2 m.I 66 41 (x2 + (m.I 66 45))) 93 (Int32.toNatClampNeg (m.I 66 53)) x3) 94 (Int32.toNatClampNeg (m.I 66 53)) (m.I 66 43)) 95 (Int32.toNatClampNeg (m.I 66 53)) (m.I 66 44)) 96 (Int32.toNatClampNeg (m.I 66 53)) (m.I 66 45)) 97 (Int32.toNatClampNeg (m.I 66 53)) x2) m.J)) rfl rfl rfl ?_
      refine sh_w (i := .dup) (len := 1) (pc2 := 182) (lv2 := [(0, .ref 67), (2, .int x2), (3, .int x3), (4, .int x4), (5, .int x5)]) (st2 := [.ref 67, .ref 67]) (h2 := (sh_rep m.T (sh_u2 (sh_u2 (sh_u2 (sh_u2 (sh_u2 (sh_u2 m.I 66 41 (x2 + (m.I 66 45))) 93 (Int32.toNatClampNeg (m.I 66 53)) x3) 94 (Int32.toNatClampNeg (m.I 66 53)) (m.I 66 43)) 95 (Int32.toNatClampNeg (m.I 66 53)) (m.I 66 44)) 96 (Int32.toNatClampNeg (m.I 66 53)) (m.I 66 45)) 97 (Int32.toNatClampNeg (m.I 66 53)) x2) m.J)) rfl rfl rfl ?_
      refine sh_gI1 (len := 3) (x := m.I 66 53) (pc2 := 185) rfl rfl (sh_s66 hT.st) rfl rfl rfl ?_
      refine sh_w (i := (.iconst 1)) (len := 1) (pc2 := 186) (lv2 := [(0, .ref 67), (2, .int x2), (3, .int x3), (4, .int x4), (5, .int x5)]) (st2 := [.int 1, .int (m.I 66 53), .ref 67]) (h2 := (sh_rep m.T (sh_u2 (sh_u2 (sh_u2 (sh_u2 (sh_u2 (sh_u2 m.I 66 41 (x2 + (m.I 66 45))) 93 (Int32.toNatClampNeg (m.I 66 53)) x3) 94 (Int32.toNatClampNeg (m.I 66 53)) (m.I 66 43)) 95 (Int32.toNatClampNeg (m.I 66 53)) (m.I 66 44)) 96 (Int32.toNatClampNeg (m.I 66 53)) (m.I 66 45)) 97 (Int32.toNatClampNeg (m.I 66 53)) x2) m.J)) rfl rfl rfl ?_
      refine sh_w (i := .iadd) (len := 1) (pc2 := 187) (lv2 := [(0, .ref 67), (2, .int x2), (3, .int x3), (4, .int x4), (5, .int x5)]) (st2 := [.int ((m.I 66 53) + 1), .ref 67]) (h2 := (sh_rep m.T (sh_u2 (sh_u2 (sh_u2 (sh_u2 (sh_u2 (sh_u2 m.I 66 41 (x2 + (m.I 66 45))) 93 (Int32.toNatClampNeg (m.I 66 53)) x3) 94 (Int32.toNatClampNeg (m.I 66 53)) (m.I 66 43)) 95 (Int32.toNatClampNeg (m.I 66 53)) (m.I 66 44)) 96 (Int32.toNatClampNeg (m.I 66 53)) (m.I 66 45)) 97 (Int32.toNatClampNeg (m.I 66 53)) x2) m.J)) rfl rfl rfl ?_
      refine sh_pI1 (x := (m.I 66 53) + 1) (pc2 := 190) rfl rfl (sh_s66 hT.st) rfl rfl rfl rfl ?_
      refine sh_w (i := (.iconst 1)) (len := 1) (pc2 := 191) (lv2 := [(0, .ref 67), (2, .int x2), (3, .int x3), (4, .int x4), (5, .int x5)]) (st2 := [.int 1]) (h2 := (sh_rep m.T (sh_u2 (sh_u2 (sh_u2 (sh_u2 (sh_u2 (sh_u2 (sh_u2 m.I 66 41 (x2 + (m.I 66 45))) 93 (Int32.toNatClampNeg (m.I 66 53)) x3) 94 (Int32.toNatClampNeg (m.I 66 53)) (m.I 66 43)) 95 (Int32.toNatClampNeg (m.I 66 53)) (m.I 66 44)) 96 (Int32.toNatClampNeg (m.I 66 53)) (m.I 66 45)) 97 (Int32.toNatClampNeg (m.I 66 53)) x2) 66 53 ((m.I 66 53) + 1)) m.J)) rfl rfl rfl ?_
      exact kk
    obtain rfl := Option.some.inj e
    obtain ⟨rfl, rfl⟩ := tg
    exact sh_Lk_ret (i := .ireturn) rfl rfl rfl (by omega) (by omega)
theorem sl_293_77 {Q : sh_Q279} {d : Nat} {x2 : Int32} {x3 : Int32} {x4 : Int32} {x5 : Int32} {m m2 : sh_X} {o : Outcome} {z : (Bool × sh_X)} (hQ : sh_QL279 Q d) (e : sf_293_77 Q x2 x3 x4 x5 m = some z) (tg : (sh_tZ o m2) z) : sh_Lk 293 77 [(0, .ref 67), (2, .int x2), (3, .int x3), (4, .int x4), (5, .int x5)] [] m o m2 (d + 1 + 15) (40 * (d + 1) + 385) := by
  unfold sf_293_77 at e
  exact sh_while_lk (P := fun q => sh_Lk 293 77 [(0, .ref 67), (2, .int x2), (3, .int x3), (4, .int x4), (5, .int q.1)] [] q.2 o m2 (d + 1 + 15) (40 * (d + 1) + 385)) (Q := (sh_tZ o m2)) (fun q z e tg => sl_293_77s (x2 := x2) (x3 := x3) (x4 := x4) (x5 := q.1) (m := q.2) hQ e tg) (s := (x5, m)) e tg
theorem sl_293 {Q : sh_Q279} {d : Nat} {x1 : Int32} {m m2 : sh_X} {o : Outcome} {z : (Bool × sh_X)} (hQ : sh_QL279 Q d) (e : sf_293 Q x1 m = some z) (tg : (sh_tZ o m2) z) : sh_Lk 293 0 [(0, .ref 67), (1, .int x1)] [] m o m2 (d + 1 + 15) (40 * (d + 1) + 385) := by
  unfold sf_293 at e
  refine sh_Lk_lift (T := m.T) (I := m.I) (J := m.J) (s := m.s) (pc2 := 11) (lv2 := [(2, .int (m.I 66 41)), (0, .ref 67), (1, .int x1)]) (st2 := [.int x1, .ref 75, .ref 67]) (I2 := m.I) (J2 := m.J) (fun hT v kk => ?_) ?_
  · refine sh_w (i := (.aload_n 0)) (len := 1) (pc2 := 1) (lv2 := [(0, .ref 67), (1, .int x1)]) (st2 := [.ref 67]) (h2 := (sh_rep m.T m.I m.J)) rfl rfl rfl ?_
    refine sh_gI1 (len := 3) (x := m.I 66 41) (pc2 := 4) rfl rfl (sh_s66 hT.st) rfl rfl rfl ?_
    refine sh_w (i := (.istore_n 2)) (len := 1) (pc2 := 5) (lv2 := [(2, .int (m.I 66 41)), (0, .ref 67), (1, .int x1)]) (st2 := []) (h2 := (sh_rep m.T m.I m.J)) rfl rfl rfl ?_
    refine sh_w (i := (.aload_n 0)) (len := 1) (pc2 := 6) (lv2 := [(2, .int (m.I 66 41)), (0, .ref 67), (1, .int x1)]) (st2 := [.ref 67]) (h2 := (sh_rep m.T m.I m.J)) rfl rfl rfl ?_
    refine sh_w (i := (.aload_n 0)) (len := 1) (pc2 := 7) (lv2 := [(2, .int (m.I 66 41)), (0, .ref 67), (1, .int x1)]) (st2 := [.ref 67, .ref 67]) (h2 := (sh_rep m.T m.I m.J)) rfl rfl rfl ?_
    refine sh_gR1 (len := 3) (x := .ref 75) (pc2 := 10) rfl rfl (sh_s66 hT.st) rfl rfl ?_
    refine sh_w (i := (.iload_n 1)) (len := 1) (pc2 := 11) (lv2 := [(2, .int (m.I 66 41)), (0, .ref 67), (1, .int x1)]) (st2 := [.int x1, .ref 75, .ref 67]) (h2 := (sh_rep m.T m.I m.J)) rfl rfl rfl ?_
    exact kk
  obtain ⟨c, e⟩ := sh_gd e
  refine sh_Lk_lift (T := m.T) (I := m.I) (J := m.J) (s := m.s) (pc2 := 12) (lv2 := [(2, .int (m.I 66 41)), (0, .ref 67), (1, .int x1)]) (st2 := [.int (m.I 74 (Int32.toNatClampNeg x1)), .ref 67]) (I2 := m.I) (J2 := m.J) (fun hT v kk => ?_) ?_
  · refine sh_ia1 (x := m.I 74 (Int32.toNatClampNeg x1)) (pc2 := 12) rfl (sh_s74 hT.st) (sh_okb1 c) (sh_okb2 c) rfl rfl ?_
    exact kk
  obtain ⟨r1, m11, e1, e⟩ := sh_bn_e e
  refine sh_Lk_cV (r := (some (.int (sh_b2 r1)))) (st2 := [.int (sh_b2 r1)]) (pc2 := 15) (k2 := 294) (a := 66) (as := [.ref 67, .int (m.I 74 (Int32.toNatClampNeg x1))]) (rest := []) rfl rfl rfl (fun hT => (sh_s66 hT.st)) rfl rfl ⟨Nat.le_of_ble_eq_true rfl, Nat.le_of_ble_eq_true rfl⟩ (hQ.f294 e1 ⟨rfl, rfl⟩) rfl rfl (show d + 15 + 1 ≤ d + 1 + 15 by omega) (show 8 + (5 + 11) + (40 * d + 385) ≤ 40 * (d + 1) + 385 by omega) ?_
  rcases sh_ite e with ⟨c, e⟩ | ⟨c, e⟩
  · refine sh_Lk_lift (T := m11.T) (I := m11.I) (J := m11.J) (s := m11.s) (pc2 := 24) (lv2 := [(2, .int (m.I 66 41)), (0, .ref 67), (1, .int x1)]) (st2 := [.int x1, .ref 75, .ref 67]) (I2 := m11.I) (J2 := m11.J) (fun hT v kk => ?_) ?_
    · refine sh_j0 (c := .eq) (off := (16)) (pc2 := 18) false rfl (sh_Zeqf c) rfl ?_
      refine sh_w (i := (.aload_n 0)) (len := 1) (pc2 := 19) (lv2 := [(2, .int (m.I 66 41)), (0, .ref 67), (1, .int x1)]) (st2 := [.ref 67]) (h2 := (sh_rep m11.T m11.I m11.J)) rfl rfl rfl ?_
      refine sh_w (i := (.aload_n 0)) (len := 1) (pc2 := 20) (lv2 := [(2, .int (m.I 66 41)), (0, .ref 67), (1, .int x1)]) (st2 := [.ref 67, .ref 67]) (h2 := (sh_rep m11.T m11.I m11.J)) rfl rfl rfl ?_
      refine sh_gR1 (len := 3) (x := .ref 75) (pc2 := 23) rfl rfl (sh_s66 hT.st) rfl rfl ?_
      refine sh_w (i := (.iload_n 1)) (len := 1) (pc2 := 24) (lv2 := [(2, .int (m.I 66 41)), (0, .ref 67), (1, .int x1)]) (st2 := [.int x1, .ref 75, .ref 67]) (h2 := (sh_rep m11.T m11.I m11.J)) rfl rfl rfl ?_
      exact kk
    obtain ⟨c, e⟩ := sh_gd e
    refine sh_Lk_lift (T := m11.T) (I := m11.I) (J := m11.J) (s := m11.s) (pc2 := 25) (lv2 := [(2, .int (m.I 66 41)), (0, .ref 67), (1, .int x1)]) (st2 := [.int (m11.I 74 (Int32.toNatClampNeg x1)), .ref 67]) (I2 := m11.I) (J2 := m11.J) (fun hT v kk => ?_) ?_
    · refine sh_ia1 (x := m11.I 74 (Int32.toNatClampNeg x1)) (pc2 := 25) rfl (sh_s74 hT.st) (sh_okb1 c) (sh_okb2 c) rfl rfl ?_
      exact kk
    obtain ⟨r2, m12, e2, e⟩ := sh_bn_e e
    refine sh_Lk_cV (r := (some (.int (sh_b2 r2)))) (st2 := [.int (sh_b2 r2)]) (pc2 := 28) (k2 := 298) (a := 66) (as := [.ref 67, .int (m11.I 74 (Int32.toNatClampNeg x1))]) (rest := []) rfl rfl rfl (fun hT => (sh_s66 hT.st)) rfl rfl ⟨Nat.le_of_ble_eq_true rfl, Nat.le_of_ble_eq_true rfl⟩ (sl_298 e2 ⟨rfl, rfl⟩) rfl rfl (show 11 + 1 ≤ d + 1 + 15 by omega) (show 8 + (2 + 11) + (268) ≤ 40 * (d + 1) + 385 by omega) ?_
    rcases sh_ite e with ⟨c, e⟩ | ⟨c, e⟩
    · refine sh_Lk_lift (T := m12.T) (I := m12.I) (J := m12.J) (s := m12.s) (pc2 := 38) (lv2 := [(2, .int (m.I 66 41)), (0, .ref 67), (1, .int x1)]) (st2 := [.int x1, .ref 76]) (I2 := m12.I) (J2 := m12.J) (fun hT v kk => ?_) ?_
      · refine sh_j0 (c := .ne) (off := (5)) (pc2 := 33) true rfl (sh_Znet c) rfl ?_
        refine sh_w (i := (.aload_n 0)) (len := 1) (pc2 := 34) (lv2 := [(2, .int (m.I 66 41)), (0, .ref 67), (1, .int x1)]) (st2 := [.ref 67]) (h2 := (sh_rep m12.T m12.I m12.J)) rfl rfl rfl ?_
        refine sh_gR1 (len := 3) (x := .ref 76) (pc2 := 37) rfl rfl (sh_s66 hT.st) rfl rfl ?_
        refine sh_w (i := (.iload_n 1)) (len := 1) (pc2 := 38) (lv2 := [(2, .int (m.I 66 41)), (0, .ref 67), (1, .int x1)]) (st2 := [.int x1, .ref 76]) (h2 := (sh_rep m12.T m12.I m12.J)) rfl rfl rfl ?_
        exact kk
      obtain ⟨c, e⟩ := sh_gd e
      refine sh_Lk_lift (T := m12.T) (I := m12.I) (J := m12.J) (s := m12.s) (pc2 := 42) (lv2 := [(3, .int (m12.I 75 (Int32.toNatClampNeg x1))), (2, .int (m.I 66 41)), (0, .ref 67), (1, .int x1)]) (st2 := [.int (m12.I 75 (Int32.toNatClampNeg x1)), .ref 67]) (I2 := m12.I) (J2 := m12.J) (fun hT v kk => ?_) ?_
      · refine sh_ia1 (x := m12.I 75 (Int32.toNatClampNeg x1)) (pc2 := 39) rfl (sh_s75 hT.st) (sh_okb1 c) (sh_okb2 c) rfl rfl ?_
        refine sh_w (i := (.istore_n 3)) (len := 1) (pc2 := 40) (lv2 := [(3, .int (m12.I 75 (Int32.toNatClampNeg x1))), (2, .int (m.I 66 41)), (0, .ref 67), (1, .int x1)]) (st2 := []) (h2 := (sh_rep m12.T m12.I m12.J)) rfl rfl rfl ?_
        refine sh_w (i := (.aload_n 0)) (len := 1) (pc2 := 41) (lv2 := [(3, .int (m12.I 75 (Int32.toNatClampNeg x1))), (2, .int (m.I 66 41)), (0, .ref 67), (1, .int x1)]) (st2 := [.ref 67]) (h2 := (sh_rep m12.T m12.I m12.J)) rfl rfl rfl ?_
        refine sh_w (i := (.iload_n 3)) (len := 1) (pc2 := 42) (lv2 := [(3, .int (m12.I 75 (Int32.toNatClampNeg x1))), (2, .int (m.I 66 41)), (0, .ref 67), (1, .int x1)]) (st2 := [.int (m12.I 75 (Int32.toNatClampNeg x1)), .ref 67]) (h2 := (sh_rep m12.T m12.I m12.J)) rfl rfl rfl ?_
        exact kk
      obtain ⟨r3, e3, e⟩ := sh_bc_e e
      refine sh_Lk_cV (r := (some (.int r3))) (st2 := [.int r3]) (pc2 := 45) (k2 := 284) (a := 66) (as := [.ref 67, .int (m12.I 75 (Int32.toNatClampNeg x1))]) (rest := []) rfl rfl rfl (fun hT => (sh_s66 hT.st)) rfl rfl ⟨Nat.le_of_ble_eq_true rfl, Nat.le_of_ble_eq_true rfl⟩ (sl_284 e3 ⟨rfl, rfl⟩) rfl rfl (show 9 + 1 ≤ d + 1 + 15 by omega) (show 8 + (3 + 11) + (223) ≤ 40 * (d + 1) + 385 by omega) ?_
      rcases sh_ite e with ⟨c, e⟩ | ⟨c, e⟩
      · refine sh_Lk_lift (T := m12.T) (I := m12.I) (J := m12.J) (s := m12.s) (pc2 := 64) (lv2 := [(3, .int (m12.I 75 (Int32.toNatClampNeg x1))), (2, .int (m.I 66 41)), (0, .ref 67), (1, .int x1)]) (st2 := [.int (m12.I 66 45)]) (I2 := m12.I) (J2 := m12.J) (fun hT v kk => ?_) ?_
        · refine sh_j0 (c := .lt) (off := (15)) (pc2 := 60) true rfl (sh_Bltt c) rfl ?_
          refine sh_w (i := (.aload_n 0)) (len := 1) (pc2 := 61) (lv2 := [(3, .int (m12.I 75 (Int32.toNatClampNeg x1))), (2, .int (m.I 66 41)), (0, .ref 67), (1, .int x1)]) (st2 := [.ref 67]) (h2 := (sh_rep m12.T m12.I m12.J)) rfl rfl rfl ?_
          refine sh_gI1 (len := 3) (x := m12.I 66 45) (pc2 := 64) rfl rfl (sh_s66 hT.st) rfl rfl rfl ?_
          exact kk
        rcases sh_ite e with ⟨c, e⟩ | ⟨c, e⟩
        · refine sh_Lk_lift (T := m12.T) (I := m12.I) (J := m12.J) (s := m12.s) (pc2 := 77) (lv2 := [(5, .int 0), (4, .int (Int64.toInt32 (m12.J 66 46))), (3, .int (m12.I 75 (Int32.toNatClampNeg x1))), (2, .int (m.I 66 41)), (0, .ref 67), (1, .int x1)]) (st2 := []) (I2 := m12.I) (J2 := m12.J) (fun hT v kk => ?_) ?_
          · refine sh_j0 (c := .le) (off := (128)) (pc2 := 67) false rfl (sh_Blef c) rfl ?_
            refine sh_w (i := (.aload_n 0)) (len := 1) (pc2 := 68) (lv2 := [(3, .int (m12.I 75 (Int32.toNatClampNeg x1))), (2, .int (m.I 66 41)), (0, .ref 67), (1, .int x1)]) (st2 := [.ref 67]) (h2 := (sh_rep m12.T m12.I m12.J)) rfl rfl rfl ?_
            refine sh_gJ1 (len := 3) (x := m12.J 66 46) (pc2 := 71) rfl rfl (sh_s66 hT.st) rfl rfl rfl ?_
            refine sh_w (i := .l2i) (len := 1) (pc2 := 72) (lv2 := [(3, .int (m12.I 75 (Int32.toNatClampNeg x1))), (2, .int (m.I 66 41)), (0, .ref 67), (1, .int x1)]) (st2 := [.int (Int64.toInt32 (m12.J 66 46))]) (h2 := (sh_rep m12.T m12.I m12.J)) rfl rfl rfl ?_
            refine sh_w (i := (.istore 4)) (len := 2) (pc2 := 74) (lv2 := [(4, .int (Int64.toInt32 (m12.J 66 46))), (3, .int (m12.I 75 (Int32.toNatClampNeg x1))), (2, .int (m.I 66 41)), (0, .ref 67), (1, .int x1)]) (st2 := []) (h2 := (sh_rep m12.T m12.I m12.J)) rfl rfl rfl ?_
            refine sh_w (i := (.iconst 0)) (len := 1) (pc2 := 75) (lv2 := [(4, .int (Int64.toInt32 (m12.J 66 46))), (3, .int (m12.I 75 (Int32.toNatClampNeg x1))), (2, .int (m.I 66 41)), (0, .ref 67), (1, .int x1)]) (st2 := [.int 0]) (h2 := (sh_rep m12.T m12.I m12.J)) rfl rfl rfl ?_
            refine sh_w (i := (.istore 5)) (len := 2) (pc2 := 77) (lv2 := [(5, .int 0), (4, .int (Int64.toInt32 (m12.J 66 46))), (3, .int (m12.I 75 (Int32.toNatClampNeg x1))), (2, .int (m.I 66 41)), (0, .ref 67), (1, .int x1)]) (st2 := []) (h2 := (sh_rep m12.T m12.I m12.J)) rfl rfl rfl ?_
            exact kk
          exact sh_Lk_sub (sh_sub_c rfl (sh_sub_c rfl (sh_sub_c rfl (sh_sub_c rfl (sh_sub_c rfl (sh_sub_n)))))) (sl_293_77 hQ e tg)
        · refine sh_Lk_lift (T := m12.T) (I := m12.I) (J := m12.J) (s := m12.s) (pc2 := 199) (lv2 := [(3, .int (m12.I 75 (Int32.toNatClampNeg x1))), (2, .int (m.I 66 41)), (0, .ref 67), (1, .int x1)]) (st2 := [.int (m12.I 75 (Int32.toNatClampNeg x1)), .ref 67]) (I2 := sh_u2 m12.I 66 41 (m.I 66 41)) (J2 := m12.J) (fun hT v kk => ?_) ?_
          · refine sh_j0 (c := .le) (off := (128)) (pc2 := 192) true rfl (sh_Blet c) rfl ?_
            refine sh_w (i := (.aload_n 0)) (len := 1) (pc2 := 193) (lv2 := [(3, .int (m12.I 75 (Int32.toNatClampNeg x1))), (2, .int (m.I 66 41)), (0, .ref 67), (1, .int x1)]) (st2 := [.ref 67]) (h2 := (sh_rep m12.T m12.I m12.J)) rfl rfl rfl ?_
            refine sh_w (i := (.iload_n 2)) (len := 1) (pc2 := 194) (lv2 := [(3, .int (m12.I 75 (Int32.toNatClampNeg x1))), (2, .int (m.I 66 41)), (0, .ref 67), (1, .int x1)]) (st2 := [.int (m.I 66 41), .ref 67]) (h2 := (sh_rep m12.T m12.I m12.J)) rfl rfl rfl ?_
            refine sh_pI1 (x := m.I 66 41) (pc2 := 197) rfl rfl (sh_s66 hT.st) rfl rfl rfl rfl ?_
            refine sh_w (i := (.aload_n 0)) (len := 1) (pc2 := 198) (lv2 := [(3, .int (m12.I 75 (Int32.toNatClampNeg x1))), (2, .int (m.I 66 41)), (0, .ref 67), (1, .int x1)]) (st2 := [.ref 67]) (h2 := (sh_rep m12.T (sh_u2 m12.I 66 41 (m.I 66 41)) m12.J)) rfl rfl rfl ?_
            refine sh_w (i := (.iload_n 3)) (len := 1) (pc2 := 199) (lv2 := [(3, .int (m12.I 75 (Int32.toNatClampNeg x1))), (2, .int (m.I 66 41)), (0, .ref 67), (1, .int x1)]) (st2 := [.int (m12.I 75 (Int32.toNatClampNeg x1)), .ref 67]) (h2 := (sh_rep m12.T (sh_u2 m12.I 66 41 (m.I 66 41)) m12.J)) rfl rfl rfl ?_
            exact kk
          obtain ⟨r4, m14, e4, e⟩ := sh_bn_e e
          refine sh_Lk_cV (r := none) (st2 := []) (pc2 := 202) (k2 := 318) (a := 66) (as := [.ref 67, .int (m12.I 75 (Int32.toNatClampNeg x1))]) (rest := []) rfl rfl rfl (fun hT => (sh_s66 hT.st)) rfl rfl ⟨Nat.le_of_ble_eq_true rfl, Nat.le_of_ble_eq_true rfl⟩ (sl_318 e4 ⟨rfl, rfl⟩) rfl rfl (show 8 + 1 ≤ d + 1 + 15 by omega) (show 8 + (4 + 11) + (200) ≤ 40 * (d + 1) + 385 by omega) ?_
          refine sh_Lk_lift (T := m14.T) (I := m14.I) (J := m14.J) (s := m14.s) (pc2 := 203) (lv2 := [(3, .int (m12.I 75 (Int32.toNatClampNeg x1))), (2, .int (m.I 66 41)), (0, .ref 67), (1, .int x1)]) (st2 := [.int 1]) (I2 := m14.I) (J2 := m14.J) (fun hT v kk => ?_) ?_
          · refine sh_w (i := (.iconst 1)) (len := 1) (pc2 := 203) (lv2 := [(3, .int (m12.I 75 (Int32.toNatClampNeg x1))), (2, .int (m.I 66 41)), (0, .ref 67), (1, .int x1)]) (st2 := [.int 1]) (h2 := (sh_rep m14.T m14.I m14.J)) rfl rfl rfl ?_
            exact kk
          obtain rfl := Option.some.inj e
          obtain ⟨rfl, rfl⟩ := tg
          exact sh_Lk_ret (i := .ireturn) rfl rfl rfl (by omega) (by omega)
      · refine sh_Lk_lift (T := m12.T) (I := m12.I) (J := m12.J) (s := m12.s) (pc2 := 55) (lv2 := [(3, .int (m12.I 75 (Int32.toNatClampNeg x1))), (2, .int (m.I 66 41)), (0, .ref 67), (1, .int x1)]) (st2 := [.int (m12.I 75 (Int32.toNatClampNeg x1)), .ref 70, .int 3, .ref 67]) (I2 := m12.I) (J2 := m12.J) (fun hT v kk => ?_) ?_
        · refine sh_j0 (c := .lt) (off := (15)) (pc2 := 48) false rfl (sh_Bltf c) rfl ?_
          refine sh_w (i := (.aload_n 0)) (len := 1) (pc2 := 49) (lv2 := [(3, .int (m12.I 75 (Int32.toNatClampNeg x1))), (2, .int (m.I 66 41)), (0, .ref 67), (1, .int x1)]) (st2 := [.ref 67]) (h2 := (sh_rep m12.T m12.I m12.J)) rfl rfl rfl ?_
          refine sh_w (i := (.iconst 3)) (len := 1) (pc2 := 50) (lv2 := [(3, .int (m12.I 75 (Int32.toNatClampNeg x1))), (2, .int (m.I 66 41)), (0, .ref 67), (1, .int x1)]) (st2 := [.int 3, .ref 67]) (h2 := (sh_rep m12.T m12.I m12.J)) rfl rfl rfl ?_
          refine sh_w (i := (.aload_n 0)) (len := 1) (pc2 := 51) (lv2 := [(3, .int (m12.I 75 (Int32.toNatClampNeg x1))), (2, .int (m.I 66 41)), (0, .ref 67), (1, .int x1)]) (st2 := [.ref 67, .int 3, .ref 67]) (h2 := (sh_rep m12.T m12.I m12.J)) rfl rfl rfl ?_
          refine sh_gR1 (len := 3) (x := .ref 70) (pc2 := 54) rfl rfl (sh_s66 hT.st) rfl rfl ?_
          refine sh_w (i := (.iload_n 3)) (len := 1) (pc2 := 55) (lv2 := [(3, .int (m12.I 75 (Int32.toNatClampNeg x1))), (2, .int (m.I 66 41)), (0, .ref 67), (1, .int x1)]) (st2 := [.int (m12.I 75 (Int32.toNatClampNeg x1)), .ref 70, .int 3, .ref 67]) (h2 := (sh_rep m12.T m12.I m12.J)) rfl rfl rfl ?_
          exact kk
        obtain ⟨c, e⟩ := sh_gd e
        refine sh_Lk_lift (T := m12.T) (I := m12.I) (J := m12.J) (s := m12.s) (pc2 := 56) (lv2 := [(3, .int (m12.I 75 (Int32.toNatClampNeg x1))), (2, .int (m.I 66 41)), (0, .ref 67), (1, .int x1)]) (st2 := [.int (m12.I 69 (Int32.toNatClampNeg (m12.I 75 (Int32.toNatClampNeg x1)))), .int 3, .ref 67]) (I2 := m12.I) (J2 := m12.J) (fun hT v kk => ?_) ?_
        · refine sh_ia1 (x := m12.I 69 (Int32.toNatClampNeg (m12.I 75 (Int32.toNatClampNeg x1)))) (pc2 := 56) rfl (sh_s69 hT.st) (sh_okb1 c) (sh_okb2 c) rfl rfl ?_
          exact kk
        obtain ⟨r5, m15, e5, e⟩ := sh_bn_e e
        refine sh_Lk_cV (r := (some (.int (sh_b2 r5)))) (st2 := [.int (sh_b2 r5)]) (pc2 := 59) (k2 := 252) (a := 66) (as := [.ref 67, .int 3, .int (m12.I 69 (Int32.toNatClampNeg (m12.I 75 (Int32.toNatClampNeg x1))))]) (rest := []) rfl rfl rfl (fun hT => (sh_s66 hT.st)) rfl rfl ⟨Nat.le_of_ble_eq_true rfl, Nat.le_of_ble_eq_true rfl⟩ (sl_252 e5 ⟨rfl, rfl⟩) rfl rfl (show 8 + 1 ≤ d + 1 + 15 by omega) (show 8 + (3 + 11) + (200) ≤ 40 * (d + 1) + 385 by omega) ?_
        obtain rfl := Option.some.inj e
        obtain ⟨rfl, rfl⟩ := tg
        exact sh_Lk_ret (i := .ireturn) rfl rfl (sh_rb rfl _) (by omega) (by omega)
    · refine sh_Lk_lift (T := m12.T) (I := m12.I) (J := m12.J) (s := m12.s) (pc2 := 32) (lv2 := [(2, .int (m.I 66 41)), (0, .ref 67), (1, .int x1)]) (st2 := [.int 0]) (I2 := m12.I) (J2 := m12.J) (fun hT v kk => ?_) ?_
      · refine sh_j0 (c := .ne) (off := (5)) (pc2 := 31) false rfl (sh_Znef c) rfl ?_
        refine sh_w (i := (.iconst 0)) (len := 1) (pc2 := 32) (lv2 := [(2, .int (m.I 66 41)), (0, .ref 67), (1, .int x1)]) (st2 := [.int 0]) (h2 := (sh_rep m12.T m12.I m12.J)) rfl rfl rfl ?_
        exact kk
      obtain rfl := Option.some.inj e
      obtain ⟨rfl, rfl⟩ := tg
      exact sh_Lk_ret (i := .ireturn) rfl rfl rfl (by omega) (by omega)
  · refine sh_Lk_lift (T := m11.T) (I := m11.I) (J := m11.J) (s := m11.s) (pc2 := 32) (lv2 := [(2, .int (m.I 66 41)), (0, .ref 67), (1, .int x1)]) (st2 := [.int 0]) (I2 := m11.I) (J2 := m11.J) (fun hT v kk => ?_) ?_
    · refine sh_j0 (c := .eq) (off := (16)) (pc2 := 31) true rfl (sh_Zeqt c) rfl ?_
      refine sh_w (i := (.iconst 0)) (len := 1) (pc2 := 32) (lv2 := [(2, .int (m.I 66 41)), (0, .ref 67), (1, .int x1)]) (st2 := [.int 0]) (h2 := (sh_rep m11.T m11.I m11.J)) rfl rfl rfl ?_
      exact kk
    obtain rfl := Option.some.inj e
    obtain ⟨rfl, rfl⟩ := tg
    exact sh_Lk_ret (i := .ireturn) rfl rfl rfl (by omega) (by omega)
theorem sl_294_119 {Q : sh_Q279} {d : Nat} {x2 : Int32} {x4 : Bool} {m m2 : sh_X} {o : Outcome} {z : (sh_X ⊕ (Bool × sh_X))} (hQ : sh_QL279 Q d) (e : sf_294_119 Q x2 x4 m = some z) (tg : (sh_el (fun q => sh_Lk 294 10 [(0, .ref 67), (2, .int x2)] [] q o m2 (d + 1 + 15) (40 * (d + 1) + 385)) (sh_tZ o m2)) z) : sh_Lk 294 119 [(0, .ref 67), (2, .int x2), (4, .int (sh_b2 x4))] [] m o m2 (d + 1 + 15) (40 * (d + 1) + 385) := by
  unfold sf_294_119 at e
  refine sh_Lk_lift (T := m.T) (I := m.I) (J := m.J) (s := m.s) (pc2 := 121) (lv2 := [(0, .ref 67), (2, .int x2), (4, .int (sh_b2 x4))]) (st2 := [.int (sh_b2 x4)]) (I2 := m.I) (J2 := m.J) (fun hT v kk => ?_) ?_
  · refine sh_w (i := (.iload 4)) (len := 2) (pc2 := 121) (lv2 := [(0, .ref 67), (2, .int x2), (4, .int (sh_b2 x4))]) (st2 := [.int (sh_b2 x4)]) (h2 := (sh_rep m.T m.I m.J)) rfl rfl rfl ?_
    exact kk
  rcases sh_ite e with ⟨c, e⟩ | ⟨c, e⟩
  · refine sh_Lk_lift (T := m.T) (I := m.I) (J := m.J) (s := m.s) (pc2 := 10) (lv2 := [(0, .ref 67), (2, .int x2), (4, .int (sh_b2 x4))]) (st2 := []) (I2 := m.I) (J2 := m.J) (fun hT v kk => ?_) ?_
    · refine sh_j0 (c := .ne) (off := (5)) (pc2 := 126) true rfl (sh_Znet c) rfl ?_
      refine sh_w (i := (.goto (-116))) (len := 3) (pc2 := 10) (lv2 := [(0, .ref 67), (2, .int x2), (4, .int (sh_b2 x4))]) (st2 := []) (h2 := (sh_rep m.T m.I m.J)) rfl rfl rfl ?_
      exact kk
    obtain rfl := Option.some.inj e
    exact sh_Lk_sub (sh_sub_c rfl (sh_sub_c rfl (sh_sub_n))) tg
  · refine sh_Lk_lift (T := m.T) (I := m.I) (J := m.J) (s := m.s) (pc2 := 125) (lv2 := [(0, .ref 67), (2, .int x2), (4, .int (sh_b2 x4))]) (st2 := [.int 0]) (I2 := m.I) (J2 := m.J) (fun hT v kk => ?_) ?_
    · refine sh_j0 (c := .ne) (off := (5)) (pc2 := 124) false rfl (sh_Znef c) rfl ?_
      refine sh_w (i := (.iconst 0)) (len := 1) (pc2 := 125) (lv2 := [(0, .ref 67), (2, .int x2), (4, .int (sh_b2 x4))]) (st2 := [.int 0]) (h2 := (sh_rep m.T m.I m.J)) rfl rfl rfl ?_
      exact kk
    obtain rfl := Option.some.inj e
    obtain ⟨rfl, rfl⟩ := tg
    exact sh_Lk_ret (i := .ireturn) rfl rfl rfl (by omega) (by omega)
theorem sl_294_10s {Q : sh_Q279} {d : Nat} {x2 : Int32} {m m2 : sh_X} {o : Outcome} {z : (sh_X ⊕ (Bool × sh_X))} (hQ : sh_QL279 Q d) (e : sf_294_10s Q x2 m = some z) (tg : (sh_el (fun q => sh_Lk 294 10 [(0, .ref 67), (2, .int x2)] [] q o m2 (d + 1 + 15) (40 * (d + 1) + 385)) (sh_tZ o m2)) z) : sh_Lk 294 10 [(0, .ref 67), (2, .int x2)] [] m o m2 (d + 1 + 15) (40 * (d + 1) + 385) := by
  unfold sf_294_10s at e
  refine sh_Lk_lift (T := m.T) (I := m.I) (J := m.J) (s := m.s) (pc2 := 15) (lv2 := [(0, .ref 67), (2, .int x2)]) (st2 := [.int x2, .int (m.I 66 73)]) (I2 := m.I) (J2 := m.J) (fun hT v kk => ?_) ?_
  · refine sh_w (i := (.aload_n 0)) (len := 1) (pc2 := 11) (lv2 := [(0, .ref 67), (2, .int x2)]) (st2 := [.ref 67]) (h2 := (sh_rep m.T m.I m.J)) rfl rfl rfl ?_
    refine sh_gI1 (len := 3) (x := m.I 66 73) (pc2 := 14) rfl rfl (sh_s66 hT.st) rfl rfl rfl ?_
    refine sh_w (i := (.iload_n 2)) (len := 1) (pc2 := 15) (lv2 := [(0, .ref 67), (2, .int x2)]) (st2 := [.int x2, .int (m.I 66 73)]) (h2 := (sh_rep m.T m.I m.J)) rfl rfl rfl ?_
    exact kk
  rcases sh_ite e with ⟨c, e⟩ | ⟨c, e⟩
  · refine sh_Lk_lift (T := m.T) (I := m.I) (J := m.J) (s := m.s) (pc2 := 28) (lv2 := [(0, .ref 67), (2, .int x2)]) (st2 := [.int ((m.I 66 73) - 1), .ref 106]) (I2 := m.I) (J2 := m.J) (fun hT v kk => ?_) ?_
    · refine sh_jc (c := .le) (off := (114)) (pc2 := 18) false rfl (sh_Blef c) rfl ?_
      refine sh_w (i := (.aload_n 0)) (len := 1) (pc2 := 19) (lv2 := [(0, .ref 67), (2, .int x2)]) (st2 := [.ref 67]) (h2 := (sh_rep m.T m.I m.J)) rfl rfl rfl ?_
      refine sh_gR1 (len := 3) (x := .ref 106) (pc2 := 22) rfl rfl (sh_s66 hT.st) rfl rfl ?_
      refine sh_w (i := (.aload_n 0)) (len := 1) (pc2 := 23) (lv2 := [(0, .ref 67), (2, .int x2)]) (st2 := [.ref 67, .ref 106]) (h2 := (sh_rep m.T m.I m.J)) rfl rfl rfl ?_
      refine sh_gI1 (len := 3) (x := m.I 66 73) (pc2 := 26) rfl rfl (sh_s66 hT.st) rfl rfl rfl ?_
      refine sh_w (i := (.iconst 1)) (len := 1) (pc2 := 27) (lv2 := [(0, .ref 67), (2, .int x2)]) (st2 := [.int 1, .int (m.I 66 73), .ref 106]) (h2 := (sh_rep m.T m.I m.J)) rfl rfl rfl ?_
      refine sh_w (i := .isub) (len := 1) (pc2 := 28) (lv2 := [(0, .ref 67), (2, .int x2)]) (st2 := [.int ((m.I 66 73) - 1), .ref 106]) (h2 := (sh_rep m.T m.I m.J)) rfl rfl rfl ?_
      exact kk
    obtain ⟨c, e⟩ := sh_gd e
    refine sh_Lk_lift (T := m.T) (I := m.I) (J := m.J) (s := m.s) (pc2 := 35) (lv2 := [(3, .int (m.I 105 (Int32.toNatClampNeg ((m.I 66 73) - 1)))), (0, .ref 67), (2, .int x2)]) (st2 := [.int (m.I 105 (Int32.toNatClampNeg ((m.I 66 73) - 1))), .ref 73]) (I2 := m.I) (J2 := m.J) (fun hT v kk => ?_) ?_
    · refine sh_ia1 (x := m.I 105 (Int32.toNatClampNeg ((m.I 66 73) - 1))) (pc2 := 29) rfl (sh_s105 hT.st) (sh_okb1 c) (sh_okb2 c) rfl rfl ?_
      refine sh_w (i := (.istore_n 3)) (len := 1) (pc2 := 30) (lv2 := [(3, .int (m.I 105 (Int32.toNatClampNeg ((m.I 66 73) - 1)))), (0, .ref 67), (2, .int x2)]) (st2 := []) (h2 := (sh_rep m.T m.I m.J)) rfl rfl rfl ?_
      refine sh_w (i := (.aload_n 0)) (len := 1) (pc2 := 31) (lv2 := [(3, .int (m.I 105 (Int32.toNatClampNeg ((m.I 66 73) - 1)))), (0, .ref 67), (2, .int x2)]) (st2 := [.ref 67]) (h2 := (sh_rep m.T m.I m.J)) rfl rfl rfl ?_
      refine sh_gR1 (len := 3) (x := .ref 73) (pc2 := 34) rfl rfl (sh_s66 hT.st) rfl rfl ?_
      refine sh_w (i := (.iload_n 3)) (len := 1) (pc2 := 35) (lv2 := [(3, .int (m.I 105 (Int32.toNatClampNeg ((m.I 66 73) - 1)))), (0, .ref 67), (2, .int x2)]) (st2 := [.int (m.I 105 (Int32.toNatClampNeg ((m.I 66 73) - 1))), .ref 73]) (h2 := (sh_rep m.T m.I m.J)) rfl rfl rfl ?_
      exact kk
    obtain ⟨c, e⟩ := sh_gd e
    refine sh_Lk_lift (T := m.T) (I := m.I) (J := m.J) (s := m.s) (pc2 := 36) (lv2 := [(3, .int (m.I 105 (Int32.toNatClampNeg ((m.I 66 73) - 1)))), (0, .ref 67), (2, .int x2)]) (st2 := [.int (m.I 72 (Int32.toNatClampNeg (m.I 105 (Int32.toNatClampNeg ((m.I 66 73) - 1)))))]) (I2 := m.I) (J2 := m.J) (fun hT v kk => ?_) ?_
    · refine sh_ia1 (x := m.I 72 (Int32.toNatClampNeg (m.I 105 (Int32.toNatClampNeg ((m.I 66 73) - 1))))) (pc2 := 36) rfl (sh_s72 hT.st) (sh_okb1 c) (sh_okb2 c) rfl rfl ?_
      exact kk
    rcases sh_ite e with ⟨c, e⟩ | ⟨c0, e⟩
    · refine sh_Lk_lift (T := m.T) (I := m.I) (J := m.J) (s := m.s) (pc2 := 74) (lv2 := [(3, .int (m.I 105 (Int32.toNatClampNeg ((m.I 66 73) - 1)))), (0, .ref 67), (2, .int x2)]) (st2 := [.int (m.I 105 (Int32.toNatClampNeg ((m.I 66 73) - 1))), .ref 67]) (I2 := m.I) (J2 := m.J) (fun hT v kk => ?_) ?_
      · refine sh_w (i := (.tableswitch 66 6 10 #[36, 56, 46, 36, 46])) (len := 36) (pc2 := 72) (lv2 := [(3, .int (m.I 105 (Int32.toNatClampNeg ((m.I 66 73) - 1)))), (0, .ref 67), (2, .int x2)]) (st2 := []) (h2 := (sh_rep m.T m.I m.J)) rfl rfl (c.elim (fun c => sh_sw c rfl) (fun c => sh_sw c rfl)) ?_
        refine sh_w (i := (.aload_n 0)) (len := 1) (pc2 := 73) (lv2 := [(3, .int (m.I 105 (Int32.toNatClampNeg ((m.I 66 73) - 1)))), (0, .ref 67), (2, .int x2)]) (st2 := [.ref 67]) (h2 := (sh_rep m.T m.I m.J)) rfl rfl rfl ?_
        refine sh_w (i := (.iload_n 3)) (len := 1) (pc2 := 74) (lv2 := [(3, .int (m.I 105 (Int32.toNatClampNeg ((m.I 66 73) - 1)))), (0, .ref 67), (2, .int x2)]) (st2 := [.int (m.I 105 (Int32.toNatClampNeg ((m.I 66 73) - 1))), .ref 67]) (h2 := (sh_rep m.T m.I m.J)) rfl rfl rfl ?_
        exact kk
      obtain ⟨r1, m11, e1, e⟩ := sh_bn_e e
      refine sh_Lk_cV (r := (some (.int (sh_b2 r1)))) (st2 := [.int (sh_b2 r1)]) (pc2 := 77) (k2 := 296) (a := 66) (as := [.ref 67, .int (m.I 105 (Int32.toNatClampNeg ((m.I 66 73) - 1)))]) (rest := []) rfl rfl rfl (fun hT => (sh_s66 hT.st)) rfl rfl ⟨Nat.le_of_ble_eq_true rfl, Nat.le_of_ble_eq_true rfl⟩ (sl_296 e1 ⟨rfl, rfl⟩) rfl rfl (show 13 + 1 ≤ d + 1 + 15 by omega) (show 8 + (3 + 11) + (314) ≤ 40 * (d + 1) + 385 by omega) ?_
      refine sh_Lk_lift (T := m11.T) (I := m11.I) (J := m11.J) (s := m11.s) (pc2 := 119) (lv2 := [(4, .int (sh_b2 r1)), (3, .int (m.I 105 (Int32.toNatClampNeg ((m.I 66 73) - 1)))), (0, .ref 67), (2, .int x2)]) (st2 := []) (I2 := m11.I) (J2 := m11.J) (fun hT v kk => ?_) ?_
      · refine sh_w (i := (.istore 4)) (len := 2) (pc2 := 79) (lv2 := [(4, .int (sh_b2 r1)), (3, .int (m.I 105 (Int32.toNatClampNeg ((m.I 66 73) - 1)))), (0, .ref 67), (2, .int x2)]) (st2 := []) (h2 := (sh_rep m11.T m11.I m11.J)) rfl rfl rfl ?_
        refine sh_w (i := (.goto 40)) (len := 3) (pc2 := 119) (lv2 := [(4, .int (sh_b2 r1)), (3, .int (m.I 105 (Int32.toNatClampNeg ((m.I 66 73) - 1)))), (0, .ref 67), (2, .int x2)]) (st2 := []) (h2 := (sh_rep m11.T m11.I m11.J)) rfl rfl rfl ?_
        exact kk
      exact sh_Lk_sub (sh_sub_c rfl (sh_sub_c rfl (sh_sub_c rfl (sh_sub_n)))) (sl_294_119 hQ e tg)
    rcases sh_ite e with ⟨c, e⟩ | ⟨c1, e⟩
    · refine sh_Lk_lift (T := m.T) (I := m.I) (J := m.J) (s := m.s) (pc2 := 94) (lv2 := [(3, .int (m.I 105 (Int32.toNatClampNeg ((m.I 66 73) - 1)))), (0, .ref 67), (2, .int x2)]) (st2 := [.int (m.I 105 (Int32.toNatClampNeg ((m.I 66 73) - 1))), .ref 67]) (I2 := m.I) (J2 := m.J) (fun hT v kk => ?_) ?_
      · refine sh_w (i := (.tableswitch 66 6 10 #[36, 56, 46, 36, 46])) (len := 36) (pc2 := 92) (lv2 := [(3, .int (m.I 105 (Int32.toNatClampNeg ((m.I 66 73) - 1)))), (0, .ref 67), (2, .int x2)]) (st2 := []) (h2 := (sh_rep m.T m.I m.J)) rfl rfl (sh_sw c rfl) ?_
        refine sh_w (i := (.aload_n 0)) (len := 1) (pc2 := 93) (lv2 := [(3, .int (m.I 105 (Int32.toNatClampNeg ((m.I 66 73) - 1)))), (0, .ref 67), (2, .int x2)]) (st2 := [.ref 67]) (h2 := (sh_rep m.T m.I m.J)) rfl rfl rfl ?_
        refine sh_w (i := (.iload_n 3)) (len := 1) (pc2 := 94) (lv2 := [(3, .int (m.I 105 (Int32.toNatClampNeg ((m.I 66 73) - 1)))), (0, .ref 67), (2, .int x2)]) (st2 := [.int (m.I 105 (Int32.toNatClampNeg ((m.I 66 73) - 1))), .ref 67]) (h2 := (sh_rep m.T m.I m.J)) rfl rfl rfl ?_
        exact kk
      obtain ⟨r2, m12, e2, e⟩ := sh_bn_e e
      refine sh_Lk_cV (r := (some (.int (sh_b2 r2)))) (st2 := [.int (sh_b2 r2)]) (pc2 := 97) (k2 := 311) (a := 66) (as := [.ref 67, .int (m.I 105 (Int32.toNatClampNeg ((m.I 66 73) - 1)))]) (rest := []) rfl rfl rfl (fun hT => (sh_s66 hT.st)) rfl rfl ⟨Nat.le_of_ble_eq_true rfl, Nat.le_of_ble_eq_true rfl⟩ (sl_311 e2 ⟨rfl, rfl⟩) rfl rfl (show 12 + 1 ≤ d + 1 + 15 by omega) (show 8 + (3 + 11) + (296) ≤ 40 * (d + 1) + 385 by omega) ?_
      refine sh_Lk_lift (T := m12.T) (I := m12.I) (J := m12.J) (s := m12.s) (pc2 := 119) (lv2 := [(4, .int (sh_b2 r2)), (3, .int (m.I 105 (Int32.toNatClampNeg ((m.I 66 73) - 1)))), (0, .ref 67), (2, .int x2)]) (st2 := []) (I2 := m12.I) (J2 := m12.J) (fun hT v kk => ?_) ?_
      · refine sh_w (i := (.istore 4)) (len := 2) (pc2 := 99) (lv2 := [(4, .int (sh_b2 r2)), (3, .int (m.I 105 (Int32.toNatClampNeg ((m.I 66 73) - 1)))), (0, .ref 67), (2, .int x2)]) (st2 := []) (h2 := (sh_rep m12.T m12.I m12.J)) rfl rfl rfl ?_
        refine sh_w (i := (.goto 20)) (len := 3) (pc2 := 119) (lv2 := [(4, .int (sh_b2 r2)), (3, .int (m.I 105 (Int32.toNatClampNeg ((m.I 66 73) - 1)))), (0, .ref 67), (2, .int x2)]) (st2 := []) (h2 := (sh_rep m12.T m12.I m12.J)) rfl rfl rfl ?_
        exact kk
      exact sh_Lk_sub (sh_sub_c rfl (sh_sub_c rfl (sh_sub_c rfl (sh_sub_n)))) (sl_294_119 hQ e tg)
    rcases sh_ite e with ⟨c, e⟩ | ⟨c2, e⟩
    · refine sh_Lk_lift (T := m.T) (I := m.I) (J := m.J) (s := m.s) (pc2 := 84) (lv2 := [(3, .int (m.I 105 (Int32.toNatClampNeg ((m.I 66 73) - 1)))), (0, .ref 67), (2, .int x2)]) (st2 := [.int (m.I 105 (Int32.toNatClampNeg ((m.I 66 73) - 1))), .ref 67]) (I2 := m.I) (J2 := m.J) (fun hT v kk => ?_) ?_
      · refine sh_w (i := (.tableswitch 66 6 10 #[36, 56, 46, 36, 46])) (len := 36) (pc2 := 82) (lv2 := [(3, .int (m.I 105 (Int32.toNatClampNeg ((m.I 66 73) - 1)))), (0, .ref 67), (2, .int x2)]) (st2 := []) (h2 := (sh_rep m.T m.I m.J)) rfl rfl (c.elim (fun c => sh_sw c rfl) (fun c => sh_sw c rfl)) ?_
        refine sh_w (i := (.aload_n 0)) (len := 1) (pc2 := 83) (lv2 := [(3, .int (m.I 105 (Int32.toNatClampNeg ((m.I 66 73) - 1)))), (0, .ref 67), (2, .int x2)]) (st2 := [.ref 67]) (h2 := (sh_rep m.T m.I m.J)) rfl rfl rfl ?_
        refine sh_w (i := (.iload_n 3)) (len := 1) (pc2 := 84) (lv2 := [(3, .int (m.I 105 (Int32.toNatClampNeg ((m.I 66 73) - 1)))), (0, .ref 67), (2, .int x2)]) (st2 := [.int (m.I 105 (Int32.toNatClampNeg ((m.I 66 73) - 1))), .ref 67]) (h2 := (sh_rep m.T m.I m.J)) rfl rfl rfl ?_
        exact kk
      obtain ⟨r3, m13, e3, e⟩ := sh_bn_e e
      refine sh_Lk_cV (r := (some (.int (sh_b2 r3)))) (st2 := [.int (sh_b2 r3)]) (pc2 := 87) (k2 := 302) (a := 66) (as := [.ref 67, .int (m.I 105 (Int32.toNatClampNeg ((m.I 66 73) - 1)))]) (rest := []) rfl rfl rfl (fun hT => (sh_s66 hT.st)) rfl rfl ⟨Nat.le_of_ble_eq_true rfl, Nat.le_of_ble_eq_true rfl⟩ (sl_302 e3 ⟨rfl, rfl⟩) rfl rfl (show 14 + 1 ≤ d + 1 + 15 by omega) (show 8 + (3 + 11) + (363) ≤ 40 * (d + 1) + 385 by omega) ?_
      refine sh_Lk_lift (T := m13.T) (I := m13.I) (J := m13.J) (s := m13.s) (pc2 := 119) (lv2 := [(4, .int (sh_b2 r3)), (3, .int (m.I 105 (Int32.toNatClampNeg ((m.I 66 73) - 1)))), (0, .ref 67), (2, .int x2)]) (st2 := []) (I2 := m13.I) (J2 := m13.J) (fun hT v kk => ?_) ?_
      · refine sh_w (i := (.istore 4)) (len := 2) (pc2 := 89) (lv2 := [(4, .int (sh_b2 r3)), (3, .int (m.I 105 (Int32.toNatClampNeg ((m.I 66 73) - 1)))), (0, .ref 67), (2, .int x2)]) (st2 := []) (h2 := (sh_rep m13.T m13.I m13.J)) rfl rfl rfl ?_
        refine sh_w (i := (.goto 30)) (len := 3) (pc2 := 119) (lv2 := [(4, .int (sh_b2 r3)), (3, .int (m.I 105 (Int32.toNatClampNeg ((m.I 66 73) - 1)))), (0, .ref 67), (2, .int x2)]) (st2 := []) (h2 := (sh_rep m13.T m13.I m13.J)) rfl rfl rfl ?_
        exact kk
      exact sh_Lk_sub (sh_sub_c rfl (sh_sub_c rfl (sh_sub_c rfl (sh_sub_n)))) (sl_294_119 hQ e tg)
    refine sh_Lk_lift (T := m.T) (I := m.I) (J := m.J) (s := m.s) (pc2 := 114) (lv2 := [(3, .int (m.I 105 (Int32.toNatClampNeg ((m.I 66 73) - 1)))), (0, .ref 67), (2, .int x2)]) (st2 := [.int (m.I 105 (Int32.toNatClampNeg ((m.I 66 73) - 1))), .ref 67]) (I2 := sh_u2 m.I 66 73 ((m.I 66 73) - 1)) (J2 := m.J) (fun hT v kk => ?_) ?_
    · refine sh_w (i := (.tableswitch 66 6 10 #[36, 56, 46, 36, 46])) (len := 36) (pc2 := 102) (lv2 := [(3, .int (m.I 105 (Int32.toNatClampNeg ((m.I 66 73) - 1)))), (0, .ref 67), (2, .int x2)]) (st2 := []) (h2 := (sh_rep m.T m.I m.J)) rfl rfl (sh_swt [6, 7, 8, 9, 10] (by intro j h1 h2; simp; omega) (sh_fc (fun h => c0 (Or.inl h)) (sh_fc (fun h => c1 (h)) (sh_fc (fun h => c2 (Or.inl h)) (sh_fc (fun h => c0 (Or.inr (h))) (sh_fc (fun h => c2 (Or.inr (h))) sh_fn))))) rfl) ?_
      refine sh_w (i := (.aload_n 0)) (len := 1) (pc2 := 103) (lv2 := [(3, .int (m.I 105 (Int32.toNatClampNeg ((m.I 66 73) - 1)))), (0, .ref 67), (2, .int x2)]) (st2 := [.ref 67]) (h2 := (sh_rep m.T m.I m.J)) rfl rfl rfl ?_
      refine sh_w (i := .dup) (len := 1) (pc2 := 104) (lv2 := [(3, .int (m.I 105 (Int32.toNatClampNeg ((m.I 66 73) - 1)))), (0, .ref 67), (2, .int x2)]) (st2 := [.ref 67, .ref 67]) (h2 := (sh_rep m.T m.I m.J)) rfl rfl rfl ?_
      refine sh_gI1 (len := 3) (x := m.I 66 73) (pc2 := 107) rfl rfl (sh_s66 hT.st) rfl rfl rfl ?_
      refine sh_w (i := (.iconst 1)) (len := 1) (pc2 := 108) (lv2 := [(3, .int (m.I 105 (Int32.toNatClampNeg ((m.I 66 73) - 1)))), (0, .ref 67), (2, .int x2)]) (st2 := [.int 1, .int (m.I 66 73), .ref 67]) (h2 := (sh_rep m.T m.I m.J)) rfl rfl rfl ?_
      refine sh_w (i := .isub) (len := 1) (pc2 := 109) (lv2 := [(3, .int (m.I 105 (Int32.toNatClampNeg ((m.I 66 73) - 1)))), (0, .ref 67), (2, .int x2)]) (st2 := [.int ((m.I 66 73) - 1), .ref 67]) (h2 := (sh_rep m.T m.I m.J)) rfl rfl rfl ?_
      refine sh_pI1 (x := (m.I 66 73) - 1) (pc2 := 112) rfl rfl (sh_s66 hT.st) rfl rfl rfl rfl ?_
      refine sh_w (i := (.aload_n 0)) (len := 1) (pc2 := 113) (lv2 := [(3, .int (m.I 105 (Int32.toNatClampNeg ((m.I 66 73) - 1)))), (0, .ref 67), (2, .int x2)]) (st2 := [.ref 67]) (h2 := (sh_rep m.T (sh_u2 m.I 66 73 ((m.I 66 73) - 1)) m.J)) rfl rfl rfl ?_
      refine sh_w (i := (.iload_n 3)) (len := 1) (pc2 := 114) (lv2 := [(3, .int (m.I 105 (Int32.toNatClampNeg ((m.I 66 73) - 1)))), (0, .ref 67), (2, .int x2)]) (st2 := [.int (m.I 105 (Int32.toNatClampNeg ((m.I 66 73) - 1))), .ref 67]) (h2 := (sh_rep m.T (sh_u2 m.I 66 73 ((m.I 66 73) - 1)) m.J)) rfl rfl rfl ?_
      exact kk
    obtain ⟨r4, m14, e4, e⟩ := sh_bn_e e
    refine sh_Lk_cV (r := (some (.int (sh_b2 r4)))) (st2 := [.int (sh_b2 r4)]) (pc2 := 117) (k2 := 313) (a := 66) (as := [.ref 67, .int (m.I 105 (Int32.toNatClampNeg ((m.I 66 73) - 1)))]) (rest := []) rfl rfl rfl (fun hT => (sh_s66 hT.st)) rfl rfl ⟨Nat.le_of_ble_eq_true rfl, Nat.le_of_ble_eq_true rfl⟩ (hQ.f313 e4 ⟨rfl, rfl⟩) rfl rfl (show d + 15 + 1 ≤ d + 1 + 15 by omega) (show 8 + (2 + 11) + (40 * d + 385) ≤ 40 * (d + 1) + 385 by omega) ?_
    refine sh_Lk_lift (T := m14.T) (I := m14.I) (J := m14.J) (s := m14.s) (pc2 := 119) (lv2 := [(4, .int (sh_b2 r4)), (3, .int (m.I 105 (Int32.toNatClampNeg ((m.I 66 73) - 1)))), (0, .ref 67), (2, .int x2)]) (st2 := []) (I2 := m14.I) (J2 := m14.J) (fun hT v kk => ?_) ?_
    · refine sh_w (i := (.istore 4)) (len := 2) (pc2 := 119) (lv2 := [(4, .int (sh_b2 r4)), (3, .int (m.I 105 (Int32.toNatClampNeg ((m.I 66 73) - 1)))), (0, .ref 67), (2, .int x2)]) (st2 := []) (h2 := (sh_rep m14.T m14.I m14.J)) rfl rfl rfl ?_
      exact kk
    exact sh_Lk_sub (sh_sub_c rfl (sh_sub_c rfl (sh_sub_c rfl (sh_sub_n)))) (sl_294_119 hQ e tg)
  · refine sh_Lk_lift (T := m.T) (I := m.I) (J := m.J) (s := m.s) (pc2 := 130) (lv2 := [(0, .ref 67), (2, .int x2)]) (st2 := [.int 1]) (I2 := m.I) (J2 := m.J) (fun hT v kk => ?_) ?_
    · refine sh_jc (c := .le) (off := (114)) (pc2 := 129) true rfl (sh_Blet c) rfl ?_
      refine sh_w (i := (.iconst 1)) (len := 1) (pc2 := 130) (lv2 := [(0, .ref 67), (2, .int x2)]) (st2 := [.int 1]) (h2 := (sh_rep m.T m.I m.J)) rfl rfl rfl ?_
      exact kk
    obtain rfl := Option.some.inj e
    obtain ⟨rfl, rfl⟩ := tg
    exact sh_Lk_ret (i := .ireturn) rfl rfl rfl (by omega) (by omega)
theorem sl_294_10 {Q : sh_Q279} {d : Nat} {x2 : Int32} {m m2 : sh_X} {o : Outcome} {z : (Bool × sh_X)} (hQ : sh_QL279 Q d) (e : sf_294_10 Q x2 m = some z) (tg : (sh_tZ o m2) z) : sh_Lk 294 10 [(0, .ref 67), (2, .int x2)] [] m o m2 (d + 1 + 15) (40 * (d + 1) + 385) := by
  unfold sf_294_10 at e
  exact sh_while_lk (P := fun q => sh_Lk 294 10 [(0, .ref 67), (2, .int x2)] [] q o m2 (d + 1 + 15) (40 * (d + 1) + 385)) (Q := (sh_tZ o m2)) (fun q z e tg => sl_294_10s (x2 := x2) (m := q) hQ e tg) (s := m) e tg
theorem sl_294 {Q : sh_Q279} {d : Nat} {x1 : Int32} {m m2 : sh_X} {o : Outcome} {z : (Bool × sh_X)} (hQ : sh_QL279 Q d) (e : sf_294 Q x1 m = some z) (tg : (sh_tZ o m2) z) : sh_Lk 294 0 [(0, .ref 67), (1, .int x1)] [] m o m2 (d + 1 + 15) (40 * (d + 1) + 385) := by
  unfold sf_294 at e
  refine sh_Lk_lift (T := m.T) (I := m.I) (J := m.J) (s := m.s) (pc2 := 7) (lv2 := [(2, .int (m.I 66 73)), (0, .ref 67), (1, .int x1)]) (st2 := [.int x1, .ref 67]) (I2 := m.I) (J2 := m.J) (fun hT v kk => ?_) ?_
  · refine sh_w (i := (.aload_n 0)) (len := 1) (pc2 := 1) (lv2 := [(0, .ref 67), (1, .int x1)]) (st2 := [.ref 67]) (h2 := (sh_rep m.T m.I m.J)) rfl rfl rfl ?_
    refine sh_gI1 (len := 3) (x := m.I 66 73) (pc2 := 4) rfl rfl (sh_s66 hT.st) rfl rfl rfl ?_
    refine sh_w (i := (.istore_n 2)) (len := 1) (pc2 := 5) (lv2 := [(2, .int (m.I 66 73)), (0, .ref 67), (1, .int x1)]) (st2 := []) (h2 := (sh_rep m.T m.I m.J)) rfl rfl rfl ?_
    refine sh_w (i := (.aload_n 0)) (len := 1) (pc2 := 6) (lv2 := [(2, .int (m.I 66 73)), (0, .ref 67), (1, .int x1)]) (st2 := [.ref 67]) (h2 := (sh_rep m.T m.I m.J)) rfl rfl rfl ?_
    refine sh_w (i := (.iload_n 1)) (len := 1) (pc2 := 7) (lv2 := [(2, .int (m.I 66 73)), (0, .ref 67), (1, .int x1)]) (st2 := [.int x1, .ref 67]) (h2 := (sh_rep m.T m.I m.J)) rfl rfl rfl ?_
    exact kk
  obtain ⟨r1, m11, e1, e⟩ := sh_bn_e e
  refine sh_Lk_cV (r := none) (st2 := []) (pc2 := 10) (k2 := 295) (a := 66) (as := [.ref 67, .int x1]) (rest := []) rfl rfl rfl (fun hT => (sh_s66 hT.st)) rfl rfl ⟨Nat.le_of_ble_eq_true rfl, Nat.le_of_ble_eq_true rfl⟩ (sl_295 e1 ⟨rfl, rfl⟩) rfl rfl (show 8 + 1 ≤ d + 1 + 15 by omega) (show 8 + (2 + 11) + (200) ≤ 40 * (d + 1) + 385 by omega) ?_
  exact sh_Lk_sub (sh_sub_c rfl (sh_sub_c rfl (sh_sub_n))) (sl_294_10 hQ e tg)
theorem sl_313_93 {Q : sh_Q279} {d : Nat} {y1 : Int64} {m m2 : sh_X} {o : Outcome} {z : (Bool × sh_X)} (hQ : sh_QL279 Q d) (e : sf_313_93 Q y1 m = some z) (tg : (sh_tZ o m2) z) : sh_Lk 313 93 [] [.long y1, .ref 67] m o m2 (d + 1 + 15) (40 * (d + 1) + 385) := by
  unfold sf_313_93 at e
  refine sh_Lk_lift (T := m.T) (I := m.I) (J := m.J) (s := m.s) (pc2 := 97) (lv2 := []) (st2 := [.int 1]) (I2 := m.I) (J2 := sh_u2 m.J 66 46 y1) (fun hT v kk => ?_) ?_
  · refine sh_pJ1 (x := y1) (pc2 := 96) rfl rfl (sh_s66 hT.st) rfl rfl rfl rfl ?_
    refine sh_w (i := (.iconst 1)) (len := 1) (pc2 := 97) (lv2 := []) (st2 := [.int 1]) (h2 := (sh_rep m.T m.I (sh_u2 m.J 66 46 y1))) rfl rfl rfl ?_
    exact kk
  obtain rfl := Option.some.inj e
  obtain ⟨rfl, rfl⟩ := tg
  exact sh_Lk_ret (i := .ireturn) rfl rfl rfl (by omega) (by omega)
theorem sl_313 {Q : sh_Q279} {d : Nat} {x1 : Int32} {m m2 : sh_X} {o : Outcome} {z : (Bool × sh_X)} (hQ : sh_QL279 Q d) (e : sf_313 Q x1 m = some z) (tg : (sh_tZ o m2) z) : sh_Lk 313 0 [(0, .ref 67), (1, .int x1)] [] m o m2 (d + 1 + 15) (40 * (d + 1) + 385) := by
  unfold sf_313 at e
  refine sh_Lk_lift (T := m.T) (I := m.I) (J := m.J) (s := m.s) (pc2 := 5) (lv2 := [(0, .ref 67), (1, .int x1)]) (st2 := [.int x1, .ref 73]) (I2 := m.I) (J2 := m.J) (fun hT v kk => ?_) ?_
  · refine sh_w (i := (.aload_n 0)) (len := 1) (pc2 := 1) (lv2 := [(0, .ref 67), (1, .int x1)]) (st2 := [.ref 67]) (h2 := (sh_rep m.T m.I m.J)) rfl rfl rfl ?_
    refine sh_gR1 (len := 3) (x := .ref 73) (pc2 := 4) rfl rfl (sh_s66 hT.st) rfl rfl ?_
    refine sh_w (i := (.iload_n 1)) (len := 1) (pc2 := 5) (lv2 := [(0, .ref 67), (1, .int x1)]) (st2 := [.int x1, .ref 73]) (h2 := (sh_rep m.T m.I m.J)) rfl rfl rfl ?_
    exact kk
  obtain ⟨c, e⟩ := sh_gd e
  refine sh_Lk_lift (T := m.T) (I := m.I) (J := m.J) (s := m.s) (pc2 := 6) (lv2 := [(0, .ref 67), (1, .int x1)]) (st2 := [.int (m.I 72 (Int32.toNatClampNeg x1))]) (I2 := m.I) (J2 := m.J) (fun hT v kk => ?_) ?_
  · refine sh_ia1 (x := m.I 72 (Int32.toNatClampNeg x1)) (pc2 := 6) rfl (sh_s72 hT.st) (sh_okb1 c) (sh_okb2 c) rfl rfl ?_
    exact kk
  rcases sh_ite e with ⟨c, e⟩ | ⟨c0, e⟩
  · refine sh_Lk_lift (T := m.T) (I := m.I) (J := m.J) (s := m.s) (pc2 := 53) (lv2 := [(0, .ref 67), (1, .int x1)]) (st2 := [.int x1, .ref 74, .ref 67, .ref 67]) (I2 := sh_u2 (sh_u2 m.I 66 43 3) 66 45 0) (J2 := m.J) (fun hT v kk => ?_) ?_
    · refine sh_w (i := (.tableswitch 98 1 4 #[30, 56, 56, 92])) (len := 30) (pc2 := 36) (lv2 := [(0, .ref 67), (1, .int x1)]) (st2 := []) (h2 := (sh_rep m.T m.I m.J)) rfl rfl (sh_sw c rfl) ?_
      refine sh_w (i := (.aload_n 0)) (len := 1) (pc2 := 37) (lv2 := [(0, .ref 67), (1, .int x1)]) (st2 := [.ref 67]) (h2 := (sh_rep m.T m.I m.J)) rfl rfl rfl ?_
      refine sh_w (i := (.iconst 3)) (len := 1) (pc2 := 38) (lv2 := [(0, .ref 67), (1, .int x1)]) (st2 := [.int 3, .ref 67]) (h2 := (sh_rep m.T m.I m.J)) rfl rfl rfl ?_
      refine sh_pI1 (x := 3) (pc2 := 41) rfl rfl (sh_s66 hT.st) rfl rfl rfl rfl ?_
      refine sh_w (i := (.aload_n 0)) (len := 1) (pc2 := 42) (lv2 := [(0, .ref 67), (1, .int x1)]) (st2 := [.ref 67]) (h2 := (sh_rep m.T (sh_u2 m.I 66 43 3) m.J)) rfl rfl rfl ?_
      refine sh_w (i := (.iconst 0)) (len := 1) (pc2 := 43) (lv2 := [(0, .ref 67), (1, .int x1)]) (st2 := [.int 0, .ref 67]) (h2 := (sh_rep m.T (sh_u2 m.I 66 43 3) m.J)) rfl rfl rfl ?_
      refine sh_pI1 (x := 0) (pc2 := 46) rfl rfl (sh_s66 hT.st) rfl rfl rfl rfl ?_
      refine sh_w (i := (.aload_n 0)) (len := 1) (pc2 := 47) (lv2 := [(0, .ref 67), (1, .int x1)]) (st2 := [.ref 67]) (h2 := (sh_rep m.T (sh_u2 (sh_u2 m.I 66 43 3) 66 45 0) m.J)) rfl rfl rfl ?_
      refine sh_w (i := (.aload_n 0)) (len := 1) (pc2 := 48) (lv2 := [(0, .ref 67), (1, .int x1)]) (st2 := [.ref 67, .ref 67]) (h2 := (sh_rep m.T (sh_u2 (sh_u2 m.I 66 43 3) 66 45 0) m.J)) rfl rfl rfl ?_
      refine sh_w (i := (.aload_n 0)) (len := 1) (pc2 := 49) (lv2 := [(0, .ref 67), (1, .int x1)]) (st2 := [.ref 67, .ref 67, .ref 67]) (h2 := (sh_rep m.T (sh_u2 (sh_u2 m.I 66 43 3) 66 45 0) m.J)) rfl rfl rfl ?_
      refine sh_gR1 (len := 3) (x := .ref 74) (pc2 := 52) rfl rfl (sh_s66 hT.st) rfl rfl ?_
      refine sh_w (i := (.iload_n 1)) (len := 1) (pc2 := 53) (lv2 := [(0, .ref 67), (1, .int x1)]) (st2 := [.int x1, .ref 74, .ref 67, .ref 67]) (h2 := (sh_rep m.T (sh_u2 (sh_u2 m.I 66 43 3) 66 45 0) m.J)) rfl rfl rfl ?_
      exact kk
    obtain ⟨c, e⟩ := sh_gd e
    refine sh_Lk_lift (T := m.T) (I := sh_u2 (sh_u2 m.I 66 43 3) 66 45 0) (J := m.J) (s := m.s) (pc2 := 54) (lv2 := [(0, .ref 67), (1, .int x1)]) (st2 := [.int (m.I 73 (Int32.toNatClampNeg x1)), .ref 67, .ref 67]) (I2 := sh_u2 (sh_u2 m.I 66 43 3) 66 45 0) (J2 := m.J) (fun hT v kk => ?_) ?_
    · refine sh_ia1 (x := m.I 73 (Int32.toNatClampNeg x1)) (pc2 := 54) rfl (sh_s73 hT.st) (sh_okb1 c) (sh_okb2 c) rfl rfl ?_
      exact kk
    obtain ⟨r1, e1, e⟩ := sh_bc_e e
    refine sh_Lk_cV (r := (some (.long r1))) (st2 := [.long r1, .ref 67]) (pc2 := 57) (k2 := 281) (a := 66) (as := [.ref 67, .int (m.I 73 (Int32.toNatClampNeg x1))]) (rest := [.ref 67]) rfl rfl rfl (fun hT => (sh_s66 hT.st)) rfl rfl ⟨Nat.le_of_ble_eq_true rfl, Nat.le_of_ble_eq_true rfl⟩ (sl_281 e1 ⟨rfl, rfl⟩) rfl rfl (show 8 + 1 ≤ d + 1 + 15 by omega) (show 8 + (5 + 11) + (200) ≤ 40 * (d + 1) + 385 by omega) ?_
    refine sh_Lk_lift (T := m.T) (I := sh_u2 (sh_u2 m.I 66 43 3) 66 45 0) (J := m.J) (s := m.s) (pc2 := 61) (lv2 := [(0, .ref 67), (1, .int x1)]) (st2 := [.int 1]) (I2 := sh_u2 (sh_u2 m.I 66 43 3) 66 45 0) (J2 := sh_u2 m.J 66 46 r1) (fun hT v kk => ?_) ?_
    · refine sh_pJ1 (x := r1) (pc2 := 60) rfl rfl (sh_s66 hT.st) rfl rfl rfl rfl ?_
      refine sh_w (i := (.iconst 1)) (len := 1) (pc2 := 61) (lv2 := [(0, .ref 67), (1, .int x1)]) (st2 := [.int 1]) (h2 := (sh_rep m.T (sh_u2 (sh_u2 m.I 66 43 3) 66 45 0) (sh_u2 m.J 66 46 r1))) rfl rfl rfl ?_
      exact kk
    obtain rfl := Option.some.inj e
    obtain ⟨rfl, rfl⟩ := tg
    exact sh_Lk_ret (i := .ireturn) rfl rfl rfl (by omega) (by omega)
  rcases sh_ite e with ⟨c, e⟩ | ⟨c1, e⟩
  · refine sh_Lk_lift (T := m.T) (I := m.I) (J := m.J) (s := m.s) (pc2 := 83) (lv2 := [(0, .ref 67), (1, .int x1)]) (st2 := [.int x1, .ref 73, .ref 67]) (I2 := sh_u2 (sh_u2 (sh_u2 m.I 66 43 0) 66 44 1) 66 45 0) (J2 := m.J) (fun hT v kk => ?_) ?_
    · refine sh_w (i := (.tableswitch 98 1 4 #[30, 56, 56, 92])) (len := 30) (pc2 := 62) (lv2 := [(0, .ref 67), (1, .int x1)]) (st2 := []) (h2 := (sh_rep m.T m.I m.J)) rfl rfl (c.elim (fun c => sh_sw c rfl) (fun c => sh_sw c rfl)) ?_
      refine sh_w (i := (.aload_n 0)) (len := 1) (pc2 := 63) (lv2 := [(0, .ref 67), (1, .int x1)]) (st2 := [.ref 67]) (h2 := (sh_rep m.T m.I m.J)) rfl rfl rfl ?_
      refine sh_w (i := (.iconst 0)) (len := 1) (pc2 := 64) (lv2 := [(0, .ref 67), (1, .int x1)]) (st2 := [.int 0, .ref 67]) (h2 := (sh_rep m.T m.I m.J)) rfl rfl rfl ?_
      refine sh_pI1 (x := 0) (pc2 := 67) rfl rfl (sh_s66 hT.st) rfl rfl rfl rfl ?_
      refine sh_w (i := (.aload_n 0)) (len := 1) (pc2 := 68) (lv2 := [(0, .ref 67), (1, .int x1)]) (st2 := [.ref 67]) (h2 := (sh_rep m.T (sh_u2 m.I 66 43 0) m.J)) rfl rfl rfl ?_
      refine sh_w (i := (.iconst 1)) (len := 1) (pc2 := 69) (lv2 := [(0, .ref 67), (1, .int x1)]) (st2 := [.int 1, .ref 67]) (h2 := (sh_rep m.T (sh_u2 m.I 66 43 0) m.J)) rfl rfl rfl ?_
      refine sh_pI1 (x := 1) (pc2 := 72) rfl rfl (sh_s66 hT.st) rfl rfl rfl rfl ?_
      refine sh_w (i := (.aload_n 0)) (len := 1) (pc2 := 73) (lv2 := [(0, .ref 67), (1, .int x1)]) (st2 := [.ref 67]) (h2 := (sh_rep m.T (sh_u2 (sh_u2 m.I 66 43 0) 66 44 1) m.J)) rfl rfl rfl ?_
      refine sh_w (i := (.iconst 0)) (len := 1) (pc2 := 74) (lv2 := [(0, .ref 67), (1, .int x1)]) (st2 := [.int 0, .ref 67]) (h2 := (sh_rep m.T (sh_u2 (sh_u2 m.I 66 43 0) 66 44 1) m.J)) rfl rfl rfl ?_
      refine sh_pI1 (x := 0) (pc2 := 77) rfl rfl (sh_s66 hT.st) rfl rfl rfl rfl ?_
      refine sh_w (i := (.aload_n 0)) (len := 1) (pc2 := 78) (lv2 := [(0, .ref 67), (1, .int x1)]) (st2 := [.ref 67]) (h2 := (sh_rep m.T (sh_u2 (sh_u2 (sh_u2 m.I 66 43 0) 66 44 1) 66 45 0) m.J)) rfl rfl rfl ?_
      refine sh_w (i := (.aload_n 0)) (len := 1) (pc2 := 79) (lv2 := [(0, .ref 67), (1, .int x1)]) (st2 := [.ref 67, .ref 67]) (h2 := (sh_rep m.T (sh_u2 (sh_u2 (sh_u2 m.I 66 43 0) 66 44 1) 66 45 0) m.J)) rfl rfl rfl ?_
      refine sh_gR1 (len := 3) (x := .ref 73) (pc2 := 82) rfl rfl (sh_s66 hT.st) rfl rfl ?_
      refine sh_w (i := (.iload_n 1)) (len := 1) (pc2 := 83) (lv2 := [(0, .ref 67), (1, .int x1)]) (st2 := [.int x1, .ref 73, .ref 67]) (h2 := (sh_rep m.T (sh_u2 (sh_u2 (sh_u2 m.I 66 43 0) 66 44 1) 66 45 0) m.J)) rfl rfl rfl ?_
      exact kk
    obtain ⟨c, e⟩ := sh_gd e
    refine sh_Lk_lift (T := m.T) (I := sh_u2 (sh_u2 (sh_u2 m.I 66 43 0) 66 44 1) 66 45 0) (J := m.J) (s := m.s) (pc2 := 85) (lv2 := [(0, .ref 67), (1, .int x1)]) (st2 := [.int 2, .int (m.I 72 (Int32.toNatClampNeg x1)), .ref 67]) (I2 := sh_u2 (sh_u2 (sh_u2 m.I 66 43 0) 66 44 1) 66 45 0) (J2 := m.J) (fun hT v kk => ?_) ?_
    · refine sh_ia1 (x := m.I 72 (Int32.toNatClampNeg x1)) (pc2 := 84) rfl (sh_s72 hT.st) (sh_okb1 c) (sh_okb2 c) rfl rfl ?_
      refine sh_w (i := (.iconst 2)) (len := 1) (pc2 := 85) (lv2 := [(0, .ref 67), (1, .int x1)]) (st2 := [.int 2, .int (m.I 72 (Int32.toNatClampNeg x1)), .ref 67]) (h2 := (sh_rep m.T (sh_u2 (sh_u2 (sh_u2 m.I 66 43 0) 66 44 1) 66 45 0) m.J)) rfl rfl rfl ?_
      exact kk
    rcases sh_ite e with ⟨c, e⟩ | ⟨c, e⟩
    · refine sh_Lk_lift (T := m.T) (I := sh_u2 (sh_u2 (sh_u2 m.I 66 43 0) 66 44 1) 66 45 0) (J := m.J) (s := m.s) (pc2 := 93) (lv2 := [(0, .ref 67), (1, .int x1)]) (st2 := [.long 1, .ref 67]) (I2 := sh_u2 (sh_u2 (sh_u2 m.I 66 43 0) 66 44 1) 66 45 0) (J2 := m.J) (fun hT v kk => ?_) ?_
      · refine sh_jc (c := .ne) (off := (7)) (pc2 := 88) false rfl (sh_Bnef c) rfl ?_
        refine sh_w (i := (.lconst 1)) (len := 1) (pc2 := 89) (lv2 := [(0, .ref 67), (1, .int x1)]) (st2 := [.long 1, .ref 67]) (h2 := (sh_rep m.T (sh_u2 (sh_u2 (sh_u2 m.I 66 43 0) 66 44 1) 66 45 0) m.J)) rfl rfl rfl ?_
        refine sh_w (i := (.goto 4)) (len := 3) (pc2 := 93) (lv2 := [(0, .ref 67), (1, .int x1)]) (st2 := [.long 1, .ref 67]) (h2 := (sh_rep m.T (sh_u2 (sh_u2 (sh_u2 m.I 66 43 0) 66 44 1) 66 45 0) m.J)) rfl rfl rfl ?_
        exact kk
      exact sh_Lk_sub (sh_sub_n) (sl_313_93 hQ e tg)
    · refine sh_Lk_lift (T := m.T) (I := sh_u2 (sh_u2 (sh_u2 m.I 66 43 0) 66 44 1) 66 45 0) (J := m.J) (s := m.s) (pc2 := 93) (lv2 := [(0, .ref 67), (1, .int x1)]) (st2 := [.long 0, .ref 67]) (I2 := sh_u2 (sh_u2 (sh_u2 m.I 66 43 0) 66 44 1) 66 45 0) (J2 := m.J) (fun hT v kk => ?_) ?_
      · refine sh_jc (c := .ne) (off := (7)) (pc2 := 92) true rfl (sh_Bnet c) rfl ?_
        refine sh_w (i := (.lconst 0)) (len := 1) (pc2 := 93) (lv2 := [(0, .ref 67), (1, .int x1)]) (st2 := [.long 0, .ref 67]) (h2 := (sh_rep m.T (sh_u2 (sh_u2 (sh_u2 m.I 66 43 0) 66 44 1) 66 45 0) m.J)) rfl rfl rfl ?_
        exact kk
      exact sh_Lk_sub (sh_sub_n) (sl_313_93 hQ e tg)
  rcases sh_ite e with ⟨c, e⟩ | ⟨c2, e⟩
  · refine sh_Lk_lift (T := m.T) (I := m.I) (J := m.J) (s := m.s) (pc2 := 100) (lv2 := [(0, .ref 67), (1, .int x1)]) (st2 := [.int x1, .ref 67]) (I2 := m.I) (J2 := m.J) (fun hT v kk => ?_) ?_
    · refine sh_w (i := (.tableswitch 98 1 4 #[30, 56, 56, 92])) (len := 30) (pc2 := 98) (lv2 := [(0, .ref 67), (1, .int x1)]) (st2 := []) (h2 := (sh_rep m.T m.I m.J)) rfl rfl (sh_sw c rfl) ?_
      refine sh_w (i := (.aload_n 0)) (len := 1) (pc2 := 99) (lv2 := [(0, .ref 67), (1, .int x1)]) (st2 := [.ref 67]) (h2 := (sh_rep m.T m.I m.J)) rfl rfl rfl ?_
      refine sh_w (i := (.iload_n 1)) (len := 1) (pc2 := 100) (lv2 := [(0, .ref 67), (1, .int x1)]) (st2 := [.int x1, .ref 67]) (h2 := (sh_rep m.T m.I m.J)) rfl rfl rfl ?_
      exact kk
    obtain ⟨r2, m12, e2, e⟩ := sh_bn_e e
    refine sh_Lk_cV (r := (some (.int (sh_b2 r2)))) (st2 := [.int (sh_b2 r2)]) (pc2 := 103) (k2 := 314) (a := 66) (as := [.ref 67, .int x1]) (rest := []) rfl rfl rfl (fun hT => (sh_s66 hT.st)) rfl rfl ⟨Nat.le_of_ble_eq_true rfl, Nat.le_of_ble_eq_true rfl⟩ (sl_314 e2 ⟨rfl, rfl⟩) rfl rfl (show 10 + 1 ≤ d + 1 + 15 by omega) (show 8 + (4 + 11) + (245) ≤ 40 * (d + 1) + 385 by omega) ?_
    obtain rfl := Option.some.inj e
    obtain ⟨rfl, rfl⟩ := tg
    exact sh_Lk_ret (i := .ireturn) rfl rfl (sh_rb rfl _) (by omega) (by omega)
  refine sh_Lk_lift (T := m.T) (I := m.I) (J := m.J) (s := m.s) (pc2 := 106) (lv2 := [(0, .ref 67), (1, .int x1)]) (st2 := [.int x1, .ref 67]) (I2 := m.I) (J2 := m.J) (fun hT v kk => ?_) ?_
  · refine sh_w (i := (.tableswitch 98 1 4 #[30, 56, 56, 92])) (len := 30) (pc2 := 104) (lv2 := [(0, .ref 67), (1, .int x1)]) (st2 := []) (h2 := (sh_rep m.T m.I m.J)) rfl rfl (sh_swt [1, 2, 3, 4] (by intro j h1 h2; simp; omega) (sh_fc (fun h => c0 (h)) (sh_fc (fun h => c1 (Or.inl h)) (sh_fc (fun h => c1 (Or.inr (h))) (sh_fc (fun h => c2 (h)) sh_fn)))) rfl) ?_
    refine sh_w (i := (.aload_n 0)) (len := 1) (pc2 := 105) (lv2 := [(0, .ref 67), (1, .int x1)]) (st2 := [.ref 67]) (h2 := (sh_rep m.T m.I m.J)) rfl rfl rfl ?_
    refine sh_w (i := (.iload_n 1)) (len := 1) (pc2 := 106) (lv2 := [(0, .ref 67), (1, .int x1)]) (st2 := [.int x1, .ref 67]) (h2 := (sh_rep m.T m.I m.J)) rfl rfl rfl ?_
    exact kk
  obtain ⟨r3, m13, e3, e⟩ := sh_bn_e e
  refine sh_Lk_cV (r := (some (.int (sh_b2 r3)))) (st2 := [.int (sh_b2 r3)]) (pc2 := 109) (k2 := 315) (a := 66) (as := [.ref 67, .int x1]) (rest := []) rfl rfl rfl (fun hT => (sh_s66 hT.st)) rfl rfl ⟨Nat.le_of_ble_eq_true rfl, Nat.le_of_ble_eq_true rfl⟩ (hQ.f315 e3 ⟨rfl, rfl⟩) rfl rfl (show d + 15 + 1 ≤ d + 1 + 15 by omega) (show 8 + (14 + 11) + (40 * d + 385) ≤ 40 * (d + 1) + 385 by omega) ?_
  obtain rfl := Option.some.inj e
  obtain ⟨rfl, rfl⟩ := tg
  exact sh_Lk_ret (i := .ireturn) rfl rfl (sh_rb rfl _) (by omega) (by omega)
theorem sl_315_635 {Q : sh_Q279} {d : Nat} {x5 : Int32} {m m2 : sh_X} {o : Outcome} {z : (Bool × sh_X)} (hQ : sh_QL279 Q d) (e : sf_315_635 Q x5 m = some z) (tg : (sh_tZ o m2) z) : sh_Lk 315 635 [(0, .ref 67), (5, .int x5)] [] m o m2 (d + 1 + 15) (40 * (d + 1) + 385) := by
  unfold sf_315_635 at e
  refine sh_Lk_lift (T := m.T) (I := m.I) (J := m.J) (s := m.s) (pc2 := 647) (lv2 := [(0, .ref 67), (5, .int x5)]) (st2 := [.int 1]) (I2 := sh_u2 m.I 66 41 (x5 + (m.I 66 45))) (J2 := m.J) (fun hT v kk => ?_) ?_
  · refine sh_w (i := (.aload_n 0)) (len := 1) (pc2 := 636) (lv2 := [(0, .ref 67), (5, .int x5)]) (st2 := [.ref 67]) (h2 := (sh_rep m.T m.I m.J)) rfl rfl rfl ?_
    refine sh_w (i := (.iload 5)) (len := 2) (pc2 := 638) (lv2 := [(0, .ref 67), (5, .int x5)]) (st2 := [.int x5, .ref 67]) (h2 := (sh_rep m.T m.I m.J)) rfl rfl rfl ?_
    refine sh_w (i := (.aload_n 0)) (len := 1) (pc2 := 639) (lv2 := [(0, .ref 67), (5, .int x5)]) (st2 := [.ref 67, .int x5, .ref 67]) (h2 := (sh_rep m.T m.I m.J)) rfl rfl rfl ?_
    refine sh_gI1 (len := 3) (x := m.I 66 45) (pc2 := 642) rfl rfl (sh_s66 hT.st) rfl rfl rfl ?_
    refine sh_w (i := .iadd) (len := 1) (pc2 := 643) (lv2 := [(0, .ref 67), (5, .int x5)]) (st2 := [.int (x5 + (m.I 66 45)), .ref 67]) (h2 := (sh_rep m.T m.I m.J)) rfl rfl rfl ?_
    refine sh_pI1 (x := x5 + (m.I 66 45)) (pc2 := 646) rfl rfl (sh_s66 hT.st) rfl rfl rfl rfl ?_
    refine sh_w (i := (.iconst 1)) (len := 1) (pc2 := 647) (lv2 := [(0, .ref 67), (5, .int x5)]) (st2 := [.int 1]) (h2 := (sh_rep m.T (sh_u2 m.I 66 41 (x5 + (m.I 66 45))) m.J)) rfl rfl rfl ?_
    exact kk
  obtain rfl := Option.some.inj e
  obtain ⟨rfl, rfl⟩ := tg
  exact sh_Lk_ret (i := .ireturn) rfl rfl rfl (by omega) (by omega)
theorem sl_315_586s {Q : sh_Q279} {d : Nat} {x5 : Int32} {x12 : Int32} {x13 : Int32} {m m2 : sh_X} {o : Outcome} {z : ((Int32 × sh_X) ⊕ (Bool × sh_X))} (hQ : sh_QL279 Q d) (e : sf_315_586s Q x5 x12 x13 m = some z) (tg : (sh_el (fun q => sh_Lk 315 586 [(0, .ref 67), (5, .int x5), (12, .int x12), (13, .int q.1)] [] q.2 o m2 (d + 1 + 15) (40 * (d + 1) + 385)) (sh_tZ o m2)) z) : sh_Lk 315 586 [(0, .ref 67), (5, .int x5), (12, .int x12), (13, .int x13)] [] m o m2 (d + 1 + 15) (40 * (d + 1) + 385) := by
  unfold sf_315_586s at e
  refine sh_Lk_lift (T := m.T) (I := m.I) (J := m.J) (s := m.s) (pc2 := 592) (lv2 := [(0, .ref 67), (5, .int x5), (12, .int x12), (13, .int x13)]) (st2 := [.int (m.I 66 45), .int x13]) (I2 := m.I) (J2 := m.J) (fun hT v kk => ?_) ?_
  · refine sh_w (i := (.iload 13)) (len := 2) (pc2 := 588) (lv2 := [(0, .ref 67), (5, .int x5), (12, .int x12), (13, .int x13)]) (st2 := [.int x13]) (h2 := (sh_rep m.T m.I m.J)) rfl rfl rfl ?_
    refine sh_w (i := (.aload_n 0)) (len := 1) (pc2 := 589) (lv2 := [(0, .ref 67), (5, .int x5), (12, .int x12), (13, .int x13)]) (st2 := [.ref 67, .int x13]) (h2 := (sh_rep m.T m.I m.J)) rfl rfl rfl ?_
    refine sh_gI1 (len := 3) (x := m.I 66 45) (pc2 := 592) rfl rfl (sh_s66 hT.st) rfl rfl rfl ?_
    exact kk
  rcases sh_ite e with ⟨c, e⟩ | ⟨c, e⟩
  · refine sh_Lk_lift (T := m.T) (I := m.I) (J := m.J) (s := m.s) (pc2 := 613) (lv2 := [(0, .ref 67), (5, .int x5), (12, .int x12), (13, .int x13)]) (st2 := [.int (x12 + x13), .ref 93, .int (x5 + x13), .ref 93]) (I2 := m.I) (J2 := m.J) (fun hT v kk => ?_) ?_
    · refine sh_jc (c := .ge) (off := (29)) (pc2 := 595) false rfl (sh_Bgef c) rfl ?_
      refine sh_w (i := (.aload_n 0)) (len := 1) (pc2 := 596) (lv2 := [(0, .ref 67), (5, .int x5), (12, .int x12), (13, .int x13)]) (st2 := [.ref 67]) (h2 := (sh_rep m.T m.I m.J)) rfl rfl rfl ?_
      refine sh_gR1 (len := 3) (x := .ref 93) (pc2 := 599) rfl rfl (sh_s66 hT.st) rfl rfl ?_
      refine sh_w (i := (.iload 5)) (len := 2) (pc2 := 601) (lv2 := [(0, .ref 67), (5, .int x5), (12, .int x12), (13, .int x13)]) (st2 := [.int x5, .ref 93]) (h2 := (sh_rep m.T m.I m.J)) rfl rfl rfl ?_
      refine sh_w (i := (.iload 13)) (len := 2) (pc2 := 603) (lv2 := [(0, .ref 67), (5, .int x5), (12, .int x12), (13, .int x13)]) (st2 := [.int x13, .int x5, .ref 93]) (h2 := (sh_rep m.T m.I m.J)) rfl rfl rfl ?_
      refine sh_w (i := .iadd) (len := 1) (pc2 := 604) (lv2 := [(0, .ref 67), (5, .int x5), (12, .int x12), (13, .int x13)]) (st2 := [.int (x5 + x13), .ref 93]) (h2 := (sh_rep m.T m.I m.J)) rfl rfl rfl ?_
      refine sh_w (i := (.aload_n 0)) (len := 1) (pc2 := 605) (lv2 := [(0, .ref 67), (5, .int x5), (12, .int x12), (13, .int x13)]) (st2 := [.ref 67, .int (x5 + x13), .ref 93]) (h2 := (sh_rep m.T m.I m.J)) rfl rfl rfl ?_
      refine sh_gR1 (len := 3) (x := .ref 93) (pc2 := 608) rfl rfl (sh_s66 hT.st) rfl rfl ?_
      refine sh_w (i := (.iload 12)) (len := 2) (pc2 := 610) (lv2 := [(0, .ref 67), (5, .int x5), (12, .int x12), (13, .int x13)]) (st2 := [.int x12, .ref 93, .int (x5 + x13), .ref 93]) (h2 := (sh_rep m.T m.I m.J)) rfl rfl rfl ?_
      refine sh_w (i := (.iload 13)) (len := 2) (pc2 := 612) (lv2 := [(0, .ref 67), (5, .int x5), (12, .int x12), (13, .int x13)]) (st2 := [.int x13, .int x12, .ref 93, .int (x5 + x13), .ref 93]) (h2 := (sh_rep m.T m.I m.J)) rfl rfl rfl ?_
      refine sh_w (i := .iadd) (len := 1) (pc2 := 613) (lv2 := [(0, .ref 67), (5, .int x5), (12, .int x12), (13, .int x13)]) (st2 := [.int (x12 + x13), .ref 93, .int (x5 + x13), .ref 93]) (h2 := (sh_rep m.T m.I m.J)) rfl rfl rfl ?_
      exact kk
    obtain ⟨c, e⟩ := sh_gd e
    refine sh_Lk_lift (T := m.T) (I := m.I) (J := m.J) (s := m.s) (pc2 := 614) (lv2 := [(0, .ref 67), (5, .int x5), (12, .int x12), (13, .int x13)]) (st2 := [.long (m.J 92 (Int32.toNatClampNeg (x12 + x13))), .int (x5 + x13), .ref 93]) (I2 := m.I) (J2 := m.J) (fun hT v kk => ?_) ?_
    · refine sh_la1 (x := m.J 92 (Int32.toNatClampNeg (x12 + x13))) (pc2 := 614) rfl (sh_s92 hT.st) (sh_okb1 c) (sh_okb2 c) rfl rfl ?_
      exact kk
    obtain ⟨c, e⟩ := sh_gd e
    refine sh_Lk_lift (T := m.T) (I := m.I) (J := m.J) (s := m.s) (pc2 := 586) (lv2 := [(13, .int (x13 + 1)), (0, .ref 67), (5, .int x5), (12, .int x12)]) (st2 := []) (I2 := m.I) (J2 := sh_u2 m.J 92 (Int32.toNatClampNeg (x5 + x13)) (m.J 92 (Int32.toNatClampNeg (x12 + x13)))) (fun hT v kk => ?_) ?_
    · refine sh_ls1 (x := m.J 92 (Int32.toNatClampNeg (x12 + x13))) (i := x5 + x13) (pc2 := 615) rfl (sh_s92 hT.st) (sh_okb1 c) (sh_okb2 c) rfl ?_
      refine sh_w (i := (.iinc 13 1)) (len := 3) (pc2 := 618) (lv2 := [(13, .int (x13 + 1)), (0, .ref 67), (5, .int x5), (12, .int x12)]) (st2 := []) (h2 := (sh_rep m.T m.I (sh_u2 m.J 92 (Int32.toNatClampNeg (x5 + x13)) (m.J 92 (Int32.toNatClampNeg (x12 + x13)))))) rfl rfl rfl ?_
      refine sh_w (i := (.goto (-32))) (len := 3) (pc2 := 586) (lv2 := [(13, .int (x13 + 1)), (0, .ref 67), (5, .int x5), (12, .int x12)]) (st2 := []) (h2 := (sh_rep m.T m.I (sh_u2 m.J 92 (Int32.toNatClampNeg (x5 + x13)) (m.J 92 (Int32.toNatClampNeg (x12 + x13)))))) rfl rfl rfl ?_
      exact kk
    obtain rfl := Option.some.inj e
    exact sh_Lk_sub (sh_sub_c rfl (sh_sub_c rfl (sh_sub_c rfl (sh_sub_c rfl (sh_sub_n))))) tg
  · refine sh_Lk_lift (T := m.T) (I := m.I) (J := m.J) (s := m.s) (pc2 := 625) (lv2 := [(0, .ref 67), (5, .int x5), (12, .int x12), (13, .int x13)]) (st2 := [.int (m.I 66 45)]) (I2 := m.I) (J2 := m.J) (fun hT v kk => ?_) ?_
    · refine sh_jc (c := .ge) (off := (29)) (pc2 := 621) true rfl (sh_Bget c) rfl ?_
      refine sh_w (i := (.aload_n 0)) (len := 1) (pc2 := 622) (lv2 := [(0, .ref 67), (5, .int x5), (12, .int x12), (13, .int x13)]) (st2 := [.ref 67]) (h2 := (sh_rep m.T m.I m.J)) rfl rfl rfl ?_
      refine sh_gI1 (len := 3) (x := m.I 66 45) (pc2 := 625) rfl rfl (sh_s66 hT.st) rfl rfl rfl ?_
      exact kk
    rcases sh_ite e with ⟨c, e⟩ | ⟨c, e⟩
    · refine sh_Lk_lift (T := m.T) (I := m.I) (J := m.J) (s := m.s) (pc2 := 635) (lv2 := [(0, .ref 67), (5, .int x5), (12, .int x12), (13, .int x13)]) (st2 := []) (I2 := m.I) (J2 := sh_u2 m.J 66 46 (Int32.toInt64 x5)) (fun hT v kk => ?_) ?_
      · refine sh_j0 (c := .le) (off := (10)) (pc2 := 628) false rfl (sh_Blef c) rfl ?_
        refine sh_w (i := (.aload_n 0)) (len := 1) (pc2 := 629) (lv2 := [(0, .ref 67), (5, .int x5), (12, .int x12), (13, .int x13)]) (st2 := [.ref 67]) (h2 := (sh_rep m.T m.I m.J)) rfl rfl rfl ?_
        refine sh_w (i := (.iload 5)) (len := 2) (pc2 := 631) (lv2 := [(0, .ref 67), (5, .int x5), (12, .int x12), (13, .int x13)]) (st2 := [.int x5, .ref 67]) (h2 := (sh_rep m.T m.I m.J)) rfl rfl rfl ?_
        refine sh_w (i := .i2l) (len := 1) (pc2 := 632) (lv2 := [(0, .ref 67), (5, .int x5), (12, .int x12), (13, .int x13)]) (st2 := [.long (Int32.toInt64 x5), .ref 67]) (h2 := (sh_rep m.T m.I m.J)) rfl rfl rfl ?_
        refine sh_pJ1 (x := Int32.toInt64 x5) (pc2 := 635) rfl rfl (sh_s66 hT.st) rfl rfl rfl rfl ?_
        exact kk
      obtain ⟨_, eu, rfl⟩ := sh_up_e e
      exact sh_Lk_sub (sh_sub_c rfl (sh_sub_c rfl (sh_sub_n))) (sl_315_635 hQ eu tg)
    · refine sh_Lk_lift (T := m.T) (I := m.I) (J := m.J) (s := m.s) (pc2 := 635) (lv2 := [(0, .ref 67), (5, .int x5), (12, .int x12), (13, .int x13)]) (st2 := []) (I2 := m.I) (J2 := m.J) (fun hT v kk => ?_) ?_
      · refine sh_j0 (c := .le) (off := (10)) (pc2 := 635) true rfl (sh_Blet c) rfl ?_
        exact kk
      obtain ⟨_, eu, rfl⟩ := sh_up_e e
      exact sh_Lk_sub (sh_sub_c rfl (sh_sub_c rfl (sh_sub_n))) (sl_315_635 hQ eu tg)
theorem sl_315_586 {Q : sh_Q279} {d : Nat} {x5 : Int32} {x12 : Int32} {x13 : Int32} {m m2 : sh_X} {o : Outcome} {z : (Bool × sh_X)} (hQ : sh_QL279 Q d) (e : sf_315_586 Q x5 x12 x13 m = some z) (tg : (sh_tZ o m2) z) : sh_Lk 315 586 [(0, .ref 67), (5, .int x5), (12, .int x12), (13, .int x13)] [] m o m2 (d + 1 + 15) (40 * (d + 1) + 385) := by
  unfold sf_315_586 at e
  exact sh_while_lk (P := fun q => sh_Lk 315 586 [(0, .ref 67), (5, .int x5), (12, .int x12), (13, .int q.1)] [] q.2 o m2 (d + 1 + 15) (40 * (d + 1) + 385)) (Q := (sh_tZ o m2)) (fun q z e tg => sl_315_586s (x5 := x5) (x12 := x12) (x13 := q.1) (m := q.2) hQ e tg) (s := (x13, m)) e tg
theorem sl_315_484 {Q : sh_Q279} {d : Nat} {x2 : Int32} {x5 : Int32} {x7 : Int32} {x8 : Int32} {x9 : Int32} {y0 : Bool} {m m2 : sh_X} {o : Outcome} {z : (Bool × sh_X)} (hQ : sh_QL279 Q d) (e : sf_315_484 Q x2 x5 x7 x8 x9 y0 m = some z) (tg : (sh_tZ o m2) z) : sh_Lk 315 484 [(0, .ref 67), (2, .int x2), (5, .int x5), (7, .int x7), (8, .int x8), (9, .int x9)] [.int (sh_b2 y0)] m o m2 (d + 1 + 15) (40 * (d + 1) + 385) := by
  unfold sf_315_484 at e
  refine sh_Lk_lift (T := m.T) (I := m.I) (J := m.J) (s := m.s) (pc2 := 492) (lv2 := [(10, .int (sh_b2 y0)), (0, .ref 67), (2, .int x2), (5, .int x5), (7, .int x7), (8, .int x8), (9, .int x9)]) (st2 := [.int x2, .ref 85, .ref 67]) (I2 := m.I) (J2 := m.J) (fun hT v kk => ?_) ?_
  · refine sh_w (i := (.istore 10)) (len := 2) (pc2 := 486) (lv2 := [(10, .int (sh_b2 y0)), (0, .ref 67), (2, .int x2), (5, .int x5), (7, .int x7), (8, .int x8), (9, .int x9)]) (st2 := []) (h2 := (sh_rep m.T m.I m.J)) rfl rfl rfl ?_
    refine sh_w (i := (.aload_n 0)) (len := 1) (pc2 := 487) (lv2 := [(10, .int (sh_b2 y0)), (0, .ref 67), (2, .int x2), (5, .int x5), (7, .int x7), (8, .int x8), (9, .int x9)]) (st2 := [.ref 67]) (h2 := (sh_rep m.T m.I m.J)) rfl rfl rfl ?_
    refine sh_w (i := (.aload_n 0)) (len := 1) (pc2 := 488) (lv2 := [(10, .int (sh_b2 y0)), (0, .ref 67), (2, .int x2), (5, .int x5), (7, .int x7), (8, .int x8), (9, .int x9)]) (st2 := [.ref 67, .ref 67]) (h2 := (sh_rep m.T m.I m.J)) rfl rfl rfl ?_
    refine sh_gR1 (len := 3) (x := .ref 85) (pc2 := 491) rfl rfl (sh_s66 hT.st) rfl rfl ?_
    refine sh_w (i := (.iload_n 2)) (len := 1) (pc2 := 492) (lv2 := [(10, .int (sh_b2 y0)), (0, .ref 67), (2, .int x2), (5, .int x5), (7, .int x7), (8, .int x8), (9, .int x9)]) (st2 := [.int x2, .ref 85, .ref 67]) (h2 := (sh_rep m.T m.I m.J)) rfl rfl rfl ?_
    exact kk
  obtain ⟨c, e⟩ := sh_gd e
  refine sh_Lk_lift (T := m.T) (I := m.I) (J := m.J) (s := m.s) (pc2 := 493) (lv2 := [(10, .int (sh_b2 y0)), (0, .ref 67), (2, .int x2), (5, .int x5), (7, .int x7), (8, .int x8), (9, .int x9)]) (st2 := [.int (m.I 84 (Int32.toNatClampNeg x2)), .ref 67]) (I2 := m.I) (J2 := m.J) (fun hT v kk => ?_) ?_
  · refine sh_ia1 (x := m.I 84 (Int32.toNatClampNeg x2)) (pc2 := 493) rfl (sh_s84 hT.st) (sh_okb1 c) (sh_okb2 c) rfl rfl ?_
    exact kk
  obtain ⟨r1, e1, e⟩ := sh_bc_e e
  refine sh_Lk_cV (r := (some (.int r1))) (st2 := [.int r1]) (pc2 := 496) (k2 := 285) (a := 66) (as := [.ref 67, .int (m.I 84 (Int32.toNatClampNeg x2))]) (rest := []) rfl rfl rfl (fun hT => (sh_s66 hT.st)) rfl rfl ⟨Nat.le_of_ble_eq_true rfl, Nat.le_of_ble_eq_true rfl⟩ (sl_285 e1 ⟨rfl, rfl⟩) rfl rfl (show 8 + 1 ≤ d + 1 + 15 by omega) (show 8 + (5 + 11) + (200) ≤ 40 * (d + 1) + 385 by omega) ?_
  refine sh_Lk_lift (T := m.T) (I := m.I) (J := m.J) (s := m.s) (pc2 := 500) (lv2 := [(11, .int r1), (10, .int (sh_b2 y0)), (0, .ref 67), (2, .int x2), (5, .int x5), (7, .int x7), (8, .int x8), (9, .int x9)]) (st2 := [.int (sh_b2 y0)]) (I2 := m.I) (J2 := m.J) (fun hT v kk => ?_) ?_
  · refine sh_w (i := (.istore 11)) (len := 2) (pc2 := 498) (lv2 := [(11, .int r1), (10, .int (sh_b2 y0)), (0, .ref 67), (2, .int x2), (5, .int x5), (7, .int x7), (8, .int x8), (9, .int x9)]) (st2 := []) (h2 := (sh_rep m.T m.I m.J)) rfl rfl rfl ?_
    refine sh_w (i := (.iload 10)) (len := 2) (pc2 := 500) (lv2 := [(11, .int r1), (10, .int (sh_b2 y0)), (0, .ref 67), (2, .int x2), (5, .int x5), (7, .int x7), (8, .int x8), (9, .int x9)]) (st2 := [.int (sh_b2 y0)]) (h2 := (sh_rep m.T m.I m.J)) rfl rfl rfl ?_
    exact kk
  rcases sh_ite e with ⟨c, e⟩ | ⟨c, e⟩
  · refine sh_Lk_lift (T := m.T) (I := m.I) (J := m.J) (s := m.s) (pc2 := 509) (lv2 := [(11, .int r1), (10, .int (sh_b2 y0)), (0, .ref 67), (2, .int x2), (5, .int x5), (7, .int x7), (8, .int x8), (9, .int x9)]) (st2 := [.int x2, .ref 88, .ref 67]) (I2 := m.I) (J2 := m.J) (fun hT v kk => ?_) ?_
    · refine sh_j0 (c := .eq) (off := (38)) (pc2 := 503) false rfl (sh_Zeqf c) rfl ?_
      refine sh_w (i := (.aload_n 0)) (len := 1) (pc2 := 504) (lv2 := [(11, .int r1), (10, .int (sh_b2 y0)), (0, .ref 67), (2, .int x2), (5, .int x5), (7, .int x7), (8, .int x8), (9, .int x9)]) (st2 := [.ref 67]) (h2 := (sh_rep m.T m.I m.J)) rfl rfl rfl ?_
      refine sh_w (i := (.aload_n 0)) (len := 1) (pc2 := 505) (lv2 := [(11, .int r1), (10, .int (sh_b2 y0)), (0, .ref 67), (2, .int x2), (5, .int x5), (7, .int x7), (8, .int x8), (9, .int x9)]) (st2 := [.ref 67, .ref 67]) (h2 := (sh_rep m.T m.I m.J)) rfl rfl rfl ?_
      refine sh_gR1 (len := 3) (x := .ref 88) (pc2 := 508) rfl rfl (sh_s66 hT.st) rfl rfl ?_
      refine sh_w (i := (.iload_n 2)) (len := 1) (pc2 := 509) (lv2 := [(11, .int r1), (10, .int (sh_b2 y0)), (0, .ref 67), (2, .int x2), (5, .int x5), (7, .int x7), (8, .int x8), (9, .int x9)]) (st2 := [.int x2, .ref 88, .ref 67]) (h2 := (sh_rep m.T m.I m.J)) rfl rfl rfl ?_
      exact kk
    obtain ⟨c, e⟩ := sh_gd e
    refine sh_Lk_lift (T := m.T) (I := m.I) (J := m.J) (s := m.s) (pc2 := 528) (lv2 := [(11, .int r1), (10, .int (sh_b2 y0)), (0, .ref 67), (2, .int x2), (5, .int x5), (7, .int x7), (8, .int x8), (9, .int x9)]) (st2 := [.int x2, .ref 86, .ref 67, .int ((r1 - r1 / 64 * 64) + 1), .int (r1 / 64), .int (m.I 87 (Int32.toNatClampNeg x2)), .ref 67]) (I2 := m.I) (J2 := m.J) (fun hT v kk => ?_) ?_
    · refine sh_ia1 (x := m.I 87 (Int32.toNatClampNeg x2)) (pc2 := 510) rfl (sh_s87 hT.st) (sh_okb1 c) (sh_okb2 c) rfl rfl ?_
      refine sh_w (i := (.iload 11)) (len := 2) (pc2 := 512) (lv2 := [(11, .int r1), (10, .int (sh_b2 y0)), (0, .ref 67), (2, .int x2), (5, .int x5), (7, .int x7), (8, .int x8), (9, .int x9)]) (st2 := [.int r1, .int (m.I 87 (Int32.toNatClampNeg x2)), .ref 67]) (h2 := (sh_rep m.T m.I m.J)) rfl rfl rfl ?_
      refine sh_w (i := (.bipush 64)) (len := 2) (pc2 := 514) (lv2 := [(11, .int r1), (10, .int (sh_b2 y0)), (0, .ref 67), (2, .int x2), (5, .int x5), (7, .int x7), (8, .int x8), (9, .int x9)]) (st2 := [.int 64, .int r1, .int (m.I 87 (Int32.toNatClampNeg x2)), .ref 67]) (h2 := (sh_rep m.T m.I m.J)) rfl rfl rfl ?_
      refine sh_w (i := .idiv) (len := 1) (pc2 := 515) (lv2 := [(11, .int r1), (10, .int (sh_b2 y0)), (0, .ref 67), (2, .int x2), (5, .int x5), (7, .int x7), (8, .int x8), (9, .int x9)]) (st2 := [.int (r1 / 64), .int (m.I 87 (Int32.toNatClampNeg x2)), .ref 67]) (h2 := (sh_rep m.T m.I m.J)) rfl rfl rfl ?_
      refine sh_w (i := (.iload 11)) (len := 2) (pc2 := 517) (lv2 := [(11, .int r1), (10, .int (sh_b2 y0)), (0, .ref 67), (2, .int x2), (5, .int x5), (7, .int x7), (8, .int x8), (9, .int x9)]) (st2 := [.int r1, .int (r1 / 64), .int (m.I 87 (Int32.toNatClampNeg x2)), .ref 67]) (h2 := (sh_rep m.T m.I m.J)) rfl rfl rfl ?_
      refine sh_w (i := (.bipush 64)) (len := 2) (pc2 := 519) (lv2 := [(11, .int r1), (10, .int (sh_b2 y0)), (0, .ref 67), (2, .int x2), (5, .int x5), (7, .int x7), (8, .int x8), (9, .int x9)]) (st2 := [.int 64, .int r1, .int (r1 / 64), .int (m.I 87 (Int32.toNatClampNeg x2)), .ref 67]) (h2 := (sh_rep m.T m.I m.J)) rfl rfl rfl ?_
      refine sh_w (i := .irem) (len := 1) (pc2 := 520) (lv2 := [(11, .int r1), (10, .int (sh_b2 y0)), (0, .ref 67), (2, .int x2), (5, .int x5), (7, .int x7), (8, .int x8), (9, .int x9)]) (st2 := [.int (r1 - r1 / 64 * 64), .int (r1 / 64), .int (m.I 87 (Int32.toNatClampNeg x2)), .ref 67]) (h2 := (sh_rep m.T m.I m.J)) rfl rfl rfl ?_
      refine sh_w (i := (.iconst 1)) (len := 1) (pc2 := 521) (lv2 := [(11, .int r1), (10, .int (sh_b2 y0)), (0, .ref 67), (2, .int x2), (5, .int x5), (7, .int x7), (8, .int x8), (9, .int x9)]) (st2 := [.int 1, .int (r1 - r1 / 64 * 64), .int (r1 / 64), .int (m.I 87 (Int32.toNatClampNeg x2)), .ref 67]) (h2 := (sh_rep m.T m.I m.J)) rfl rfl rfl ?_
      refine sh_w (i := .iadd) (len := 1) (pc2 := 522) (lv2 := [(11, .int r1), (10, .int (sh_b2 y0)), (0, .ref 67), (2, .int x2), (5, .int x5), (7, .int x7), (8, .int x8), (9, .int x9)]) (st2 := [.int ((r1 - r1 / 64 * 64) + 1), .int (r1 / 64), .int (m.I 87 (Int32.toNatClampNeg x2)), .ref 67]) (h2 := (sh_rep m.T m.I m.J)) rfl rfl rfl ?_
      refine sh_w (i := (.aload_n 0)) (len := 1) (pc2 := 523) (lv2 := [(11, .int r1), (10, .int (sh_b2 y0)), (0, .ref 67), (2, .int x2), (5, .int x5), (7, .int x7), (8, .int x8), (9, .int x9)]) (st2 := [.ref 67, .int ((r1 - r1 / 64 * 64) + 1), .int (r1 / 64), .int (m.I 87 (Int32.toNatClampNeg x2)), .ref 67]) (h2 := (sh_rep m.T m.I m.J)) rfl rfl rfl ?_
      refine sh_w (i := (.aload_n 0)) (len := 1) (pc2 := 524) (lv2 := [(11, .int r1), (10, .int (sh_b2 y0)), (0, .ref 67), (2, .int x2), (5, .int x5), (7, .int x7), (8, .int x8), (9, .int x9)]) (st2 := [.ref 67, .ref 67, .int ((r1 - r1 / 64 * 64) + 1), .int (r1 / 64), .int (m.I 87 (Int32.toNatClampNeg x2)), .ref 67]) (h2 := (sh_rep m.T m.I m.J)) rfl rfl rfl ?_
      refine sh_gR1 (len := 3) (x := .ref 86) (pc2 := 527) rfl rfl (sh_s66 hT.st) rfl rfl ?_
      refine sh_w (i := (.iload_n 2)) (len := 1) (pc2 := 528) (lv2 := [(11, .int r1), (10, .int (sh_b2 y0)), (0, .ref 67), (2, .int x2), (5, .int x5), (7, .int x7), (8, .int x8), (9, .int x9)]) (st2 := [.int x2, .ref 86, .ref 67, .int ((r1 - r1 / 64 * 64) + 1), .int (r1 / 64), .int (m.I 87 (Int32.toNatClampNeg x2)), .ref 67]) (h2 := (sh_rep m.T m.I m.J)) rfl rfl rfl ?_
      exact kk
    obtain ⟨c, e⟩ := sh_gd e
    refine sh_Lk_lift (T := m.T) (I := m.I) (J := m.J) (s := m.s) (pc2 := 529) (lv2 := [(11, .int r1), (10, .int (sh_b2 y0)), (0, .ref 67), (2, .int x2), (5, .int x5), (7, .int x7), (8, .int x8), (9, .int x9)]) (st2 := [.int (m.I 85 (Int32.toNatClampNeg x2)), .ref 67, .int ((r1 - r1 / 64 * 64) + 1), .int (r1 / 64), .int (m.I 87 (Int32.toNatClampNeg x2)), .ref 67]) (I2 := m.I) (J2 := m.J) (fun hT v kk => ?_) ?_
    · refine sh_ia1 (x := m.I 85 (Int32.toNatClampNeg x2)) (pc2 := 529) rfl (sh_s85 hT.st) (sh_okb1 c) (sh_okb2 c) rfl rfl ?_
      exact kk
    obtain ⟨r2, e2, e⟩ := sh_bc_e e
    refine sh_Lk_cV (r := (some (.int r2))) (st2 := [.int r2, .int ((r1 - r1 / 64 * 64) + 1), .int (r1 / 64), .int (m.I 87 (Int32.toNatClampNeg x2)), .ref 67]) (pc2 := 532) (k2 := 286) (a := 66) (as := [.ref 67, .int (m.I 85 (Int32.toNatClampNeg x2))]) (rest := [.int ((r1 - r1 / 64 * 64) + 1), .int (r1 / 64), .int (m.I 87 (Int32.toNatClampNeg x2)), .ref 67]) rfl rfl rfl (fun hT => (sh_s66 hT.st)) rfl rfl ⟨Nat.le_of_ble_eq_true rfl, Nat.le_of_ble_eq_true rfl⟩ (sl_286 e2 ⟨rfl, rfl⟩) rfl rfl (show 9 + 1 ≤ d + 1 + 15 by omega) (show 8 + (2 + 11) + (224) ≤ 40 * (d + 1) + 385 by omega) ?_
    obtain ⟨r3, m13, e3, e⟩ := sh_bn_e e
    refine sh_Lk_cV (r := (some (.int (sh_b2 r3)))) (st2 := [.int (sh_b2 r3)]) (pc2 := 535) (k2 := 317) (a := 66) (as := [.ref 67, .int (m.I 87 (Int32.toNatClampNeg x2)), .int (r1 / 64), .int ((r1 - r1 / 64 * 64) + 1), .int r2]) (rest := []) rfl rfl rfl (fun hT => (sh_s66 hT.st)) rfl rfl ⟨Nat.le_of_ble_eq_true rfl, Nat.le_of_ble_eq_true rfl⟩ (sl_317 e3 ⟨rfl, rfl⟩) rfl rfl (show 11 + 1 ≤ d + 1 + 15 by omega) (show 8 + (5 + 11) + (268) ≤ 40 * (d + 1) + 385 by omega) ?_
    rcases sh_ite e with ⟨c, e⟩ | ⟨c, e⟩
    · refine sh_Lk_lift (T := m13.T) (I := m13.I) (J := m13.J) (s := m13.s) (pc2 := 586) (lv2 := [(13, .int 0), (12, .int (Int64.toInt32 (m13.J 66 46))), (11, .int r1), (10, .int (sh_b2 y0)), (0, .ref 67), (2, .int x2), (5, .int x5), (7, .int x7), (8, .int x8), (9, .int x9)]) (st2 := []) (I2 := sh_u2 (sh_u2 (sh_u2 (sh_u2 (sh_u2 m13.I 66 58 ((m13.I 66 58) - 1)) 66 53 (m13.I 66 54)) 66 54 x7) 66 55 x8) 66 59 x9) (J2 := m13.J) (fun hT v kk => ?_) ?_
      · refine sh_j0 (c := .ne) (off := (5)) (pc2 := 540) true rfl (sh_Znet c) rfl ?_
        refine sh_w (i := (.aload_n 0)) (len := 1) (pc2 := 541) (lv2 := [(11, .int r1), (10, .int (sh_b2 y0)), (0, .ref 67), (2, .int x2), (5, .int x5), (7, .int x7), (8, .int x8), (9, .int x9)]) (st2 := [.ref 67]) (h2 := (sh_rep m13.T m13.I m13.J)) rfl rfl rfl ?_
        refine sh_w (i := .dup) (len := 1) (pc2 := 542) (lv2 := [(11, .int r1), (10, .int (sh_b2 y0)), (0, .ref 67), (2, .int x2), (5, .int x5), (7, .int x7), (8, .int x8), (9, .int x9)]) (st2 := [.ref 67, .ref 67]) (h2 := (sh_rep m13.T m13.I m13.J)) rfl rfl rfl ?_
        refine sh_gI1 (len := 3) (x := m13.I 66 58) (pc2 := 545) rfl rfl (sh_s66 hT.st) rfl rfl rfl ?_
        refine sh_w (i := (.iconst 1)) (len := 1) (pc2 := 546) (lv2 := [(11, .int r1), (10, .int (sh_b2 y0)), (0, .ref 67), (2, .int x2), (5, .int x5), (7, .int x7), (8, .int x8), (9, .int x9)]) (st2 := [.int 1, .int (m13.I 66 58), .ref 67]) (h2 := (sh_rep m13.T m13.I m13.J)) rfl rfl rfl ?_
        refine sh_w (i := .isub) (len := 1) (pc2 := 547) (lv2 := [(11, .int r1), (10, .int (sh_b2 y0)), (0, .ref 67), (2, .int x2), (5, .int x5), (7, .int x7), (8, .int x8), (9, .int x9)]) (st2 := [.int ((m13.I 66 58) - 1), .ref 67]) (h2 := (sh_rep m13.T m13.I m13.J)) rfl rfl rfl ?_
        refine sh_pI1 (x := (m13.I 66 58) - 1) (pc2 := 550) rfl rfl (sh_s66 hT.st) rfl rfl rfl rfl ?_
        refine sh_w (i := (.aload_n 0)) (len := 1) (pc2 := 551) (lv2 := [(11, .int r1), (10, .int (sh_b2 y0)), (0, .ref 67), (2, .int x2), (5, .int x5), (7, .int x7), (8, .int x8), (9, .int x9)]) (st2 := [.ref 67]) (h2 := (sh_rep m13.T (sh_u2 m13.I 66 58 ((m13.I 66 58) - 1)) m13.J)) rfl rfl rfl ?_
        refine sh_w (i := (.aload_n 0)) (len := 1) (pc2 := 552) (lv2 := [(11, .int r1), (10, .int (sh_b2 y0)), (0, .ref 67), (2, .int x2), (5, .int x5), (7, .int x7), (8, .int x8), (9, .int x9)]) (st2 := [.ref 67, .ref 67]) (h2 := (sh_rep m13.T (sh_u2 m13.I 66 58 ((m13.I 66 58) - 1)) m13.J)) rfl rfl rfl ?_
        refine sh_gI1 (len := 3) (x := m13.I 66 54) (pc2 := 555) rfl rfl (sh_s66 hT.st) rfl rfl rfl ?_
        refine sh_pI1 (x := m13.I 66 54) (pc2 := 558) rfl rfl (sh_s66 hT.st) rfl rfl rfl rfl ?_
        refine sh_w (i := (.aload_n 0)) (len := 1) (pc2 := 559) (lv2 := [(11, .int r1), (10, .int (sh_b2 y0)), (0, .ref 67), (2, .int x2), (5, .int x5), (7, .int x7), (8, .int x8), (9, .int x9)]) (st2 := [.ref 67]) (h2 := (sh_rep m13.T (sh_u2 (sh_u2 m13.I 66 58 ((m13.I 66 58) - 1)) 66 53 (m13.I 66 54)) m13.J)) rfl rfl rfl ?_
        refine sh_w (i := (.iload 7)) (len := 2) (pc2 := 561) (lv2 := [(11, .int r1), (10, .int (sh_b2 y0)), (0, .ref 67), (2, .int x2), (5, .int x5), (7, .int x7), (8, .int x8), (9, .int x9)]) (st2 := [.int x7, .ref 67]) (h2 := (sh_rep m13.T (sh_u2 (sh_u2 m13.I 66 58 ((m13.I 66 58) - 1)) 66 53 (m13.I 66 54)) m13.J)) rfl rfl rfl ?_
        refine sh_pI1 (x := x7) (pc2 := 564) rfl rfl (sh_s66 hT.st) rfl rfl rfl rfl ?_
        refine sh_w (i := (.aload_n 0)) (len := 1) (pc2 := 565) (lv2 := [(11, .int r1), (10, .int (sh_b2 y0)), (0, .ref 67), (2, .int x2), (5, .int x5), (7, .int x7), (8, .int x8), (9, .int x9)]) (st2 := [.ref 67]) (h2 := (sh_rep m13.T (sh_u2 (sh_u2 (sh_u2 m13.I 66 58 ((m13.I 66 58) - 1)) 66 53 (m13.I 66 54)) 66 54 x7) m13.J)) rfl rfl rfl ?_
        refine sh_w (i := (.iload 8)) (len := 2) (pc2 := 567) (lv2 := [(11, .int r1), (10, .int (sh_b2 y0)), (0, .ref 67), (2, .int x2), (5, .int x5), (7, .int x7), (8, .int x8), (9, .int x9)]) (st2 := [.int x8, .ref 67]) (h2 := (sh_rep m13.T (sh_u2 (sh_u2 (sh_u2 m13.I 66 58 ((m13.I 66 58) - 1)) 66 53 (m13.I 66 54)) 66 54 x7) m13.J)) rfl rfl rfl ?_
        refine sh_pI1 (x := x8) (pc2 := 570) rfl rfl (sh_s66 hT.st) rfl rfl rfl rfl ?_
        refine sh_w (i := (.aload_n 0)) (len := 1) (pc2 := 571) (lv2 := [(11, .int r1), (10, .int (sh_b2 y0)), (0, .ref 67), (2, .int x2), (5, .int x5), (7, .int x7), (8, .int x8), (9, .int x9)]) (st2 := [.ref 67]) (h2 := (sh_rep m13.T (sh_u2 (sh_u2 (sh_u2 (sh_u2 m13.I 66 58 ((m13.I 66 58) - 1)) 66 53 (m13.I 66 54)) 66 54 x7) 66 55 x8) m13.J)) rfl rfl rfl ?_
        refine sh_w (i := (.iload 9)) (len := 2) (pc2 := 573) (lv2 := [(11, .int r1), (10, .int (sh_b2 y0)), (0, .ref 67), (2, .int x2), (5, .int x5), (7, .int x7), (8, .int x8), (9, .int x9)]) (st2 := [.int x9, .ref 67]) (h2 := (sh_rep m13.T (sh_u2 (sh_u2 (sh_u2 (sh_u2 m13.I 66 58 ((m13.I 66 58) - 1)) 66 53 (m13.I 66 54)) 66 54 x7) 66 55 x8) m13.J)) rfl rfl rfl ?_
        refine sh_pI1 (x := x9) (pc2 := 576) rfl rfl (sh_s66 hT.st) rfl rfl rfl rfl ?_
        refine sh_w (i := (.aload_n 0)) (len := 1) (pc2 := 577) (lv2 := [(11, .int r1), (10, .int (sh_b2 y0)), (0, .ref 67), (2, .int x2), (5, .int x5), (7, .int x7), (8, .int x8), (9, .int x9)]) (st2 := [.ref 67]) (h2 := (sh_rep m13.T (sh_u2 (sh_u2 (sh_u2 (sh_u2 (sh_u2 m13.I 66 58 ((m13.I 66 58) - 1)) 66 53 (m13.I 66 54)) 66 54 x7) 66 55 x8) 66 59 x9) m13.J)) rfl rfl rfl ?_
        refine sh_gJ1 (len := 3) (x := m13.J 66 46) (pc2 := 580) rfl rfl (sh_s66 hT.st) rfl rfl rfl ?_
        refine sh_w (i := .l2i) (len := 1) (pc2 := 581) (lv2 := [(11, .int r1), (10, .int (sh_b2 y0)), (0, .ref 67), (2, .int x2), (5, .int x5), (7, .int x7), (8, .int x8), (9, .int x9)]) (st2 := [.int (Int64.toInt32 (m13.J 66 46))]) (h2 := (sh_rep m13.T (sh_u2 (sh_u2 (sh_u2 (sh_u2 (sh_u2 m13.I 66 58 ((m13.I 66 58) - 1)) 66 53 (m13.I 66 54)) 66 54 x7) 66 55 x8) 66 59 x9) m13.J)) rfl rfl rfl ?_
        refine sh_w (i := (.istore 12)) (len := 2) (pc2 := 583) (lv2 := [(12, .int (Int64.toInt32 (m13.J 66 46))), (11, .int r1), (10, .int (sh_b2 y0)), (0, .ref 67), (2, .int x2), (5, .int x5), (7, .int x7), (8, .int x8), (9, .int x9)]) (st2 := []) (h2 := (sh_rep m13.T (sh_u2 (sh_u2 (sh_u2 (sh_u2 (sh_u2 m13.I 66 58 ((m13.I 66 58) - 1)) 66 53 (m13.I 66 54)) 66 54 x7) 66 55 x8) 66 59 x9) m13.J)) rfl rfl rfl ?_
        refine sh_w (i := (.iconst 0)) (len := 1) (pc2 := 584) (lv2 := [(12, .int (Int64.toInt32 (m13.J 66 46))), (11, .int r1), (10, .int (sh_b2 y0)), (0, .ref 67), (2, .int x2), (5, .int x5), (7, .int x7), (8, .int x8), (9, .int x9)]) (st2 := [.int 0]) (h2 := (sh_rep m13.T (sh_u2 (sh_u2 (sh_u2 (sh_u2 (sh_u2 m13.I 66 58 ((m13.I 66 58) - 1)) 66 53 (m13.I 66 54)) 66 54 x7) 66 55 x8) 66 59 x9) m13.J)) rfl rfl rfl ?_
        refine sh_w (i := (.istore 13)) (len := 2) (pc2 := 586) (lv2 := [(13, .int 0), (12, .int (Int64.toInt32 (m13.J 66 46))), (11, .int r1), (10, .int (sh_b2 y0)), (0, .ref 67), (2, .int x2), (5, .int x5), (7, .int x7), (8, .int x8), (9, .int x9)]) (st2 := []) (h2 := (sh_rep m13.T (sh_u2 (sh_u2 (sh_u2 (sh_u2 (sh_u2 m13.I 66 58 ((m13.I 66 58) - 1)) 66 53 (m13.I 66 54)) 66 54 x7) 66 55 x8) 66 59 x9) m13.J)) rfl rfl rfl ?_
        exact kk
      exact sh_Lk_sub (sh_sub_c rfl (sh_sub_c rfl (sh_sub_c rfl (sh_sub_c rfl (sh_sub_n))))) (sl_315_586 hQ e tg)
    · refine sh_Lk_lift (T := m13.T) (I := m13.I) (J := m13.J) (s := m13.s) (pc2 := 539) (lv2 := [(11, .int r1), (10, .int (sh_b2 y0)), (0, .ref 67), (2, .int x2), (5, .int x5), (7, .int x7), (8, .int x8), (9, .int x9)]) (st2 := [.int 0]) (I2 := m13.I) (J2 := m13.J) (fun hT v kk => ?_) ?_
      · refine sh_j0 (c := .ne) (off := (5)) (pc2 := 538) false rfl (sh_Znef c) rfl ?_
        refine sh_w (i := (.iconst 0)) (len := 1) (pc2 := 539) (lv2 := [(11, .int r1), (10, .int (sh_b2 y0)), (0, .ref 67), (2, .int x2), (5, .int x5), (7, .int x7), (8, .int x8), (9, .int x9)]) (st2 := [.int 0]) (h2 := (sh_rep m13.T m13.I m13.J)) rfl rfl rfl ?_
        exact kk
      obtain rfl := Option.some.inj e
      obtain ⟨rfl, rfl⟩ := tg
      exact sh_Lk_ret (i := .ireturn) rfl rfl rfl (by omega) (by omega)
  · refine sh_Lk_lift (T := m.T) (I := m.I) (J := m.J) (s := m.s) (pc2 := 539) (lv2 := [(11, .int r1), (10, .int (sh_b2 y0)), (0, .ref 67), (2, .int x2), (5, .int x5), (7, .int x7), (8, .int x8), (9, .int x9)]) (st2 := [.int 0]) (I2 := m.I) (J2 := m.J) (fun hT v kk => ?_) ?_
    · refine sh_j0 (c := .eq) (off := (38)) (pc2 := 538) true rfl (sh_Zeqt c) rfl ?_
      refine sh_w (i := (.iconst 0)) (len := 1) (pc2 := 539) (lv2 := [(11, .int r1), (10, .int (sh_b2 y0)), (0, .ref 67), (2, .int x2), (5, .int x5), (7, .int x7), (8, .int x8), (9, .int x9)]) (st2 := [.int 0]) (h2 := (sh_rep m.T m.I m.J)) rfl rfl rfl ?_
      exact kk
    obtain rfl := Option.some.inj e
    obtain ⟨rfl, rfl⟩ := tg
    exact sh_Lk_ret (i := .ireturn) rfl rfl rfl (by omega) (by omega)
theorem sl_315_483 {Q : sh_Q279} {d : Nat} {x2 : Int32} {x5 : Int32} {x7 : Int32} {x8 : Int32} {x9 : Int32} {m m2 : sh_X} {o : Outcome} {z : (Bool × sh_X)} (hQ : sh_QL279 Q d) (e : sf_315_483 Q x2 x5 x7 x8 x9 m = some z) (tg : (sh_tZ o m2) z) : sh_Lk 315 483 [(0, .ref 67), (2, .int x2), (5, .int x5), (7, .int x7), (8, .int x8), (9, .int x9)] [] m o m2 (d + 1 + 15) (40 * (d + 1) + 385) := by
  unfold sf_315_483 at e
  refine sh_Lk_lift (T := m.T) (I := m.I) (J := m.J) (s := m.s) (pc2 := 484) (lv2 := [(0, .ref 67), (2, .int x2), (5, .int x5), (7, .int x7), (8, .int x8), (9, .int x9)]) (st2 := [.int 0]) (I2 := m.I) (J2 := m.J) (fun hT v kk => ?_) ?_
  · refine sh_w (i := (.iconst 0)) (len := 1) (pc2 := 484) (lv2 := [(0, .ref 67), (2, .int x2), (5, .int x5), (7, .int x7), (8, .int x8), (9, .int x9)]) (st2 := [.int 0]) (h2 := (sh_rep m.T m.I m.J)) rfl rfl rfl ?_
    exact kk
  exact sh_Lk_sub (sh_sub_c rfl (sh_sub_c rfl (sh_sub_c rfl (sh_sub_c rfl (sh_sub_c rfl (sh_sub_c rfl (sh_sub_n))))))) (sl_315_484 hQ e tg)
theorem sl_315_363s {Q : sh_Q279} {d : Nat} {x2 : Int32} {x3 : Int32} {x5 : Int32} {x6 : Int32} {x7 : Int32} {x8 : Int32} {x9 : Int32} {x10 : Int32} {m m2 : sh_X} {o : Outcome} {z : ((Int32 × sh_X) ⊕ (Bool × sh_X))} (hQ : sh_QL279 Q d) (e : sf_315_363s Q x2 x3 x5 x6 x7 x8 x9 x10 m = some z) (tg : (sh_el (fun q => sh_Lk 315 363 [(0, .ref 67), (2, .int x2), (3, .int x3), (5, .int x5), (6, .int x6), (7, .int x7), (8, .int x8), (9, .int x9), (10, .int q.1)] [] q.2 o m2 (d + 1 + 15) (40 * (d + 1) + 385)) (sh_tZ o m2)) z) : sh_Lk 315 363 [(0, .ref 67), (2, .int x2), (3, .int x3), (5, .int x5), (6, .int x6), (7, .int x7), (8, .int x8), (9, .int x9), (10, .int x10)] [] m o m2 (d + 1 + 15) (40 * (d + 1) + 385) := by
  unfold sf_315_363s at e
  refine sh_Lk_lift (T := m.T) (I := m.I) (J := m.J) (s := m.s) (pc2 := 366) (lv2 := [(0, .ref 67), (2, .int x2), (3, .int x3), (5, .int x5), (6, .int x6), (7, .int x7), (8, .int x8), (9, .int x9), (10, .int x10)]) (st2 := [.int x3, .int x10]) (I2 := m.I) (J2 := m.J) (fun hT v kk => ?_) ?_
  · refine sh_w (i := (.iload 10)) (len := 2) (pc2 := 365) (lv2 := [(0, .ref 67), (2, .int x2), (3, .int x3), (5, .int x5), (6, .int x6), (7, .int x7), (8, .int x8), (9, .int x9), (10, .int x10)]) (st2 := [.int x10]) (h2 := (sh_rep m.T m.I m.J)) rfl rfl rfl ?_
    refine sh_w (i := (.iload_n 3)) (len := 1) (pc2 := 366) (lv2 := [(0, .ref 67), (2, .int x2), (3, .int x3), (5, .int x5), (6, .int x6), (7, .int x7), (8, .int x8), (9, .int x9), (10, .int x10)]) (st2 := [.int x3, .int x10]) (h2 := (sh_rep m.T m.I m.J)) rfl rfl rfl ?_
    exact kk
  rcases sh_ite e with ⟨c, e⟩ | ⟨c, e⟩
  · refine sh_Lk_lift (T := m.T) (I := m.I) (J := m.J) (s := m.s) (pc2 := 379) (lv2 := [(0, .ref 67), (2, .int x2), (3, .int x3), (5, .int x5), (6, .int x6), (7, .int x7), (8, .int x8), (9, .int x9), (10, .int x10)]) (st2 := [.int (x6 + x10), .ref 113, .ref 67]) (I2 := m.I) (J2 := m.J) (fun hT v kk => ?_) ?_
    · refine sh_jc (c := .ge) (off := (81)) (pc2 := 369) false rfl (sh_Bgef c) rfl ?_
      refine sh_w (i := (.aload_n 0)) (len := 1) (pc2 := 370) (lv2 := [(0, .ref 67), (2, .int x2), (3, .int x3), (5, .int x5), (6, .int x6), (7, .int x7), (8, .int x8), (9, .int x9), (10, .int x10)]) (st2 := [.ref 67]) (h2 := (sh_rep m.T m.I m.J)) rfl rfl rfl ?_
      refine sh_w (i := (.aload_n 0)) (len := 1) (pc2 := 371) (lv2 := [(0, .ref 67), (2, .int x2), (3, .int x3), (5, .int x5), (6, .int x6), (7, .int x7), (8, .int x8), (9, .int x9), (10, .int x10)]) (st2 := [.ref 67, .ref 67]) (h2 := (sh_rep m.T m.I m.J)) rfl rfl rfl ?_
      refine sh_gR1 (len := 3) (x := .ref 113) (pc2 := 374) rfl rfl (sh_s66 hT.st) rfl rfl ?_
      refine sh_w (i := (.iload 6)) (len := 2) (pc2 := 376) (lv2 := [(0, .ref 67), (2, .int x2), (3, .int x3), (5, .int x5), (6, .int x6), (7, .int x7), (8, .int x8), (9, .int x9), (10, .int x10)]) (st2 := [.int x6, .ref 113, .ref 67]) (h2 := (sh_rep m.T m.I m.J)) rfl rfl rfl ?_
      refine sh_w (i := (.iload 10)) (len := 2) (pc2 := 378) (lv2 := [(0, .ref 67), (2, .int x2), (3, .int x3), (5, .int x5), (6, .int x6), (7, .int x7), (8, .int x8), (9, .int x9), (10, .int x10)]) (st2 := [.int x10, .int x6, .ref 113, .ref 67]) (h2 := (sh_rep m.T m.I m.J)) rfl rfl rfl ?_
      refine sh_w (i := .iadd) (len := 1) (pc2 := 379) (lv2 := [(0, .ref 67), (2, .int x2), (3, .int x3), (5, .int x5), (6, .int x6), (7, .int x7), (8, .int x8), (9, .int x9), (10, .int x10)]) (st2 := [.int (x6 + x10), .ref 113, .ref 67]) (h2 := (sh_rep m.T m.I m.J)) rfl rfl rfl ?_
      exact kk
    obtain ⟨c, e⟩ := sh_gd e
    refine sh_Lk_lift (T := m.T) (I := m.I) (J := m.J) (s := m.s) (pc2 := 393) (lv2 := [(0, .ref 67), (2, .int x2), (3, .int x3), (5, .int x5), (6, .int x6), (7, .int x7), (8, .int x8), (9, .int x9), (10, .int x10)]) (st2 := [.int (x6 + x10), .ref 114, .ref 67]) (I2 := sh_u2 m.I 66 43 (m.I 112 (Int32.toNatClampNeg (x6 + x10)))) (J2 := m.J) (fun hT v kk => ?_) ?_
    · refine sh_ia1 (x := m.I 112 (Int32.toNatClampNeg (x6 + x10))) (pc2 := 380) rfl (sh_s112 hT.st) (sh_okb1 c) (sh_okb2 c) rfl rfl ?_
      refine sh_pI1 (x := m.I 112 (Int32.toNatClampNeg (x6 + x10))) (pc2 := 383) rfl rfl (sh_s66 hT.st) rfl rfl rfl rfl ?_
      refine sh_w (i := (.aload_n 0)) (len := 1) (pc2 := 384) (lv2 := [(0, .ref 67), (2, .int x2), (3, .int x3), (5, .int x5), (6, .int x6), (7, .int x7), (8, .int x8), (9, .int x9), (10, .int x10)]) (st2 := [.ref 67]) (h2 := (sh_rep m.T (sh_u2 m.I 66 43 (m.I 112 (Int32.toNatClampNeg (x6 + x10)))) m.J)) rfl rfl rfl ?_
      refine sh_w (i := (.aload_n 0)) (len := 1) (pc2 := 385) (lv2 := [(0, .ref 67), (2, .int x2), (3, .int x3), (5, .int x5), (6, .int x6), (7, .int x7), (8, .int x8), (9, .int x9), (10, .int x10)]) (st2 := [.ref 67, .ref 67]) (h2 := (sh_rep m.T (sh_u2 m.I 66 43 (m.I 112 (Int32.toNatClampNeg (x6 + x10)))) m.J)) rfl rfl rfl ?_
      refine sh_gR1 (len := 3) (x := .ref 114) (pc2 := 388) rfl rfl (sh_s66 hT.st) rfl rfl ?_
      refine sh_w (i := (.iload 6)) (len := 2) (pc2 := 390) (lv2 := [(0, .ref 67), (2, .int x2), (3, .int x3), (5, .int x5), (6, .int x6), (7, .int x7), (8, .int x8), (9, .int x9), (10, .int x10)]) (st2 := [.int x6, .ref 114, .ref 67]) (h2 := (sh_rep m.T (sh_u2 m.I 66 43 (m.I 112 (Int32.toNatClampNeg (x6 + x10)))) m.J)) rfl rfl rfl ?_
      refine sh_w (i := (.iload 10)) (len := 2) (pc2 := 392) (lv2 := [(0, .ref 67), (2, .int x2), (3, .int x3), (5, .int x5), (6, .int x6), (7, .int x7), (8, .int x8), (9, .int x9), (10, .int x10)]) (st2 := [.int x10, .int x6, .ref 114, .ref 67]) (h2 := (sh_rep m.T (sh_u2 m.I 66 43 (m.I 112 (Int32.toNatClampNeg (x6 + x10)))) m.J)) rfl rfl rfl ?_
      refine sh_w (i := .iadd) (len := 1) (pc2 := 393) (lv2 := [(0, .ref 67), (2, .int x2), (3, .int x3), (5, .int x5), (6, .int x6), (7, .int x7), (8, .int x8), (9, .int x9), (10, .int x10)]) (st2 := [.int (x6 + x10), .ref 114, .ref 67]) (h2 := (sh_rep m.T (sh_u2 m.I 66 43 (m.I 112 (Int32.toNatClampNeg (x6 + x10)))) m.J)) rfl rfl rfl ?_
      exact kk
    obtain ⟨c, e⟩ := sh_gd e
    refine sh_Lk_lift (T := m.T) (I := sh_u2 m.I 66 43 (m.I 112 (Int32.toNatClampNeg (x6 + x10)))) (J := m.J) (s := m.s) (pc2 := 407) (lv2 := [(0, .ref 67), (2, .int x2), (3, .int x3), (5, .int x5), (6, .int x6), (7, .int x7), (8, .int x8), (9, .int x9), (10, .int x10)]) (st2 := [.int (x6 + x10), .ref 115, .ref 67]) (I2 := sh_u2 (sh_u2 m.I 66 43 (m.I 112 (Int32.toNatClampNeg (x6 + x10)))) 66 44 (m.I 113 (Int32.toNatClampNeg (x6 + x10)))) (J2 := m.J) (fun hT v kk => ?_) ?_
    · refine sh_ia1 (x := m.I 113 (Int32.toNatClampNeg (x6 + x10))) (pc2 := 394) rfl (sh_s113 hT.st) (sh_okb1 c) (sh_okb2 c) rfl rfl ?_
      refine sh_pI1 (x := m.I 113 (Int32.toNatClampNeg (x6 + x10))) (pc2 := 397) rfl rfl (sh_s66 hT.st) rfl rfl rfl rfl ?_
      refine sh_w (i := (.aload_n 0)) (len := 1) (pc2 := 398) (lv2 := [(0, .ref 67), (2, .int x2), (3, .int x3), (5, .int x5), (6, .int x6), (7, .int x7), (8, .int x8), (9, .int x9), (10, .int x10)]) (st2 := [.ref 67]) (h2 := (sh_rep m.T (sh_u2 (sh_u2 m.I 66 43 (m.I 112 (Int32.toNatClampNeg (x6 + x10)))) 66 44 (m.I 113 (Int32.toNatClampNeg (x6 + x10)))) m.J)) rfl rfl rfl ?_
      refine sh_w (i := (.aload_n 0)) (len := 1) (pc2 := 399) (lv2 := [(0, .ref 67), (2, .int x2), (3, .int x3), (5, .int x5), (6, .int x6), (7, .int x7), (8, .int x8), (9, .int x9), (10, .int x10)]) (st2 := [.ref 67, .ref 67]) (h2 := (sh_rep m.T (sh_u2 (sh_u2 m.I 66 43 (m.I 112 (Int32.toNatClampNeg (x6 + x10)))) 66 44 (m.I 113 (Int32.toNatClampNeg (x6 + x10)))) m.J)) rfl rfl rfl ?_
      refine sh_gR1 (len := 3) (x := .ref 115) (pc2 := 402) rfl rfl (sh_s66 hT.st) rfl rfl ?_
      refine sh_w (i := (.iload 6)) (len := 2) (pc2 := 404) (lv2 := [(0, .ref 67), (2, .int x2), (3, .int x3), (5, .int x5), (6, .int x6), (7, .int x7), (8, .int x8), (9, .int x9), (10, .int x10)]) (st2 := [.int x6, .ref 115, .ref 67]) (h2 := (sh_rep m.T (sh_u2 (sh_u2 m.I 66 43 (m.I 112 (Int32.toNatClampNeg (x6 + x10)))) 66 44 (m.I 113 (Int32.toNatClampNeg (x6 + x10)))) m.J)) rfl rfl rfl ?_
      refine sh_w (i := (.iload 10)) (len := 2) (pc2 := 406) (lv2 := [(0, .ref 67), (2, .int x2), (3, .int x3), (5, .int x5), (6, .int x6), (7, .int x7), (8, .int x8), (9, .int x9), (10, .int x10)]) (st2 := [.int x10, .int x6, .ref 115, .ref 67]) (h2 := (sh_rep m.T (sh_u2 (sh_u2 m.I 66 43 (m.I 112 (Int32.toNatClampNeg (x6 + x10)))) 66 44 (m.I 113 (Int32.toNatClampNeg (x6 + x10)))) m.J)) rfl rfl rfl ?_
      refine sh_w (i := .iadd) (len := 1) (pc2 := 407) (lv2 := [(0, .ref 67), (2, .int x2), (3, .int x3), (5, .int x5), (6, .int x6), (7, .int x7), (8, .int x8), (9, .int x9), (10, .int x10)]) (st2 := [.int (x6 + x10), .ref 115, .ref 67]) (h2 := (sh_rep m.T (sh_u2 (sh_u2 m.I 66 43 (m.I 112 (Int32.toNatClampNeg (x6 + x10)))) 66 44 (m.I 113 (Int32.toNatClampNeg (x6 + x10)))) m.J)) rfl rfl rfl ?_
      exact kk
    obtain ⟨c, e⟩ := sh_gd e
    refine sh_Lk_lift (T := m.T) (I := sh_u2 (sh_u2 m.I 66 43 (m.I 112 (Int32.toNatClampNeg (x6 + x10)))) 66 44 (m.I 113 (Int32.toNatClampNeg (x6 + x10)))) (J := m.J) (s := m.s) (pc2 := 421) (lv2 := [(0, .ref 67), (2, .int x2), (3, .int x3), (5, .int x5), (6, .int x6), (7, .int x7), (8, .int x8), (9, .int x9), (10, .int x10)]) (st2 := [.int (x6 + x10), .ref 116, .ref 67]) (I2 := sh_u2 (sh_u2 (sh_u2 m.I 66 43 (m.I 112 (Int32.toNatClampNeg (x6 + x10)))) 66 44 (m.I 113 (Int32.toNatClampNeg (x6 + x10)))) 66 45 (m.I 114 (Int32.toNatClampNeg (x6 + x10)))) (J2 := m.J) (fun hT v kk => ?_) ?_
    · refine sh_ia1 (x := m.I 114 (Int32.toNatClampNeg (x6 + x10))) (pc2 := 408) rfl (sh_s114 hT.st) (sh_okb1 c) (sh_okb2 c) rfl rfl ?_
      refine sh_pI1 (x := m.I 114 (Int32.toNatClampNeg (x6 + x10))) (pc2 := 411) rfl rfl (sh_s66 hT.st) rfl rfl rfl rfl ?_
      refine sh_w (i := (.aload_n 0)) (len := 1) (pc2 := 412) (lv2 := [(0, .ref 67), (2, .int x2), (3, .int x3), (5, .int x5), (6, .int x6), (7, .int x7), (8, .int x8), (9, .int x9), (10, .int x10)]) (st2 := [.ref 67]) (h2 := (sh_rep m.T (sh_u2 (sh_u2 (sh_u2 m.I 66 43 (m.I 112 (Int32.toNatClampNeg (x6 + x10)))) 66 44 (m.I 113 (Int32.toNatClampNeg (x6 + x10)))) 66 45 (m.I 114 (Int32.toNatClampNeg (x6 + x10)))) m.J)) rfl rfl rfl ?_
      refine sh_w (i := (.aload_n 0)) (len := 1) (pc2 := 413) (lv2 := [(0, .ref 67), (2, .int x2), (3, .int x3), (5, .int x5), (6, .int x6), (7, .int x7), (8, .int x8), (9, .int x9), (10, .int x10)]) (st2 := [.ref 67, .ref 67]) (h2 := (sh_rep m.T (sh_u2 (sh_u2 (sh_u2 m.I 66 43 (m.I 112 (Int32.toNatClampNeg (x6 + x10)))) 66 44 (m.I 113 (Int32.toNatClampNeg (x6 + x10)))) 66 45 (m.I 114 (Int32.toNatClampNeg (x6 + x10)))) m.J)) rfl rfl rfl ?_
      refine sh_gR1 (len := 3) (x := .ref 116) (pc2 := 416) rfl rfl (sh_s66 hT.st) rfl rfl ?_
      refine sh_w (i := (.iload 6)) (len := 2) (pc2 := 418) (lv2 := [(0, .ref 67), (2, .int x2), (3, .int x3), (5, .int x5), (6, .int x6), (7, .int x7), (8, .int x8), (9, .int x9), (10, .int x10)]) (st2 := [.int x6, .ref 116, .ref 67]) (h2 := (sh_rep m.T (sh_u2 (sh_u2 (sh_u2 m.I 66 43 (m.I 112 (Int32.toNatClampNeg (x6 + x10)))) 66 44 (m.I 113 (Int32.toNatClampNeg (x6 + x10)))) 66 45 (m.I 114 (Int32.toNatClampNeg (x6 + x10)))) m.J)) rfl rfl rfl ?_
      refine sh_w (i := (.iload 10)) (len := 2) (pc2 := 420) (lv2 := [(0, .ref 67), (2, .int x2), (3, .int x3), (5, .int x5), (6, .int x6), (7, .int x7), (8, .int x8), (9, .int x9), (10, .int x10)]) (st2 := [.int x10, .int x6, .ref 116, .ref 67]) (h2 := (sh_rep m.T (sh_u2 (sh_u2 (sh_u2 m.I 66 43 (m.I 112 (Int32.toNatClampNeg (x6 + x10)))) 66 44 (m.I 113 (Int32.toNatClampNeg (x6 + x10)))) 66 45 (m.I 114 (Int32.toNatClampNeg (x6 + x10)))) m.J)) rfl rfl rfl ?_
      refine sh_w (i := .iadd) (len := 1) (pc2 := 421) (lv2 := [(0, .ref 67), (2, .int x2), (3, .int x3), (5, .int x5), (6, .int x6), (7, .int x7), (8, .int x8), (9, .int x9), (10, .int x10)]) (st2 := [.int (x6 + x10), .ref 116, .ref 67]) (h2 := (sh_rep m.T (sh_u2 (sh_u2 (sh_u2 m.I 66 43 (m.I 112 (Int32.toNatClampNeg (x6 + x10)))) 66 44 (m.I 113 (Int32.toNatClampNeg (x6 + x10)))) 66 45 (m.I 114 (Int32.toNatClampNeg (x6 + x10)))) m.J)) rfl rfl rfl ?_
      exact kk
    obtain ⟨c, e⟩ := sh_gd e
    refine sh_Lk_lift (T := m.T) (I := sh_u2 (sh_u2 (sh_u2 m.I 66 43 (m.I 112 (Int32.toNatClampNeg (x6 + x10)))) 66 44 (m.I 113 (Int32.toNatClampNeg (x6 + x10)))) 66 45 (m.I 114 (Int32.toNatClampNeg (x6 + x10)))) (J := m.J) (s := m.s) (pc2 := 437) (lv2 := [(0, .ref 67), (2, .int x2), (3, .int x3), (5, .int x5), (6, .int x6), (7, .int x7), (8, .int x8), (9, .int x9), (10, .int x10)]) (st2 := [.int ((8 * x2) + x10), .ref 82, .ref 67]) (I2 := sh_u2 (sh_u2 (sh_u2 m.I 66 43 (m.I 112 (Int32.toNatClampNeg (x6 + x10)))) 66 44 (m.I 113 (Int32.toNatClampNeg (x6 + x10)))) 66 45 (m.I 114 (Int32.toNatClampNeg (x6 + x10)))) (J2 := sh_u2 m.J 66 46 (m.J 115 (Int32.toNatClampNeg (x6 + x10)))) (fun hT v kk => ?_) ?_
    · refine sh_la1 (x := m.J 115 (Int32.toNatClampNeg (x6 + x10))) (pc2 := 422) rfl (sh_s115 hT.st) (sh_okb1 c) (sh_okb2 c) rfl rfl ?_
      refine sh_pJ1 (x := m.J 115 (Int32.toNatClampNeg (x6 + x10))) (pc2 := 425) rfl rfl (sh_s66 hT.st) rfl rfl rfl rfl ?_
      refine sh_w (i := (.aload_n 0)) (len := 1) (pc2 := 426) (lv2 := [(0, .ref 67), (2, .int x2), (3, .int x3), (5, .int x5), (6, .int x6), (7, .int x7), (8, .int x8), (9, .int x9), (10, .int x10)]) (st2 := [.ref 67]) (h2 := (sh_rep m.T (sh_u2 (sh_u2 (sh_u2 m.I 66 43 (m.I 112 (Int32.toNatClampNeg (x6 + x10)))) 66 44 (m.I 113 (Int32.toNatClampNeg (x6 + x10)))) 66 45 (m.I 114 (Int32.toNatClampNeg (x6 + x10)))) (sh_u2 m.J 66 46 (m.J 115 (Int32.toNatClampNeg (x6 + x10)))))) rfl rfl rfl ?_
      refine sh_w (i := (.aload_n 0)) (len := 1) (pc2 := 427) (lv2 := [(0, .ref 67), (2, .int x2), (3, .int x3), (5, .int x5), (6, .int x6), (7, .int x7), (8, .int x8), (9, .int x9), (10, .int x10)]) (st2 := [.ref 67, .ref 67]) (h2 := (sh_rep m.T (sh_u2 (sh_u2 (sh_u2 m.I 66 43 (m.I 112 (Int32.toNatClampNeg (x6 + x10)))) 66 44 (m.I 113 (Int32.toNatClampNeg (x6 + x10)))) 66 45 (m.I 114 (Int32.toNatClampNeg (x6 + x10)))) (sh_u2 m.J 66 46 (m.J 115 (Int32.toNatClampNeg (x6 + x10)))))) rfl rfl rfl ?_
      refine sh_gR1 (len := 3) (x := .ref 82) (pc2 := 430) rfl rfl (sh_s66 hT.st) rfl rfl ?_
      refine sh_w (i := (.bipush 8)) (len := 2) (pc2 := 432) (lv2 := [(0, .ref 67), (2, .int x2), (3, .int x3), (5, .int x5), (6, .int x6), (7, .int x7), (8, .int x8), (9, .int x9), (10, .int x10)]) (st2 := [.int 8, .ref 82, .ref 67]) (h2 := (sh_rep m.T (sh_u2 (sh_u2 (sh_u2 m.I 66 43 (m.I 112 (Int32.toNatClampNeg (x6 + x10)))) 66 44 (m.I 113 (Int32.toNatClampNeg (x6 + x10)))) 66 45 (m.I 114 (Int32.toNatClampNeg (x6 + x10)))) (sh_u2 m.J 66 46 (m.J 115 (Int32.toNatClampNeg (x6 + x10)))))) rfl rfl rfl ?_
      refine sh_w (i := (.iload_n 2)) (len := 1) (pc2 := 433) (lv2 := [(0, .ref 67), (2, .int x2), (3, .int x3), (5, .int x5), (6, .int x6), (7, .int x7), (8, .int x8), (9, .int x9), (10, .int x10)]) (st2 := [.int x2, .int 8, .ref 82, .ref 67]) (h2 := (sh_rep m.T (sh_u2 (sh_u2 (sh_u2 m.I 66 43 (m.I 112 (Int32.toNatClampNeg (x6 + x10)))) 66 44 (m.I 113 (Int32.toNatClampNeg (x6 + x10)))) 66 45 (m.I 114 (Int32.toNatClampNeg (x6 + x10)))) (sh_u2 m.J 66 46 (m.J 115 (Int32.toNatClampNeg (x6 + x10)))))) rfl rfl rfl ?_
      refine sh_w (i := .imul) (len := 1) (pc2 := 434) (lv2 := [(0, .ref 67), (2, .int x2), (3, .int x3), (5, .int x5), (6, .int x6), (7, .int x7), (8, .int x8), (9, .int x9), (10, .int x10)]) (st2 := [.int (8 * x2), .ref 82, .ref 67]) (h2 := (sh_rep m.T (sh_u2 (sh_u2 (sh_u2 m.I 66 43 (m.I 112 (Int32.toNatClampNeg (x6 + x10)))) 66 44 (m.I 113 (Int32.toNatClampNeg (x6 + x10)))) 66 45 (m.I 114 (Int32.toNatClampNeg (x6 + x10)))) (sh_u2 m.J 66 46 (m.J 115 (Int32.toNatClampNeg (x6 + x10)))))) rfl rfl rfl ?_
      refine sh_w (i := (.iload 10)) (len := 2) (pc2 := 436) (lv2 := [(0, .ref 67), (2, .int x2), (3, .int x3), (5, .int x5), (6, .int x6), (7, .int x7), (8, .int x8), (9, .int x9), (10, .int x10)]) (st2 := [.int x10, .int (8 * x2), .ref 82, .ref 67]) (h2 := (sh_rep m.T (sh_u2 (sh_u2 (sh_u2 m.I 66 43 (m.I 112 (Int32.toNatClampNeg (x6 + x10)))) 66 44 (m.I 113 (Int32.toNatClampNeg (x6 + x10)))) 66 45 (m.I 114 (Int32.toNatClampNeg (x6 + x10)))) (sh_u2 m.J 66 46 (m.J 115 (Int32.toNatClampNeg (x6 + x10)))))) rfl rfl rfl ?_
      refine sh_w (i := .iadd) (len := 1) (pc2 := 437) (lv2 := [(0, .ref 67), (2, .int x2), (3, .int x3), (5, .int x5), (6, .int x6), (7, .int x7), (8, .int x8), (9, .int x9), (10, .int x10)]) (st2 := [.int ((8 * x2) + x10), .ref 82, .ref 67]) (h2 := (sh_rep m.T (sh_u2 (sh_u2 (sh_u2 m.I 66 43 (m.I 112 (Int32.toNatClampNeg (x6 + x10)))) 66 44 (m.I 113 (Int32.toNatClampNeg (x6 + x10)))) 66 45 (m.I 114 (Int32.toNatClampNeg (x6 + x10)))) (sh_u2 m.J 66 46 (m.J 115 (Int32.toNatClampNeg (x6 + x10)))))) rfl rfl rfl ?_
      exact kk
    obtain ⟨c, e⟩ := sh_gd e
    refine sh_Lk_lift (T := m.T) (I := sh_u2 (sh_u2 (sh_u2 m.I 66 43 (m.I 112 (Int32.toNatClampNeg (x6 + x10)))) 66 44 (m.I 113 (Int32.toNatClampNeg (x6 + x10)))) 66 45 (m.I 114 (Int32.toNatClampNeg (x6 + x10)))) (J := sh_u2 m.J 66 46 (m.J 115 (Int32.toNatClampNeg (x6 + x10)))) (s := m.s) (pc2 := 438) (lv2 := [(0, .ref 67), (2, .int x2), (3, .int x3), (5, .int x5), (6, .int x6), (7, .int x7), (8, .int x8), (9, .int x9), (10, .int x10)]) (st2 := [.int (m.I 81 (Int32.toNatClampNeg ((8 * x2) + x10))), .ref 67]) (I2 := sh_u2 (sh_u2 (sh_u2 m.I 66 43 (m.I 112 (Int32.toNatClampNeg (x6 + x10)))) 66 44 (m.I 113 (Int32.toNatClampNeg (x6 + x10)))) 66 45 (m.I 114 (Int32.toNatClampNeg (x6 + x10)))) (J2 := sh_u2 m.J 66 46 (m.J 115 (Int32.toNatClampNeg (x6 + x10)))) (fun hT v kk => ?_) ?_
    · refine sh_ia1 (x := m.I 81 (Int32.toNatClampNeg ((8 * x2) + x10))) (pc2 := 438) rfl (sh_s81 hT.st) (sh_okb1 c) (sh_okb2 c) rfl rfl ?_
      exact kk
    obtain ⟨r1, m11, e1, e⟩ := sh_bn_e e
    refine sh_Lk_cV (r := none) (st2 := []) (pc2 := 441) (k2 := 318) (a := 66) (as := [.ref 67, .int (m.I 81 (Int32.toNatClampNeg ((8 * x2) + x10)))]) (rest := []) rfl rfl rfl (fun hT => (sh_s66 hT.st)) rfl rfl ⟨Nat.le_of_ble_eq_true rfl, Nat.le_of_ble_eq_true rfl⟩ (sl_318 e1 ⟨rfl, rfl⟩) rfl rfl (show 8 + 1 ≤ d + 1 + 15 by omega) (show 8 + (4 + 11) + (200) ≤ 40 * (d + 1) + 385 by omega) ?_
    refine sh_Lk_lift (T := m11.T) (I := m11.I) (J := m11.J) (s := m11.s) (pc2 := 363) (lv2 := [(10, .int (x10 + 1)), (0, .ref 67), (2, .int x2), (3, .int x3), (5, .int x5), (6, .int x6), (7, .int x7), (8, .int x8), (9, .int x9)]) (st2 := []) (I2 := m11.I) (J2 := m11.J) (fun hT v kk => ?_) ?_
    · refine sh_w (i := (.iinc 10 1)) (len := 3) (pc2 := 444) (lv2 := [(10, .int (x10 + 1)), (0, .ref 67), (2, .int x2), (3, .int x3), (5, .int x5), (6, .int x6), (7, .int x7), (8, .int x8), (9, .int x9)]) (st2 := []) (h2 := (sh_rep m11.T m11.I m11.J)) rfl rfl rfl ?_
      refine sh_w (i := (.goto (-81))) (len := 3) (pc2 := 363) (lv2 := [(10, .int (x10 + 1)), (0, .ref 67), (2, .int x2), (3, .int x3), (5, .int x5), (6, .int x6), (7, .int x7), (8, .int x8), (9, .int x9)]) (st2 := []) (h2 := (sh_rep m11.T m11.I m11.J)) rfl rfl rfl ?_
      exact kk
    obtain rfl := Option.some.inj e
    exact sh_Lk_sub (sh_sub_c rfl (sh_sub_c rfl (sh_sub_c rfl (sh_sub_c rfl (sh_sub_c rfl (sh_sub_c rfl (sh_sub_c rfl (sh_sub_c rfl (sh_sub_c rfl (sh_sub_n)))))))))) tg
  · refine sh_Lk_lift (T := m.T) (I := m.I) (J := m.J) (s := m.s) (pc2 := 459) (lv2 := [(0, .ref 67), (2, .int x2), (3, .int x3), (5, .int x5), (6, .int x6), (7, .int x7), (8, .int x8), (9, .int x9), (10, .int x10)]) (st2 := [.int x2, .ref 87, .ref 67]) (I2 := sh_u2 m.I 66 79 x6) (J2 := m.J) (fun hT v kk => ?_) ?_
    · refine sh_jc (c := .ge) (off := (81)) (pc2 := 447) true rfl (sh_Bget c) rfl ?_
      refine sh_w (i := (.aload_n 0)) (len := 1) (pc2 := 448) (lv2 := [(0, .ref 67), (2, .int x2), (3, .int x3), (5, .int x5), (6, .int x6), (7, .int x7), (8, .int x8), (9, .int x9), (10, .int x10)]) (st2 := [.ref 67]) (h2 := (sh_rep m.T m.I m.J)) rfl rfl rfl ?_
      refine sh_w (i := (.iload 6)) (len := 2) (pc2 := 450) (lv2 := [(0, .ref 67), (2, .int x2), (3, .int x3), (5, .int x5), (6, .int x6), (7, .int x7), (8, .int x8), (9, .int x9), (10, .int x10)]) (st2 := [.int x6, .ref 67]) (h2 := (sh_rep m.T m.I m.J)) rfl rfl rfl ?_
      refine sh_pI1 (x := x6) (pc2 := 453) rfl rfl (sh_s66 hT.st) rfl rfl rfl rfl ?_
      refine sh_w (i := (.aload_n 0)) (len := 1) (pc2 := 454) (lv2 := [(0, .ref 67), (2, .int x2), (3, .int x3), (5, .int x5), (6, .int x6), (7, .int x7), (8, .int x8), (9, .int x9), (10, .int x10)]) (st2 := [.ref 67]) (h2 := (sh_rep m.T (sh_u2 m.I 66 79 x6) m.J)) rfl rfl rfl ?_
      refine sh_w (i := (.aload_n 0)) (len := 1) (pc2 := 455) (lv2 := [(0, .ref 67), (2, .int x2), (3, .int x3), (5, .int x5), (6, .int x6), (7, .int x7), (8, .int x8), (9, .int x9), (10, .int x10)]) (st2 := [.ref 67, .ref 67]) (h2 := (sh_rep m.T (sh_u2 m.I 66 79 x6) m.J)) rfl rfl rfl ?_
      refine sh_gR1 (len := 3) (x := .ref 87) (pc2 := 458) rfl rfl (sh_s66 hT.st) rfl rfl ?_
      refine sh_w (i := (.iload_n 2)) (len := 1) (pc2 := 459) (lv2 := [(0, .ref 67), (2, .int x2), (3, .int x3), (5, .int x5), (6, .int x6), (7, .int x7), (8, .int x8), (9, .int x9), (10, .int x10)]) (st2 := [.int x2, .ref 87, .ref 67]) (h2 := (sh_rep m.T (sh_u2 m.I 66 79 x6) m.J)) rfl rfl rfl ?_
      exact kk
    obtain ⟨c, e⟩ := sh_gd e
    refine sh_Lk_lift (T := m.T) (I := sh_u2 m.I 66 79 x6) (J := m.J) (s := m.s) (pc2 := 460) (lv2 := [(0, .ref 67), (2, .int x2), (3, .int x3), (5, .int x5), (6, .int x6), (7, .int x7), (8, .int x8), (9, .int x9), (10, .int x10)]) (st2 := [.int (m.I 86 (Int32.toNatClampNeg x2)), .ref 67]) (I2 := sh_u2 m.I 66 79 x6) (J2 := m.J) (fun hT v kk => ?_) ?_
    · refine sh_ia1 (x := m.I 86 (Int32.toNatClampNeg x2)) (pc2 := 460) rfl (sh_s86 hT.st) (sh_okb1 c) (sh_okb2 c) rfl rfl ?_
      exact kk
    obtain ⟨r2, m12, e2, e⟩ := sh_bn_e e
    refine sh_Lk_cV (r := (some (.int (sh_b2 r2)))) (st2 := [.int (sh_b2 r2)]) (pc2 := 463) (k2 := 290) (a := 66) (as := [.ref 67, .int (m.I 86 (Int32.toNatClampNeg x2))]) (rest := []) rfl rfl rfl (fun hT => (sh_s66 hT.st)) rfl rfl ⟨Nat.le_of_ble_eq_true rfl, Nat.le_of_ble_eq_true rfl⟩ (hQ.f290 e2 ⟨rfl, rfl⟩) rfl rfl (show d + 15 + 1 ≤ d + 1 + 15 by omega) (show 8 + (3 + 11) + (40 * d + 385) ≤ 40 * (d + 1) + 385 by omega) ?_
    rcases sh_ite e with ⟨c, e⟩ | ⟨c, e⟩
    · refine sh_Lk_lift (T := m12.T) (I := m12.I) (J := m12.J) (s := m12.s) (pc2 := 472) (lv2 := [(0, .ref 67), (2, .int x2), (3, .int x3), (5, .int x5), (6, .int x6), (7, .int x7), (8, .int x8), (9, .int x9), (10, .int x10)]) (st2 := [.int x2, .ref 88, .ref 67]) (I2 := m12.I) (J2 := m12.J) (fun hT v kk => ?_) ?_
      · refine sh_j0 (c := .eq) (off := (20)) (pc2 := 466) false rfl (sh_Zeqf c) rfl ?_
        refine sh_w (i := (.aload_n 0)) (len := 1) (pc2 := 467) (lv2 := [(0, .ref 67), (2, .int x2), (3, .int x3), (5, .int x5), (6, .int x6), (7, .int x7), (8, .int x8), (9, .int x9), (10, .int x10)]) (st2 := [.ref 67]) (h2 := (sh_rep m12.T m12.I m12.J)) rfl rfl rfl ?_
        refine sh_w (i := (.aload_n 0)) (len := 1) (pc2 := 468) (lv2 := [(0, .ref 67), (2, .int x2), (3, .int x3), (5, .int x5), (6, .int x6), (7, .int x7), (8, .int x8), (9, .int x9), (10, .int x10)]) (st2 := [.ref 67, .ref 67]) (h2 := (sh_rep m12.T m12.I m12.J)) rfl rfl rfl ?_
        refine sh_gR1 (len := 3) (x := .ref 88) (pc2 := 471) rfl rfl (sh_s66 hT.st) rfl rfl ?_
        refine sh_w (i := (.iload_n 2)) (len := 1) (pc2 := 472) (lv2 := [(0, .ref 67), (2, .int x2), (3, .int x3), (5, .int x5), (6, .int x6), (7, .int x7), (8, .int x8), (9, .int x9), (10, .int x10)]) (st2 := [.int x2, .ref 88, .ref 67]) (h2 := (sh_rep m12.T m12.I m12.J)) rfl rfl rfl ?_
        exact kk
      obtain ⟨c, e⟩ := sh_gd e
      refine sh_Lk_lift (T := m12.T) (I := m12.I) (J := m12.J) (s := m12.s) (pc2 := 473) (lv2 := [(0, .ref 67), (2, .int x2), (3, .int x3), (5, .int x5), (6, .int x6), (7, .int x7), (8, .int x8), (9, .int x9), (10, .int x10)]) (st2 := [.int (m12.I 87 (Int32.toNatClampNeg x2)), .ref 67]) (I2 := m12.I) (J2 := m12.J) (fun hT v kk => ?_) ?_
      · refine sh_ia1 (x := m12.I 87 (Int32.toNatClampNeg x2)) (pc2 := 473) rfl (sh_s87 hT.st) (sh_okb1 c) (sh_okb2 c) rfl rfl ?_
        exact kk
      obtain ⟨r3, m13, e3, e⟩ := sh_bn_e e
      refine sh_Lk_cV (r := (some (.int (sh_b2 r3)))) (st2 := [.int (sh_b2 r3)]) (pc2 := 476) (k2 := 294) (a := 66) (as := [.ref 67, .int (m12.I 87 (Int32.toNatClampNeg x2))]) (rest := []) rfl rfl rfl (fun hT => (sh_s66 hT.st)) rfl rfl ⟨Nat.le_of_ble_eq_true rfl, Nat.le_of_ble_eq_true rfl⟩ (hQ.f294 e3 ⟨rfl, rfl⟩) rfl rfl (show d + 15 + 1 ≤ d + 1 + 15 by omega) (show 8 + (5 + 11) + (40 * d + 385) ≤ 40 * (d + 1) + 385 by omega) ?_
      rcases sh_ite e with ⟨c, e⟩ | ⟨c, e⟩
      · refine sh_Lk_lift (T := m13.T) (I := m13.I) (J := m13.J) (s := m13.s) (pc2 := 484) (lv2 := [(0, .ref 67), (2, .int x2), (3, .int x3), (5, .int x5), (6, .int x6), (7, .int x7), (8, .int x8), (9, .int x9), (10, .int x10)]) (st2 := [.int 1]) (I2 := m13.I) (J2 := m13.J) (fun hT v kk => ?_) ?_
        · refine sh_j0 (c := .eq) (off := (7)) (pc2 := 479) false rfl (sh_Zeqf c) rfl ?_
          refine sh_w (i := (.iconst 1)) (len := 1) (pc2 := 480) (lv2 := [(0, .ref 67), (2, .int x2), (3, .int x3), (5, .int x5), (6, .int x6), (7, .int x7), (8, .int x8), (9, .int x9), (10, .int x10)]) (st2 := [.int 1]) (h2 := (sh_rep m13.T m13.I m13.J)) rfl rfl rfl ?_
          refine sh_w (i := (.goto 4)) (len := 3) (pc2 := 484) (lv2 := [(0, .ref 67), (2, .int x2), (3, .int x3), (5, .int x5), (6, .int x6), (7, .int x7), (8, .int x8), (9, .int x9), (10, .int x10)]) (st2 := [.int 1]) (h2 := (sh_rep m13.T m13.I m13.J)) rfl rfl rfl ?_
          exact kk
        obtain ⟨_, eu, rfl⟩ := sh_up_e e
        exact sh_Lk_sub (sh_sub_c rfl (sh_sub_c rfl (sh_sub_c rfl (sh_sub_c rfl (sh_sub_c rfl (sh_sub_c rfl (sh_sub_n))))))) (sl_315_484 hQ eu tg)
      · refine sh_Lk_lift (T := m13.T) (I := m13.I) (J := m13.J) (s := m13.s) (pc2 := 483) (lv2 := [(0, .ref 67), (2, .int x2), (3, .int x3), (5, .int x5), (6, .int x6), (7, .int x7), (8, .int x8), (9, .int x9), (10, .int x10)]) (st2 := []) (I2 := m13.I) (J2 := m13.J) (fun hT v kk => ?_) ?_
        · refine sh_j0 (c := .eq) (off := (7)) (pc2 := 483) true rfl (sh_Zeqt c) rfl ?_
          exact kk
        obtain ⟨_, eu, rfl⟩ := sh_up_e e
        exact sh_Lk_sub (sh_sub_c rfl (sh_sub_c rfl (sh_sub_c rfl (sh_sub_c rfl (sh_sub_c rfl (sh_sub_c rfl (sh_sub_n))))))) (sl_315_483 hQ eu tg)
    · refine sh_Lk_lift (T := m12.T) (I := m12.I) (J := m12.J) (s := m12.s) (pc2 := 483) (lv2 := [(0, .ref 67), (2, .int x2), (3, .int x3), (5, .int x5), (6, .int x6), (7, .int x7), (8, .int x8), (9, .int x9), (10, .int x10)]) (st2 := []) (I2 := m12.I) (J2 := m12.J) (fun hT v kk => ?_) ?_
      · refine sh_j0 (c := .eq) (off := (20)) (pc2 := 483) true rfl (sh_Zeqt c) rfl ?_
        exact kk
      obtain ⟨_, eu, rfl⟩ := sh_up_e e
      exact sh_Lk_sub (sh_sub_c rfl (sh_sub_c rfl (sh_sub_c rfl (sh_sub_c rfl (sh_sub_c rfl (sh_sub_c rfl (sh_sub_n))))))) (sl_315_483 hQ eu tg)
theorem sl_315_363 {Q : sh_Q279} {d : Nat} {x2 : Int32} {x3 : Int32} {x5 : Int32} {x6 : Int32} {x7 : Int32} {x8 : Int32} {x9 : Int32} {x10 : Int32} {m m2 : sh_X} {o : Outcome} {z : (Bool × sh_X)} (hQ : sh_QL279 Q d) (e : sf_315_363 Q x2 x3 x5 x6 x7 x8 x9 x10 m = some z) (tg : (sh_tZ o m2) z) : sh_Lk 315 363 [(0, .ref 67), (2, .int x2), (3, .int x3), (5, .int x5), (6, .int x6), (7, .int x7), (8, .int x8), (9, .int x9), (10, .int x10)] [] m o m2 (d + 1 + 15) (40 * (d + 1) + 385) := by
  unfold sf_315_363 at e
  exact sh_while_lk (P := fun q => sh_Lk 315 363 [(0, .ref 67), (2, .int x2), (3, .int x3), (5, .int x5), (6, .int x6), (7, .int x7), (8, .int x8), (9, .int x9), (10, .int q.1)] [] q.2 o m2 (d + 1 + 15) (40 * (d + 1) + 385)) (Q := (sh_tZ o m2)) (fun q z e tg => sl_315_363s (x2 := x2) (x3 := x3) (x5 := x5) (x6 := x6) (x7 := x7) (x8 := x8) (x9 := x9) (x10 := q.1) (m := q.2) hQ e tg) (s := (x10, m)) e tg
theorem sl_315_177s {Q : sh_Q279} {d : Nat} {x2 : Int32} {x3 : Int32} {x4 : Int32} {x5 : Int32} {x6 : Int32} {x7 : Int32} {m m2 : sh_X} {o : Outcome} {z : ((Int32 × Int32 × sh_X) ⊕ (Bool × sh_X))} (hQ : sh_QL279 Q d) (e : sf_315_177s Q x2 x3 x4 x5 x6 x7 m = some z) (tg : (sh_el (fun q => sh_Lk 315 177 [(0, .ref 67), (2, .int x2), (3, .int q.1), (4, .int x4), (5, .int x5), (6, .int x6), (7, .int q.2.1)] [] q.2.2 o m2 (d + 1 + 15) (40 * (d + 1) + 385)) (sh_tZ o m2)) z) : sh_Lk 315 177 [(0, .ref 67), (2, .int x2), (3, .int x3), (4, .int x4), (5, .int x5), (6, .int x6), (7, .int x7)] [] m o m2 (d + 1 + 15) (40 * (d + 1) + 385) := by
  unfold sf_315_177s at e
  refine sh_Lk_lift (T := m.T) (I := m.I) (J := m.J) (s := m.s) (pc2 := 179) (lv2 := [(0, .ref 67), (2, .int x2), (3, .int x3), (4, .int x4), (5, .int x5), (6, .int x6), (7, .int x7)]) (st2 := [.int x7]) (I2 := m.I) (J2 := m.J) (fun hT v kk => ?_) ?_
  · refine sh_w (i := (.iload 7)) (len := 2) (pc2 := 179) (lv2 := [(0, .ref 67), (2, .int x2), (3, .int x3), (4, .int x4), (5, .int x5), (6, .int x6), (7, .int x7)]) (st2 := [.int x7]) (h2 := (sh_rep m.T m.I m.J)) rfl rfl rfl ?_
    exact kk
  rcases sh_ite e with ⟨c, e⟩ | ⟨c, e⟩
  · refine sh_Lk_lift (T := m.T) (I := m.I) (J := m.J) (s := m.s) (pc2 := 363) (lv2 := [(10, .int 0), (9, .int (m.I 66 59)), (8, .int (m.I 66 55)), (7, .int (m.I 66 54)), (0, .ref 67), (2, .int x2), (3, .int x3), (4, .int x4), (5, .int x5), (6, .int x6)]) (st2 := []) (I2 := sh_u2 (sh_u2 (sh_u2 m.I 66 54 (m.I 66 53)) 66 55 x2) 66 59 x4) (J2 := m.J) (fun hT v kk => ?_) ?_
    · refine sh_j0 (c := .lt) (off := (144)) (pc2 := 323) true rfl (sh_Bltt c) rfl ?_
      refine sh_w (i := (.aload_n 0)) (len := 1) (pc2 := 324) (lv2 := [(0, .ref 67), (2, .int x2), (3, .int x3), (4, .int x4), (5, .int x5), (6, .int x6), (7, .int x7)]) (st2 := [.ref 67]) (h2 := (sh_rep m.T m.I m.J)) rfl rfl rfl ?_
      refine sh_gI1 (len := 3) (x := m.I 66 54) (pc2 := 327) rfl rfl (sh_s66 hT.st) rfl rfl rfl ?_
      refine sh_w (i := (.istore 7)) (len := 2) (pc2 := 329) (lv2 := [(7, .int (m.I 66 54)), (0, .ref 67), (2, .int x2), (3, .int x3), (4, .int x4), (5, .int x5), (6, .int x6)]) (st2 := []) (h2 := (sh_rep m.T m.I m.J)) rfl rfl rfl ?_
      refine sh_w (i := (.aload_n 0)) (len := 1) (pc2 := 330) (lv2 := [(7, .int (m.I 66 54)), (0, .ref 67), (2, .int x2), (3, .int x3), (4, .int x4), (5, .int x5), (6, .int x6)]) (st2 := [.ref 67]) (h2 := (sh_rep m.T m.I m.J)) rfl rfl rfl ?_
      refine sh_gI1 (len := 3) (x := m.I 66 55) (pc2 := 333) rfl rfl (sh_s66 hT.st) rfl rfl rfl ?_
      refine sh_w (i := (.istore 8)) (len := 2) (pc2 := 335) (lv2 := [(8, .int (m.I 66 55)), (7, .int (m.I 66 54)), (0, .ref 67), (2, .int x2), (3, .int x3), (4, .int x4), (5, .int x5), (6, .int x6)]) (st2 := []) (h2 := (sh_rep m.T m.I m.J)) rfl rfl rfl ?_
      refine sh_w (i := (.aload_n 0)) (len := 1) (pc2 := 336) (lv2 := [(8, .int (m.I 66 55)), (7, .int (m.I 66 54)), (0, .ref 67), (2, .int x2), (3, .int x3), (4, .int x4), (5, .int x5), (6, .int x6)]) (st2 := [.ref 67]) (h2 := (sh_rep m.T m.I m.J)) rfl rfl rfl ?_
      refine sh_gI1 (len := 3) (x := m.I 66 59) (pc2 := 339) rfl rfl (sh_s66 hT.st) rfl rfl rfl ?_
      refine sh_w (i := (.istore 9)) (len := 2) (pc2 := 341) (lv2 := [(9, .int (m.I 66 59)), (8, .int (m.I 66 55)), (7, .int (m.I 66 54)), (0, .ref 67), (2, .int x2), (3, .int x3), (4, .int x4), (5, .int x5), (6, .int x6)]) (st2 := []) (h2 := (sh_rep m.T m.I m.J)) rfl rfl rfl ?_
      refine sh_w (i := (.aload_n 0)) (len := 1) (pc2 := 342) (lv2 := [(9, .int (m.I 66 59)), (8, .int (m.I 66 55)), (7, .int (m.I 66 54)), (0, .ref 67), (2, .int x2), (3, .int x3), (4, .int x4), (5, .int x5), (6, .int x6)]) (st2 := [.ref 67]) (h2 := (sh_rep m.T m.I m.J)) rfl rfl rfl ?_
      refine sh_w (i := (.aload_n 0)) (len := 1) (pc2 := 343) (lv2 := [(9, .int (m.I 66 59)), (8, .int (m.I 66 55)), (7, .int (m.I 66 54)), (0, .ref 67), (2, .int x2), (3, .int x3), (4, .int x4), (5, .int x5), (6, .int x6)]) (st2 := [.ref 67, .ref 67]) (h2 := (sh_rep m.T m.I m.J)) rfl rfl rfl ?_
      refine sh_gI1 (len := 3) (x := m.I 66 53) (pc2 := 346) rfl rfl (sh_s66 hT.st) rfl rfl rfl ?_
      refine sh_pI1 (x := m.I 66 53) (pc2 := 349) rfl rfl (sh_s66 hT.st) rfl rfl rfl rfl ?_
      refine sh_w (i := (.aload_n 0)) (len := 1) (pc2 := 350) (lv2 := [(9, .int (m.I 66 59)), (8, .int (m.I 66 55)), (7, .int (m.I 66 54)), (0, .ref 67), (2, .int x2), (3, .int x3), (4, .int x4), (5, .int x5), (6, .int x6)]) (st2 := [.ref 67]) (h2 := (sh_rep m.T (sh_u2 m.I 66 54 (m.I 66 53)) m.J)) rfl rfl rfl ?_
      refine sh_w (i := (.iload_n 2)) (len := 1) (pc2 := 351) (lv2 := [(9, .int (m.I 66 59)), (8, .int (m.I 66 55)), (7, .int (m.I 66 54)), (0, .ref 67), (2, .int x2), (3, .int x3), (4, .int x4), (5, .int x5), (6, .int x6)]) (st2 := [.int x2, .ref 67]) (h2 := (sh_rep m.T (sh_u2 m.I 66 54 (m.I 66 53)) m.J)) rfl rfl rfl ?_
      refine sh_pI1 (x := x2) (pc2 := 354) rfl rfl (sh_s66 hT.st) rfl rfl rfl rfl ?_
      refine sh_w (i := (.aload_n 0)) (len := 1) (pc2 := 355) (lv2 := [(9, .int (m.I 66 59)), (8, .int (m.I 66 55)), (7, .int (m.I 66 54)), (0, .ref 67), (2, .int x2), (3, .int x3), (4, .int x4), (5, .int x5), (6, .int x6)]) (st2 := [.ref 67]) (h2 := (sh_rep m.T (sh_u2 (sh_u2 m.I 66 54 (m.I 66 53)) 66 55 x2) m.J)) rfl rfl rfl ?_
      refine sh_w (i := (.iload 4)) (len := 2) (pc2 := 357) (lv2 := [(9, .int (m.I 66 59)), (8, .int (m.I 66 55)), (7, .int (m.I 66 54)), (0, .ref 67), (2, .int x2), (3, .int x3), (4, .int x4), (5, .int x5), (6, .int x6)]) (st2 := [.int x4, .ref 67]) (h2 := (sh_rep m.T (sh_u2 (sh_u2 m.I 66 54 (m.I 66 53)) 66 55 x2) m.J)) rfl rfl rfl ?_
      refine sh_pI1 (x := x4) (pc2 := 360) rfl rfl (sh_s66 hT.st) rfl rfl rfl rfl ?_
      refine sh_w (i := (.iconst 0)) (len := 1) (pc2 := 361) (lv2 := [(9, .int (m.I 66 59)), (8, .int (m.I 66 55)), (7, .int (m.I 66 54)), (0, .ref 67), (2, .int x2), (3, .int x3), (4, .int x4), (5, .int x5), (6, .int x6)]) (st2 := [.int 0]) (h2 := (sh_rep m.T (sh_u2 (sh_u2 (sh_u2 m.I 66 54 (m.I 66 53)) 66 55 x2) 66 59 x4) m.J)) rfl rfl rfl ?_
      refine sh_w (i := (.istore 10)) (len := 2) (pc2 := 363) (lv2 := [(10, .int 0), (9, .int (m.I 66 59)), (8, .int (m.I 66 55)), (7, .int (m.I 66 54)), (0, .ref 67), (2, .int x2), (3, .int x3), (4, .int x4), (5, .int x5), (6, .int x6)]) (st2 := []) (h2 := (sh_rep m.T (sh_u2 (sh_u2 (sh_u2 m.I 66 54 (m.I 66 53)) 66 55 x2) 66 59 x4) m.J)) rfl rfl rfl ?_
      exact kk
    obtain ⟨_, eu, rfl⟩ := sh_up_e e
    exact sh_Lk_sub (sh_sub_c rfl (sh_sub_c rfl (sh_sub_c rfl (sh_sub_c rfl (sh_sub_c rfl (sh_sub_c rfl (sh_sub_c rfl (sh_sub_c rfl (sh_sub_c rfl (sh_sub_n)))))))))) (sl_315_363 hQ eu tg)
  · refine sh_Lk_lift (T := m.T) (I := m.I) (J := m.J) (s := m.s) (pc2 := 193) (lv2 := [(0, .ref 67), (2, .int x2), (3, .int x3), (4, .int x4), (5, .int x5), (6, .int x6), (7, .int x7)]) (st2 := [.int ((8 * x2) + x3), .ref 83, .ref 67]) (I2 := m.I) (J2 := m.J) (fun hT v kk => ?_) ?_
    · refine sh_j0 (c := .lt) (off := (144)) (pc2 := 182) false rfl (sh_Bltf c) rfl ?_
      refine sh_w (i := (.aload_n 0)) (len := 1) (pc2 := 183) (lv2 := [(0, .ref 67), (2, .int x2), (3, .int x3), (4, .int x4), (5, .int x5), (6, .int x6), (7, .int x7)]) (st2 := [.ref 67]) (h2 := (sh_rep m.T m.I m.J)) rfl rfl rfl ?_
      refine sh_w (i := (.aload_n 0)) (len := 1) (pc2 := 184) (lv2 := [(0, .ref 67), (2, .int x2), (3, .int x3), (4, .int x4), (5, .int x5), (6, .int x6), (7, .int x7)]) (st2 := [.ref 67, .ref 67]) (h2 := (sh_rep m.T m.I m.J)) rfl rfl rfl ?_
      refine sh_gR1 (len := 3) (x := .ref 83) (pc2 := 187) rfl rfl (sh_s66 hT.st) rfl rfl ?_
      refine sh_w (i := (.bipush 8)) (len := 2) (pc2 := 189) (lv2 := [(0, .ref 67), (2, .int x2), (3, .int x3), (4, .int x4), (5, .int x5), (6, .int x6), (7, .int x7)]) (st2 := [.int 8, .ref 83, .ref 67]) (h2 := (sh_rep m.T m.I m.J)) rfl rfl rfl ?_
      refine sh_w (i := (.iload_n 2)) (len := 1) (pc2 := 190) (lv2 := [(0, .ref 67), (2, .int x2), (3, .int x3), (4, .int x4), (5, .int x5), (6, .int x6), (7, .int x7)]) (st2 := [.int x2, .int 8, .ref 83, .ref 67]) (h2 := (sh_rep m.T m.I m.J)) rfl rfl rfl ?_
      refine sh_w (i := .imul) (len := 1) (pc2 := 191) (lv2 := [(0, .ref 67), (2, .int x2), (3, .int x3), (4, .int x4), (5, .int x5), (6, .int x6), (7, .int x7)]) (st2 := [.int (8 * x2), .ref 83, .ref 67]) (h2 := (sh_rep m.T m.I m.J)) rfl rfl rfl ?_
      refine sh_w (i := (.iload_n 3)) (len := 1) (pc2 := 192) (lv2 := [(0, .ref 67), (2, .int x2), (3, .int x3), (4, .int x4), (5, .int x5), (6, .int x6), (7, .int x7)]) (st2 := [.int x3, .int (8 * x2), .ref 83, .ref 67]) (h2 := (sh_rep m.T m.I m.J)) rfl rfl rfl ?_
      refine sh_w (i := .iadd) (len := 1) (pc2 := 193) (lv2 := [(0, .ref 67), (2, .int x2), (3, .int x3), (4, .int x4), (5, .int x5), (6, .int x6), (7, .int x7)]) (st2 := [.int ((8 * x2) + x3), .ref 83, .ref 67]) (h2 := (sh_rep m.T m.I m.J)) rfl rfl rfl ?_
      exact kk
    obtain ⟨c, e⟩ := sh_gd e
    refine sh_Lk_lift (T := m.T) (I := m.I) (J := m.J) (s := m.s) (pc2 := 194) (lv2 := [(0, .ref 67), (2, .int x2), (3, .int x3), (4, .int x4), (5, .int x5), (6, .int x6), (7, .int x7)]) (st2 := [.int (m.I 82 (Int32.toNatClampNeg ((8 * x2) + x3))), .ref 67]) (I2 := m.I) (J2 := m.J) (fun hT v kk => ?_) ?_
    · refine sh_ia1 (x := m.I 82 (Int32.toNatClampNeg ((8 * x2) + x3))) (pc2 := 194) rfl (sh_s82 hT.st) (sh_okb1 c) (sh_okb2 c) rfl rfl ?_
      exact kk
    obtain ⟨r1, e1, e⟩ := sh_bc_e e
    refine sh_Lk_cV (r := (some (.int r1))) (st2 := [.int r1]) (pc2 := 197) (k2 := 285) (a := 66) (as := [.ref 67, .int (m.I 82 (Int32.toNatClampNeg ((8 * x2) + x3)))]) (rest := []) rfl rfl rfl (fun hT => (sh_s66 hT.st)) rfl rfl ⟨Nat.le_of_ble_eq_true rfl, Nat.le_of_ble_eq_true rfl⟩ (sl_285 e1 ⟨rfl, rfl⟩) rfl rfl (show 8 + 1 ≤ d + 1 + 15 by omega) (show 8 + (5 + 11) + (200) ≤ 40 * (d + 1) + 385 by omega) ?_
    refine sh_Lk_lift (T := m.T) (I := m.I) (J := m.J) (s := m.s) (pc2 := 202) (lv2 := [(8, .int r1), (0, .ref 67), (2, .int x2), (3, .int x3), (4, .int x4), (5, .int x5), (6, .int x6), (7, .int x7)]) (st2 := [.int x7, .ref 67]) (I2 := m.I) (J2 := m.J) (fun hT v kk => ?_) ?_
    · refine sh_w (i := (.istore 8)) (len := 2) (pc2 := 199) (lv2 := [(8, .int r1), (0, .ref 67), (2, .int x2), (3, .int x3), (4, .int x4), (5, .int x5), (6, .int x6), (7, .int x7)]) (st2 := []) (h2 := (sh_rep m.T m.I m.J)) rfl rfl rfl ?_
      refine sh_w (i := (.aload_n 0)) (len := 1) (pc2 := 200) (lv2 := [(8, .int r1), (0, .ref 67), (2, .int x2), (3, .int x3), (4, .int x4), (5, .int x5), (6, .int x6), (7, .int x7)]) (st2 := [.ref 67]) (h2 := (sh_rep m.T m.I m.J)) rfl rfl rfl ?_
      refine sh_w (i := (.iload 7)) (len := 2) (pc2 := 202) (lv2 := [(8, .int r1), (0, .ref 67), (2, .int x2), (3, .int x3), (4, .int x4), (5, .int x5), (6, .int x6), (7, .int x7)]) (st2 := [.int x7, .ref 67]) (h2 := (sh_rep m.T m.I m.J)) rfl rfl rfl ?_
      exact kk
    obtain ⟨r2, m12, e2, e⟩ := sh_bn_e e
    refine sh_Lk_cV (r := (some (.int (sh_b2 r2)))) (st2 := [.int (sh_b2 r2)]) (pc2 := 205) (k2 := 294) (a := 66) (as := [.ref 67, .int x7]) (rest := []) rfl rfl rfl (fun hT => (sh_s66 hT.st)) rfl rfl ⟨Nat.le_of_ble_eq_true rfl, Nat.le_of_ble_eq_true rfl⟩ (hQ.f294 e2 ⟨rfl, rfl⟩) rfl rfl (show d + 15 + 1 ≤ d + 1 + 15 by omega) (show 8 + (5 + 11) + (40 * d + 385) ≤ 40 * (d + 1) + 385 by omega) ?_
    rcases sh_ite e with ⟨c, e⟩ | ⟨c, e⟩
    · refine sh_Lk_lift (T := m12.T) (I := m12.I) (J := m12.J) (s := m12.s) (pc2 := 234) (lv2 := [(8, .int r1), (0, .ref 67), (2, .int x2), (3, .int x3), (4, .int x4), (5, .int x5), (6, .int x6), (7, .int x7)]) (st2 := [.int ((8 * x2) + x3), .ref 84, .ref 67, .int ((r1 - r1 / 64 * 64) + 1), .int (r1 / 64), .int x7, .ref 67]) (I2 := m12.I) (J2 := m12.J) (fun hT v kk => ?_) ?_
      · refine sh_j0 (c := .eq) (off := (39)) (pc2 := 208) false rfl (sh_Zeqf c) rfl ?_
        refine sh_w (i := (.aload_n 0)) (len := 1) (pc2 := 209) (lv2 := [(8, .int r1), (0, .ref 67), (2, .int x2), (3, .int x3), (4, .int x4), (5, .int x5), (6, .int x6), (7, .int x7)]) (st2 := [.ref 67]) (h2 := (sh_rep m12.T m12.I m12.J)) rfl rfl rfl ?_
        refine sh_w (i := (.iload 7)) (len := 2) (pc2 := 211) (lv2 := [(8, .int r1), (0, .ref 67), (2, .int x2), (3, .int x3), (4, .int x4), (5, .int x5), (6, .int x6), (7, .int x7)]) (st2 := [.int x7, .ref 67]) (h2 := (sh_rep m12.T m12.I m12.J)) rfl rfl rfl ?_
        refine sh_w (i := (.iload 8)) (len := 2) (pc2 := 213) (lv2 := [(8, .int r1), (0, .ref 67), (2, .int x2), (3, .int x3), (4, .int x4), (5, .int x5), (6, .int x6), (7, .int x7)]) (st2 := [.int r1, .int x7, .ref 67]) (h2 := (sh_rep m12.T m12.I m12.J)) rfl rfl rfl ?_
        refine sh_w (i := (.bipush 64)) (len := 2) (pc2 := 215) (lv2 := [(8, .int r1), (0, .ref 67), (2, .int x2), (3, .int x3), (4, .int x4), (5, .int x5), (6, .int x6), (7, .int x7)]) (st2 := [.int 64, .int r1, .int x7, .ref 67]) (h2 := (sh_rep m12.T m12.I m12.J)) rfl rfl rfl ?_
        refine sh_w (i := .idiv) (len := 1) (pc2 := 216) (lv2 := [(8, .int r1), (0, .ref 67), (2, .int x2), (3, .int x3), (4, .int x4), (5, .int x5), (6, .int x6), (7, .int x7)]) (st2 := [.int (r1 / 64), .int x7, .ref 67]) (h2 := (sh_rep m12.T m12.I m12.J)) rfl rfl rfl ?_
        refine sh_w (i := (.iload 8)) (len := 2) (pc2 := 218) (lv2 := [(8, .int r1), (0, .ref 67), (2, .int x2), (3, .int x3), (4, .int x4), (5, .int x5), (6, .int x6), (7, .int x7)]) (st2 := [.int r1, .int (r1 / 64), .int x7, .ref 67]) (h2 := (sh_rep m12.T m12.I m12.J)) rfl rfl rfl ?_
        refine sh_w (i := (.bipush 64)) (len := 2) (pc2 := 220) (lv2 := [(8, .int r1), (0, .ref 67), (2, .int x2), (3, .int x3), (4, .int x4), (5, .int x5), (6, .int x6), (7, .int x7)]) (st2 := [.int 64, .int r1, .int (r1 / 64), .int x7, .ref 67]) (h2 := (sh_rep m12.T m12.I m12.J)) rfl rfl rfl ?_
        refine sh_w (i := .irem) (len := 1) (pc2 := 221) (lv2 := [(8, .int r1), (0, .ref 67), (2, .int x2), (3, .int x3), (4, .int x4), (5, .int x5), (6, .int x6), (7, .int x7)]) (st2 := [.int (r1 - r1 / 64 * 64), .int (r1 / 64), .int x7, .ref 67]) (h2 := (sh_rep m12.T m12.I m12.J)) rfl rfl rfl ?_
        refine sh_w (i := (.iconst 1)) (len := 1) (pc2 := 222) (lv2 := [(8, .int r1), (0, .ref 67), (2, .int x2), (3, .int x3), (4, .int x4), (5, .int x5), (6, .int x6), (7, .int x7)]) (st2 := [.int 1, .int (r1 - r1 / 64 * 64), .int (r1 / 64), .int x7, .ref 67]) (h2 := (sh_rep m12.T m12.I m12.J)) rfl rfl rfl ?_
        refine sh_w (i := .iadd) (len := 1) (pc2 := 223) (lv2 := [(8, .int r1), (0, .ref 67), (2, .int x2), (3, .int x3), (4, .int x4), (5, .int x5), (6, .int x6), (7, .int x7)]) (st2 := [.int ((r1 - r1 / 64 * 64) + 1), .int (r1 / 64), .int x7, .ref 67]) (h2 := (sh_rep m12.T m12.I m12.J)) rfl rfl rfl ?_
        refine sh_w (i := (.aload_n 0)) (len := 1) (pc2 := 224) (lv2 := [(8, .int r1), (0, .ref 67), (2, .int x2), (3, .int x3), (4, .int x4), (5, .int x5), (6, .int x6), (7, .int x7)]) (st2 := [.ref 67, .int ((r1 - r1 / 64 * 64) + 1), .int (r1 / 64), .int x7, .ref 67]) (h2 := (sh_rep m12.T m12.I m12.J)) rfl rfl rfl ?_
        refine sh_w (i := (.aload_n 0)) (len := 1) (pc2 := 225) (lv2 := [(8, .int r1), (0, .ref 67), (2, .int x2), (3, .int x3), (4, .int x4), (5, .int x5), (6, .int x6), (7, .int x7)]) (st2 := [.ref 67, .ref 67, .int ((r1 - r1 / 64 * 64) + 1), .int (r1 / 64), .int x7, .ref 67]) (h2 := (sh_rep m12.T m12.I m12.J)) rfl rfl rfl ?_
        refine sh_gR1 (len := 3) (x := .ref 84) (pc2 := 228) rfl rfl (sh_s66 hT.st) rfl rfl ?_
        refine sh_w (i := (.bipush 8)) (len := 2) (pc2 := 230) (lv2 := [(8, .int r1), (0, .ref 67), (2, .int x2), (3, .int x3), (4, .int x4), (5, .int x5), (6, .int x6), (7, .int x7)]) (st2 := [.int 8, .ref 84, .ref 67, .int ((r1 - r1 / 64 * 64) + 1), .int (r1 / 64), .int x7, .ref 67]) (h2 := (sh_rep m12.T m12.I m12.J)) rfl rfl rfl ?_
        refine sh_w (i := (.iload_n 2)) (len := 1) (pc2 := 231) (lv2 := [(8, .int r1), (0, .ref 67), (2, .int x2), (3, .int x3), (4, .int x4), (5, .int x5), (6, .int x6), (7, .int x7)]) (st2 := [.int x2, .int 8, .ref 84, .ref 67, .int ((r1 - r1 / 64 * 64) + 1), .int (r1 / 64), .int x7, .ref 67]) (h2 := (sh_rep m12.T m12.I m12.J)) rfl rfl rfl ?_
        refine sh_w (i := .imul) (len := 1) (pc2 := 232) (lv2 := [(8, .int r1), (0, .ref 67), (2, .int x2), (3, .int x3), (4, .int x4), (5, .int x5), (6, .int x6), (7, .int x7)]) (st2 := [.int (8 * x2), .ref 84, .ref 67, .int ((r1 - r1 / 64 * 64) + 1), .int (r1 / 64), .int x7, .ref 67]) (h2 := (sh_rep m12.T m12.I m12.J)) rfl rfl rfl ?_
        refine sh_w (i := (.iload_n 3)) (len := 1) (pc2 := 233) (lv2 := [(8, .int r1), (0, .ref 67), (2, .int x2), (3, .int x3), (4, .int x4), (5, .int x5), (6, .int x6), (7, .int x7)]) (st2 := [.int x3, .int (8 * x2), .ref 84, .ref 67, .int ((r1 - r1 / 64 * 64) + 1), .int (r1 / 64), .int x7, .ref 67]) (h2 := (sh_rep m12.T m12.I m12.J)) rfl rfl rfl ?_
        refine sh_w (i := .iadd) (len := 1) (pc2 := 234) (lv2 := [(8, .int r1), (0, .ref 67), (2, .int x2), (3, .int x3), (4, .int x4), (5, .int x5), (6, .int x6), (7, .int x7)]) (st2 := [.int ((8 * x2) + x3), .ref 84, .ref 67, .int ((r1 - r1 / 64 * 64) + 1), .int (r1 / 64), .int x7, .ref 67]) (h2 := (sh_rep m12.T m12.I m12.J)) rfl rfl rfl ?_
        exact kk
      obtain ⟨c, e⟩ := sh_gd e
      refine sh_Lk_lift (T := m12.T) (I := m12.I) (J := m12.J) (s := m12.s) (pc2 := 235) (lv2 := [(8, .int r1), (0, .ref 67), (2, .int x2), (3, .int x3), (4, .int x4), (5, .int x5), (6, .int x6), (7, .int x7)]) (st2 := [.int (m12.I 83 (Int32.toNatClampNeg ((8 * x2) + x3))), .ref 67, .int ((r1 - r1 / 64 * 64) + 1), .int (r1 / 64), .int x7, .ref 67]) (I2 := m12.I) (J2 := m12.J) (fun hT v kk => ?_) ?_
      · refine sh_ia1 (x := m12.I 83 (Int32.toNatClampNeg ((8 * x2) + x3))) (pc2 := 235) rfl (sh_s83 hT.st) (sh_okb1 c) (sh_okb2 c) rfl rfl ?_
        exact kk
      obtain ⟨r3, e3, e⟩ := sh_bc_e e
      refine sh_Lk_cV (r := (some (.int r3))) (st2 := [.int r3, .int ((r1 - r1 / 64 * 64) + 1), .int (r1 / 64), .int x7, .ref 67]) (pc2 := 238) (k2 := 286) (a := 66) (as := [.ref 67, .int (m12.I 83 (Int32.toNatClampNeg ((8 * x2) + x3)))]) (rest := [.int ((r1 - r1 / 64 * 64) + 1), .int (r1 / 64), .int x7, .ref 67]) rfl rfl rfl (fun hT => (sh_s66 hT.st)) rfl rfl ⟨Nat.le_of_ble_eq_true rfl, Nat.le_of_ble_eq_true rfl⟩ (sl_286 e3 ⟨rfl, rfl⟩) rfl rfl (show 9 + 1 ≤ d + 1 + 15 by omega) (show 8 + (2 + 11) + (224) ≤ 40 * (d + 1) + 385 by omega) ?_
      obtain ⟨r4, m14, e4, e⟩ := sh_bn_e e
      refine sh_Lk_cV (r := (some (.int (sh_b2 r4)))) (st2 := [.int (sh_b2 r4)]) (pc2 := 241) (k2 := 317) (a := 66) (as := [.ref 67, .int x7, .int (r1 / 64), .int ((r1 - r1 / 64 * 64) + 1), .int r3]) (rest := []) rfl rfl rfl (fun hT => (sh_s66 hT.st)) rfl rfl ⟨Nat.le_of_ble_eq_true rfl, Nat.le_of_ble_eq_true rfl⟩ (sl_317 e4 ⟨rfl, rfl⟩) rfl rfl (show 11 + 1 ≤ d + 1 + 15 by omega) (show 8 + (5 + 11) + (268) ≤ 40 * (d + 1) + 385 by omega) ?_
      rcases sh_ite e with ⟨c, e⟩ | ⟨c, e⟩
      · refine sh_Lk_lift (T := m14.T) (I := m14.I) (J := m14.J) (s := m14.s) (pc2 := 258) (lv2 := [(8, .int r1), (0, .ref 67), (2, .int x2), (3, .int x3), (4, .int x4), (5, .int x5), (6, .int x6), (7, .int x7)]) (st2 := [.int (m14.I 66 43), .int (m14.I 66 79), .ref 113]) (I2 := m14.I) (J2 := m14.J) (fun hT v kk => ?_) ?_
        · refine sh_j0 (c := .ne) (off := (5)) (pc2 := 246) true rfl (sh_Znet c) rfl ?_
          refine sh_w (i := (.aload_n 0)) (len := 1) (pc2 := 247) (lv2 := [(8, .int r1), (0, .ref 67), (2, .int x2), (3, .int x3), (4, .int x4), (5, .int x5), (6, .int x6), (7, .int x7)]) (st2 := [.ref 67]) (h2 := (sh_rep m14.T m14.I m14.J)) rfl rfl rfl ?_
          refine sh_gR1 (len := 3) (x := .ref 113) (pc2 := 250) rfl rfl (sh_s66 hT.st) rfl rfl ?_
          refine sh_w (i := (.aload_n 0)) (len := 1) (pc2 := 251) (lv2 := [(8, .int r1), (0, .ref 67), (2, .int x2), (3, .int x3), (4, .int x4), (5, .int x5), (6, .int x6), (7, .int x7)]) (st2 := [.ref 67, .ref 113]) (h2 := (sh_rep m14.T m14.I m14.J)) rfl rfl rfl ?_
          refine sh_gI1 (len := 3) (x := m14.I 66 79) (pc2 := 254) rfl rfl (sh_s66 hT.st) rfl rfl rfl ?_
          refine sh_w (i := (.aload_n 0)) (len := 1) (pc2 := 255) (lv2 := [(8, .int r1), (0, .ref 67), (2, .int x2), (3, .int x3), (4, .int x4), (5, .int x5), (6, .int x6), (7, .int x7)]) (st2 := [.ref 67, .int (m14.I 66 79), .ref 113]) (h2 := (sh_rep m14.T m14.I m14.J)) rfl rfl rfl ?_
          refine sh_gI1 (len := 3) (x := m14.I 66 43) (pc2 := 258) rfl rfl (sh_s66 hT.st) rfl rfl rfl ?_
          exact kk
        obtain ⟨c, e⟩ := sh_gd e
        refine sh_Lk_lift (T := m14.T) (I := m14.I) (J := m14.J) (s := m14.s) (pc2 := 271) (lv2 := [(8, .int r1), (0, .ref 67), (2, .int x2), (3, .int x3), (4, .int x4), (5, .int x5), (6, .int x6), (7, .int x7)]) (st2 := [.int (m14.I 66 44), .int (m14.I 66 79), .ref 114]) (I2 := sh_u2 m14.I 112 (Int32.toNatClampNeg (m14.I 66 79)) (m14.I 66 43)) (J2 := m14.J) (fun hT v kk => ?_) ?_
        · refine sh_is1 (x := m14.I 66 43) (i := m14.I 66 79) (pc2 := 259) rfl (sh_s112 hT.st) (sh_okb1 c) (sh_okb2 c) rfl ?_
          refine sh_w (i := (.aload_n 0)) (len := 1) (pc2 := 260) (lv2 := [(8, .int r1), (0, .ref 67), (2, .int x2), (3, .int x3), (4, .int x4), (5, .int x5), (6, .int x6), (7, .int x7)]) (st2 := [.ref 67]) (h2 := (sh_rep m14.T (sh_u2 m14.I 112 (Int32.toNatClampNeg (m14.I 66 79)) (m14.I 66 43)) m14.J)) rfl rfl rfl ?_
          refine sh_gR1 (len := 3) (x := .ref 114) (pc2 := 263) rfl rfl (sh_s66 hT.st) rfl rfl ?_
          refine sh_w (i := (.aload_n 0)) (len := 1) (pc2 := 264) (lv2 := [(8, .int r1), (0, .ref 67), (2, .int x2), (3, .int x3), (4, .int x4), (5, .int x5), (6, .int x6), (7, .int x7)]) (st2 := [.ref 67, .ref 114]) (h2 := (sh_rep m14.T (sh_u2 m14.I 112 (Int32.toNatClampNeg (m14.I 66 79)) (m14.I 66 43)) m14.J)) rfl rfl rfl ?_
          refine sh_gI1 (len := 3) (x := m14.I 66 79) (pc2 := 267) rfl rfl (sh_s66 hT.st) rfl rfl rfl ?_
          refine sh_w (i := (.aload_n 0)) (len := 1) (pc2 := 268) (lv2 := [(8, .int r1), (0, .ref 67), (2, .int x2), (3, .int x3), (4, .int x4), (5, .int x5), (6, .int x6), (7, .int x7)]) (st2 := [.ref 67, .int (m14.I 66 79), .ref 114]) (h2 := (sh_rep m14.T (sh_u2 m14.I 112 (Int32.toNatClampNeg (m14.I 66 79)) (m14.I 66 43)) m14.J)) rfl rfl rfl ?_
          refine sh_gI1 (len := 3) (x := m14.I 66 44) (pc2 := 271) rfl rfl (sh_s66 hT.st) rfl rfl rfl ?_
          exact kk
        obtain ⟨c, e⟩ := sh_gd e
        refine sh_Lk_lift (T := m14.T) (I := sh_u2 m14.I 112 (Int32.toNatClampNeg (m14.I 66 79)) (m14.I 66 43)) (J := m14.J) (s := m14.s) (pc2 := 284) (lv2 := [(8, .int r1), (0, .ref 67), (2, .int x2), (3, .int x3), (4, .int x4), (5, .int x5), (6, .int x6), (7, .int x7)]) (st2 := [.int (m14.I 66 45), .int (m14.I 66 79), .ref 115]) (I2 := sh_u2 (sh_u2 m14.I 112 (Int32.toNatClampNeg (m14.I 66 79)) (m14.I 66 43)) 113 (Int32.toNatClampNeg (m14.I 66 79)) (m14.I 66 44)) (J2 := m14.J) (fun hT v kk => ?_) ?_
        · refine sh_is1 (x := m14.I 66 44) (i := m14.I 66 79) (pc2 := 272) rfl (sh_s113 hT.st) (sh_okb1 c) (sh_okb2 c) rfl ?_
          refine sh_w (i := (.aload_n 0)) (len := 1) (pc2 := 273) (lv2 := [(8, .int r1), (0, .ref 67), (2, .int x2), (3, .int x3), (4, .int x4), (5, .int x5), (6, .int x6), (7, .int x7)]) (st2 := [.ref 67]) (h2 := (sh_rep m14.T (sh_u2 (sh_u2 m14.I 112 (Int32.toNatClampNeg (m14.I 66 79)) (m14.I 66 43)) 113 (Int32.toNatClampNeg (m14.I 66 79)) (m14.I 66 44)) m14.J)) rfl rfl rfl ?_
          refine sh_gR1 (len := 3) (x := .ref 115) (pc2 := 276) rfl rfl (sh_s66 hT.st) rfl rfl ?_
          refine sh_w (i := (.aload_n 0)) (len := 1) (pc2 := 277) (lv2 := [(8, .int r1), (0, .ref 67), (2, .int x2), (3, .int x3), (4, .int x4), (5, .int x5), (6, .int x6), (7, .int x7)]) (st2 := [.ref 67, .ref 115]) (h2 := (sh_rep m14.T (sh_u2 (sh_u2 m14.I 112 (Int32.toNatClampNeg (m14.I 66 79)) (m14.I 66 43)) 113 (Int32.toNatClampNeg (m14.I 66 79)) (m14.I 66 44)) m14.J)) rfl rfl rfl ?_
          refine sh_gI1 (len := 3) (x := m14.I 66 79) (pc2 := 280) rfl rfl (sh_s66 hT.st) rfl rfl rfl ?_
          refine sh_w (i := (.aload_n 0)) (len := 1) (pc2 := 281) (lv2 := [(8, .int r1), (0, .ref 67), (2, .int x2), (3, .int x3), (4, .int x4), (5, .int x5), (6, .int x6), (7, .int x7)]) (st2 := [.ref 67, .int (m14.I 66 79), .ref 115]) (h2 := (sh_rep m14.T (sh_u2 (sh_u2 m14.I 112 (Int32.toNatClampNeg (m14.I 66 79)) (m14.I 66 43)) 113 (Int32.toNatClampNeg (m14.I 66 79)) (m14.I 66 44)) m14.J)) rfl rfl rfl ?_
          refine sh_gI1 (len := 3) (x := m14.I 66 45) (pc2 := 284) rfl rfl (sh_s66 hT.st) rfl rfl rfl ?_
          exact kk
        obtain ⟨c, e⟩ := sh_gd e
        refine sh_Lk_lift (T := m14.T) (I := sh_u2 (sh_u2 m14.I 112 (Int32.toNatClampNeg (m14.I 66 79)) (m14.I 66 43)) 113 (Int32.toNatClampNeg (m14.I 66 79)) (m14.I 66 44)) (J := m14.J) (s := m14.s) (pc2 := 297) (lv2 := [(8, .int r1), (0, .ref 67), (2, .int x2), (3, .int x3), (4, .int x4), (5, .int x5), (6, .int x6), (7, .int x7)]) (st2 := [.long (m14.J 66 46), .int (m14.I 66 79), .ref 116]) (I2 := sh_u2 (sh_u2 (sh_u2 m14.I 112 (Int32.toNatClampNeg (m14.I 66 79)) (m14.I 66 43)) 113 (Int32.toNatClampNeg (m14.I 66 79)) (m14.I 66 44)) 114 (Int32.toNatClampNeg (m14.I 66 79)) (m14.I 66 45)) (J2 := m14.J) (fun hT v kk => ?_) ?_
        · refine sh_is1 (x := m14.I 66 45) (i := m14.I 66 79) (pc2 := 285) rfl (sh_s114 hT.st) (sh_okb1 c) (sh_okb2 c) rfl ?_
          refine sh_w (i := (.aload_n 0)) (len := 1) (pc2 := 286) (lv2 := [(8, .int r1), (0, .ref 67), (2, .int x2), (3, .int x3), (4, .int x4), (5, .int x5), (6, .int x6), (7, .int x7)]) (st2 := [.ref 67]) (h2 := (sh_rep m14.T (sh_u2 (sh_u2 (sh_u2 m14.I 112 (Int32.toNatClampNeg (m14.I 66 79)) (m14.I 66 43)) 113 (Int32.toNatClampNeg (m14.I 66 79)) (m14.I 66 44)) 114 (Int32.toNatClampNeg (m14.I 66 79)) (m14.I 66 45)) m14.J)) rfl rfl rfl ?_
          refine sh_gR1 (len := 3) (x := .ref 116) (pc2 := 289) rfl rfl (sh_s66 hT.st) rfl rfl ?_
          refine sh_w (i := (.aload_n 0)) (len := 1) (pc2 := 290) (lv2 := [(8, .int r1), (0, .ref 67), (2, .int x2), (3, .int x3), (4, .int x4), (5, .int x5), (6, .int x6), (7, .int x7)]) (st2 := [.ref 67, .ref 116]) (h2 := (sh_rep m14.T (sh_u2 (sh_u2 (sh_u2 m14.I 112 (Int32.toNatClampNeg (m14.I 66 79)) (m14.I 66 43)) 113 (Int32.toNatClampNeg (m14.I 66 79)) (m14.I 66 44)) 114 (Int32.toNatClampNeg (m14.I 66 79)) (m14.I 66 45)) m14.J)) rfl rfl rfl ?_
          refine sh_gI1 (len := 3) (x := m14.I 66 79) (pc2 := 293) rfl rfl (sh_s66 hT.st) rfl rfl rfl ?_
          refine sh_w (i := (.aload_n 0)) (len := 1) (pc2 := 294) (lv2 := [(8, .int r1), (0, .ref 67), (2, .int x2), (3, .int x3), (4, .int x4), (5, .int x5), (6, .int x6), (7, .int x7)]) (st2 := [.ref 67, .int (m14.I 66 79), .ref 116]) (h2 := (sh_rep m14.T (sh_u2 (sh_u2 (sh_u2 m14.I 112 (Int32.toNatClampNeg (m14.I 66 79)) (m14.I 66 43)) 113 (Int32.toNatClampNeg (m14.I 66 79)) (m14.I 66 44)) 114 (Int32.toNatClampNeg (m14.I 66 79)) (m14.I 66 45)) m14.J)) rfl rfl rfl ?_
          refine sh_gJ1 (len := 3) (x := m14.J 66 46) (pc2 := 297) rfl rfl (sh_s66 hT.st) rfl rfl rfl ?_
          exact kk
        obtain ⟨c, e⟩ := sh_gd e
        refine sh_Lk_lift (T := m14.T) (I := sh_u2 (sh_u2 (sh_u2 m14.I 112 (Int32.toNatClampNeg (m14.I 66 79)) (m14.I 66 43)) 113 (Int32.toNatClampNeg (m14.I 66 79)) (m14.I 66 44)) 114 (Int32.toNatClampNeg (m14.I 66 79)) (m14.I 66 45)) (J := m14.J) (s := m14.s) (pc2 := 317) (lv2 := [(3, .int (x3 + 1)), (8, .int r1), (0, .ref 67), (2, .int x2), (4, .int x4), (5, .int x5), (6, .int x6), (7, .int x7)]) (st2 := [.int x7, .ref 78]) (I2 := sh_u2 (sh_u2 (sh_u2 (sh_u2 m14.I 112 (Int32.toNatClampNeg (m14.I 66 79)) (m14.I 66 43)) 113 (Int32.toNatClampNeg (m14.I 66 79)) (m14.I 66 44)) 114 (Int32.toNatClampNeg (m14.I 66 79)) (m14.I 66 45)) 66 79 ((m14.I 66 79) + 1)) (J2 := sh_u2 m14.J 115 (Int32.toNatClampNeg (m14.I 66 79)) (m14.J 66 46)) (fun hT v kk => ?_) ?_
        · refine sh_ls1 (x := m14.J 66 46) (i := m14.I 66 79) (pc2 := 298) rfl (sh_s115 hT.st) (sh_okb1 c) (sh_okb2 c) rfl ?_
          refine sh_w (i := (.aload_n 0)) (len := 1) (pc2 := 299) (lv2 := [(8, .int r1), (0, .ref 67), (2, .int x2), (3, .int x3), (4, .int x4), (5, .int x5), (6, .int x6), (7, .int x7)]) (st2 := [.ref 67]) (h2 := (sh_rep m14.T (sh_u2 (sh_u2 (sh_u2 m14.I 112 (Int32.toNatClampNeg (m14.I 66 79)) (m14.I 66 43)) 113 (Int32.toNatClampNeg (m14.I 66 79)) (m14.I 66 44)) 114 (Int32.toNatClampNeg (m14.I 66 79)) (m14.I 66 45)) (sh_u2 m14.J 115 (Int32.toNatClampNeg (m14.I 66 79)) (m14.J 66 46)))) rfl rfl rfl ?_
          refine sh_w (i := .dup) (len := 1) (pc2 := 300) (lv2 := [(8, .int r1), (0, .ref 67), (2, .int x2), (3, .int x3), (4, .int x4), (5, .int x5), (6, .int x6), (7, .int x7)]) (st2 := [.ref 67, .ref 67]) (h2 := (sh_rep m14.T (sh_u2 (sh_u2 (sh_u2 m14.I 112 (Int32.toNatClampNeg (m14.I 66 79)) (m14.I 66 43)) 113 (Int32.toNatClampNeg (m14.I 66 79)) (m14.I 66 44)) 114 (Int32.toNatClampNeg (m14.I 66 79)) (m14.I 66 45)) (sh_u2 m14.J 115 (Int32.toNatClampNeg (m14.I 66 79)) (m14.J 66 46)))) rfl rfl rfl ?_
          refine sh_gI1 (len := 3) (x := m14.I 66 79) (pc2 := 303) rfl rfl (sh_s66 hT.st) rfl rfl rfl ?_
          refine sh_w (i := (.iconst 1)) (len := 1) (pc2 := 304) (lv2 := [(8, .int r1), (0, .ref 67), (2, .int x2), (3, .int x3), (4, .int x4), (5, .int x5), (6, .int x6), (7, .int x7)]) (st2 := [.int 1, .int (m14.I 66 79), .ref 67]) (h2 := (sh_rep m14.T (sh_u2 (sh_u2 (sh_u2 m14.I 112 (Int32.toNatClampNeg (m14.I 66 79)) (m14.I 66 43)) 113 (Int32.toNatClampNeg (m14.I 66 79)) (m14.I 66 44)) 114 (Int32.toNatClampNeg (m14.I 66 79)) (m14.I 66 45)) (sh_u2 m14.J 115 (Int32.toNatClampNeg (m14.I 66 79)) (m14.J 66 46)))) rfl rfl rfl ?_
          refine sh_w (i := .iadd) (len := 1) (pc2 := 305) (lv2 := [(8, .int r1), (0, .ref 67), (2, .int x2), (3, .int x3), (4, .int x4), (5, .int x5), (6, .int x6), (7, .int x7)]) (st2 := [.int ((m14.I 66 79) + 1), .ref 67]) (h2 := (sh_rep m14.T (sh_u2 (sh_u2 (sh_u2 m14.I 112 (Int32.toNatClampNeg (m14.I 66 79)) (m14.I 66 43)) 113 (Int32.toNatClampNeg (m14.I 66 79)) (m14.I 66 44)) 114 (Int32.toNatClampNeg (m14.I 66 79)) (m14.I 66 45)) (sh_u2 m14.J 115 (Int32.toNatClampNeg (m14.I 66 79)) (m14.J 66 46)))) rfl rfl rfl ?_
          refine sh_pI1 (x := (m14.I 66 79) + 1) (pc2 := 308) rfl rfl (sh_s66 hT.st) rfl rfl rfl rfl ?_
          refine sh_w (i := (.iinc 3 1)) (len := 3) (pc2 := 311) (lv2 := [(3, .int (x3 + 1)), (8, .int r1), (0, .ref 67), (2, .int x2), (4, .int x4), (5, .int x5), (6, .int x6), (7, .int x7)]) (st2 := []) (h2 := (sh_rep m14.T (sh_u2 (sh_u2 (sh_u2 (sh_u2 m14.I 112 (Int32.toNatClampNeg (m14.I 66 79)) (m14.I 66 43)) 113 (Int32.toNatClampNeg (m14.I 66 79)) (m14.I 66 44)) 114 (Int32.toNatClampNeg (m14.I 66 79)) (m14.I 66 45)) 66 79 ((m14.I 66 79) + 1)) (sh_u2 m14.J 115 (Int32.toNatClampNeg (m14.I 66 79)) (m14.J 66 46)))) rfl rfl rfl ?_
          refine sh_w (i := (.aload_n 0)) (len := 1) (pc2 := 312) (lv2 := [(3, .int (x3 + 1)), (8, .int r1), (0, .ref 67), (2, .int x2), (4, .int x4), (5, .int x5), (6, .int x6), (7, .int x7)]) (st2 := [.ref 67]) (h2 := (sh_rep m14.T (sh_u2 (sh_u2 (sh_u2 (sh_u2 m14.I 112 (Int32.toNatClampNeg (m14.I 66 79)) (m14.I 66 43)) 113 (Int32.toNatClampNeg (m14.I 66 79)) (m14.I 66 44)) 114 (Int32.toNatClampNeg (m14.I 66 79)) (m14.I 66 45)) 66 79 ((m14.I 66 79) + 1)) (sh_u2 m14.J 115 (Int32.toNatClampNeg (m14.I 66 79)) (m14.J 66 46)))) rfl rfl rfl ?_
          refine sh_gR1 (len := 3) (x := .ref 78) (pc2 := 315) rfl rfl (sh_s66 hT.st) rfl rfl ?_
          refine sh_w (i := (.iload 7)) (len := 2) (pc2 := 317) (lv2 := [(3, .int (x3 + 1)), (8, .int r1), (0, .ref 67), (2, .int x2), (4, .int x4), (5, .int x5), (6, .int x6), (7, .int x7)]) (st2 := [.int x7, .ref 78]) (h2 := (sh_rep m14.T (sh_u2 (sh_u2 (sh_u2 (sh_u2 m14.I 112 (Int32.toNatClampNeg (m14.I 66 79)) (m14.I 66 43)) 113 (Int32.toNatClampNeg (m14.I 66 79)) (m14.I 66 44)) 114 (Int32.toNatClampNeg (m14.I 66 79)) (m14.I 66 45)) 66 79 ((m14.I 66 79) + 1)) (sh_u2 m14.J 115 (Int32.toNatClampNeg (m14.I 66 79)) (m14.J 66 46)))) rfl rfl rfl ?_
          exact kk
        obtain ⟨c, e⟩ := sh_gd e
        refine sh_Lk_lift (T := m14.T) (I := sh_u2 (sh_u2 (sh_u2 (sh_u2 m14.I 112 (Int32.toNatClampNeg (m14.I 66 79)) (m14.I 66 43)) 113 (Int32.toNatClampNeg (m14.I 66 79)) (m14.I 66 44)) 114 (Int32.toNatClampNeg (m14.I 66 79)) (m14.I 66 45)) 66 79 ((m14.I 66 79) + 1)) (J := sh_u2 m14.J 115 (Int32.toNatClampNeg (m14.I 66 79)) (m14.J 66 46)) (s := m14.s) (pc2 := 177) (lv2 := [(7, .int (m14.I 77 (Int32.toNatClampNeg x7))), (3, .int (x3 + 1)), (8, .int r1), (0, .ref 67), (2, .int x2), (4, .int x4), (5, .int x5), (6, .int x6)]) (st2 := []) (I2 := sh_u2 (sh_u2 (sh_u2 (sh_u2 m14.I 112 (Int32.toNatClampNeg (m14.I 66 79)) (m14.I 66 43)) 113 (Int32.toNatClampNeg (m14.I 66 79)) (m14.I 66 44)) 114 (Int32.toNatClampNeg (m14.I 66 79)) (m14.I 66 45)) 66 79 ((m14.I 66 79) + 1)) (J2 := sh_u2 m14.J 115 (Int32.toNatClampNeg (m14.I 66 79)) (m14.J 66 46)) (fun hT v kk => ?_) ?_
        · refine sh_ia1 (x := m14.I 77 (Int32.toNatClampNeg x7)) (pc2 := 318) rfl (sh_s77 hT.st) (sh_okb1 c) (sh_okb2 c) rfl rfl ?_
          refine sh_w (i := (.istore 7)) (len := 2) (pc2 := 320) (lv2 := [(7, .int (m14.I 77 (Int32.toNatClampNeg x7))), (3, .int (x3 + 1)), (8, .int r1), (0, .ref 67), (2, .int x2), (4, .int x4), (5, .int x5), (6, .int x6)]) (st2 := []) (h2 := (sh_rep m14.T (sh_u2 (sh_u2 (sh_u2 (sh_u2 m14.I 112 (Int32.toNatClampNeg (m14.I 66 79)) (m14.I 66 43)) 113 (Int32.toNatClampNeg (m14.I 66 79)) (m14.I 66 44)) 114 (Int32.toNatClampNeg (m14.I 66 79)) (m14.I 66 45)) 66 79 ((m14.I 66 79) + 1)) (sh_u2 m14.J 115 (Int32.toNatClampNeg (m14.I 66 79)) (m14.J 66 46)))) rfl rfl rfl ?_
          refine sh_w (i := (.goto (-143))) (len := 3) (pc2 := 177) (lv2 := [(7, .int (m14.I 77 (Int32.toNatClampNeg x7))), (3, .int (x3 + 1)), (8, .int r1), (0, .ref 67), (2, .int x2), (4, .int x4), (5, .int x5), (6, .int x6)]) (st2 := []) (h2 := (sh_rep m14.T (sh_u2 (sh_u2 (sh_u2 (sh_u2 m14.I 112 (Int32.toNatClampNeg (m14.I 66 79)) (m14.I 66 43)) 113 (Int32.toNatClampNeg (m14.I 66 79)) (m14.I 66 44)) 114 (Int32.toNatClampNeg (m14.I 66 79)) (m14.I 66 45)) 66 79 ((m14.I 66 79) + 1)) (sh_u2 m14.J 115 (Int32.toNatClampNeg (m14.I 66 79)) (m14.J 66 46)))) rfl rfl rfl ?_
          exact kk
        obtain rfl := Option.some.inj e
        exact sh_Lk_sub (sh_sub_c rfl (sh_sub_c rfl (sh_sub_c rfl (sh_sub_c rfl (sh_sub_c rfl (sh_sub_c rfl (sh_sub_c rfl (sh_sub_n)))))))) tg
      · refine sh_Lk_lift (T := m14.T) (I := m14.I) (J := m14.J) (s := m14.s) (pc2 := 245) (lv2 := [(8, .int r1), (0, .ref 67), (2, .int x2), (3, .int x3), (4, .int x4), (5, .int x5), (6, .int x6), (7, .int x7)]) (st2 := [.int 0]) (I2 := m14.I) (J2 := m14.J) (fun hT v kk => ?_) ?_
        · refine sh_j0 (c := .ne) (off := (5)) (pc2 := 244) false rfl (sh_Znef c) rfl ?_
          refine sh_w (i := (.iconst 0)) (len := 1) (pc2 := 245) (lv2 := [(8, .int r1), (0, .ref 67), (2, .int x2), (3, .int x3), (4, .int x4), (5, .int x5), (6, .int x6), (7, .int x7)]) (st2 := [.int 0]) (h2 := (sh_rep m14.T m14.I m14.J)) rfl rfl rfl ?_
          exact kk
        obtain rfl := Option.some.inj e
        obtain ⟨rfl, rfl⟩ := tg
        exact sh_Lk_ret (i := .ireturn) rfl rfl rfl (by omega) (by omega)
    · refine sh_Lk_lift (T := m12.T) (I := m12.I) (J := m12.J) (s := m12.s) (pc2 := 245) (lv2 := [(8, .int r1), (0, .ref 67), (2, .int x2), (3, .int x3), (4, .int x4), (5, .int x5), (6, .int x6), (7, .int x7)]) (st2 := [.int 0]) (I2 := m12.I) (J2 := m12.J) (fun hT v kk => ?_) ?_
      · refine sh_j0 (c := .eq) (off := (39)) (pc2 := 244) true rfl (sh_Zeqt c) rfl ?_
        refine sh_w (i := (.iconst 0)) (len := 1) (pc2 := 245) (lv2 := [(8, .int r1), (0, .ref 67), (2, .int x2), (3, .int x3), (4, .int x4), (5, .int x5), (6, .int x6), (7, .int x7)]) (st2 := [.int 0]) (h2 := (sh_rep m12.T m12.I m12.J)) rfl rfl rfl ?_
        exact kk
      obtain rfl := Option.some.inj e
      obtain ⟨rfl, rfl⟩ := tg
      exact sh_Lk_ret (i := .ireturn) rfl rfl rfl (by omega) (by omega)
theorem sl_315_177 {Q : sh_Q279} {d : Nat} {x2 : Int32} {x3 : Int32} {x4 : Int32} {x5 : Int32} {x6 : Int32} {x7 : Int32} {m m2 : sh_X} {o : Outcome} {z : (Bool × sh_X)} (hQ : sh_QL279 Q d) (e : sf_315_177 Q x2 x3 x4 x5 x6 x7 m = some z) (tg : (sh_tZ o m2) z) : sh_Lk 315 177 [(0, .ref 67), (2, .int x2), (3, .int x3), (4, .int x4), (5, .int x5), (6, .int x6), (7, .int x7)] [] m o m2 (d + 1 + 15) (40 * (d + 1) + 385) := by
  unfold sf_315_177 at e
  exact sh_while_lk (P := fun q => sh_Lk 315 177 [(0, .ref 67), (2, .int x2), (3, .int q.1), (4, .int x4), (5, .int x5), (6, .int x6), (7, .int q.2.1)] [] q.2.2 o m2 (d + 1 + 15) (40 * (d + 1) + 385)) (Q := (sh_tZ o m2)) (fun q z e tg => sl_315_177s (x2 := x2) (x3 := q.1) (x4 := x4) (x5 := x5) (x6 := x6) (x7 := q.2.1) (m := q.2.2) hQ e tg) (s := (x3, x7, m)) e tg
theorem sl_315_42s {Q : sh_Q279} {d : Nat} {x1 : Int32} {x2 : Int32} {x3 : Int32} {x4 : Int32} {m m2 : sh_X} {o : Outcome} {z : ((Int32 × Int32 × sh_X) ⊕ (Bool × sh_X))} (hQ : sh_QL279 Q d) (e : sf_315_42s Q x1 x2 x3 x4 m = some z) (tg : (sh_el (fun q => sh_Lk 315 42 [(0, .ref 67), (1, .int x1), (2, .int x2), (3, .int q.1), (4, .int q.2.1)] [] q.2.2 o m2 (d + 1 + 15) (40 * (d + 1) + 385)) (sh_tZ o m2)) z) : sh_Lk 315 42 [(0, .ref 67), (1, .int x1), (2, .int x2), (3, .int x3), (4, .int x4)] [] m o m2 (d + 1 + 15) (40 * (d + 1) + 385) := by
  unfold sf_315_42s at e
  refine sh_Lk_lift (T := m.T) (I := m.I) (J := m.J) (s := m.s) (pc2 := 44) (lv2 := [(0, .ref 67), (1, .int x1), (2, .int x2), (3, .int x3), (4, .int x4)]) (st2 := [.int x4]) (I2 := m.I) (J2 := m.J) (fun hT v kk => ?_) ?_
  · refine sh_w (i := (.iload 4)) (len := 2) (pc2 := 44) (lv2 := [(0, .ref 67), (1, .int x1), (2, .int x2), (3, .int x3), (4, .int x4)]) (st2 := [.int x4]) (h2 := (sh_rep m.T m.I m.J)) rfl rfl rfl ?_
    exact kk
  rcases sh_ite e with ⟨c, e⟩ | ⟨c, e⟩
  · refine sh_Lk_lift (T := m.T) (I := m.I) (J := m.J) (s := m.s) (pc2 := 68) (lv2 := [(0, .ref 67), (1, .int x1), (2, .int x2), (3, .int x3), (4, .int x4)]) (st2 := [.int x2, .ref 81, .int x3]) (I2 := m.I) (J2 := m.J) (fun hT v kk => ?_) ?_
    · refine sh_j0 (c := .lt) (off := (18)) (pc2 := 62) true rfl (sh_Bltt c) rfl ?_
      refine sh_w (i := (.iload_n 3)) (len := 1) (pc2 := 63) (lv2 := [(0, .ref 67), (1, .int x1), (2, .int x2), (3, .int x3), (4, .int x4)]) (st2 := [.int x3]) (h2 := (sh_rep m.T m.I m.J)) rfl rfl rfl ?_
      refine sh_w (i := (.aload_n 0)) (len := 1) (pc2 := 64) (lv2 := [(0, .ref 67), (1, .int x1), (2, .int x2), (3, .int x3), (4, .int x4)]) (st2 := [.ref 67, .int x3]) (h2 := (sh_rep m.T m.I m.J)) rfl rfl rfl ?_
      refine sh_gR1 (len := 3) (x := .ref 81) (pc2 := 67) rfl rfl (sh_s66 hT.st) rfl rfl ?_
      refine sh_w (i := (.iload_n 2)) (len := 1) (pc2 := 68) (lv2 := [(0, .ref 67), (1, .int x1), (2, .int x2), (3, .int x3), (4, .int x4)]) (st2 := [.int x2, .ref 81, .int x3]) (h2 := (sh_rep m.T m.I m.J)) rfl rfl rfl ?_
      exact kk
    obtain ⟨c, e⟩ := sh_gd e
    refine sh_Lk_lift (T := m.T) (I := m.I) (J := m.J) (s := m.s) (pc2 := 69) (lv2 := [(0, .ref 67), (1, .int x1), (2, .int x2), (3, .int x3), (4, .int x4)]) (st2 := [.int (m.I 80 (Int32.toNatClampNeg x2)), .int x3]) (I2 := m.I) (J2 := m.J) (fun hT v kk => ?_) ?_
    · refine sh_ia1 (x := m.I 80 (Int32.toNatClampNeg x2)) (pc2 := 69) rfl (sh_s80 hT.st) (sh_okb1 c) (sh_okb2 c) rfl rfl ?_
      exact kk
    rcases sh_ite e with ⟨c, e⟩ | ⟨c, e⟩
    · refine sh_Lk_lift (T := m.T) (I := m.I) (J := m.J) (s := m.s) (pc2 := 98) (lv2 := [(0, .ref 67), (1, .int x1), (2, .int x2), (3, .int x3), (4, .int x4)]) (st2 := [.int x1, .ref 76, .int (m.I 66 59)]) (I2 := m.I) (J2 := m.J) (fun hT v kk => ?_) ?_
      · refine sh_jc (c := .eq) (off := (20)) (pc2 := 89) true rfl (sh_Beqt c) rfl ?_
        refine sh_w (i := (.aload_n 0)) (len := 1) (pc2 := 90) (lv2 := [(0, .ref 67), (1, .int x1), (2, .int x2), (3, .int x3), (4, .int x4)]) (st2 := [.ref 67]) (h2 := (sh_rep m.T m.I m.J)) rfl rfl rfl ?_
        refine sh_gI1 (len := 3) (x := m.I 66 59) (pc2 := 93) rfl rfl (sh_s66 hT.st) rfl rfl rfl ?_
        refine sh_w (i := (.aload_n 0)) (len := 1) (pc2 := 94) (lv2 := [(0, .ref 67), (1, .int x1), (2, .int x2), (3, .int x3), (4, .int x4)]) (st2 := [.ref 67, .int (m.I 66 59)]) (h2 := (sh_rep m.T m.I m.J)) rfl rfl rfl ?_
        refine sh_gR1 (len := 3) (x := .ref 76) (pc2 := 97) rfl rfl (sh_s66 hT.st) rfl rfl ?_
        refine sh_w (i := (.iload_n 1)) (len := 1) (pc2 := 98) (lv2 := [(0, .ref 67), (1, .int x1), (2, .int x2), (3, .int x3), (4, .int x4)]) (st2 := [.int x1, .ref 76, .int (m.I 66 59)]) (h2 := (sh_rep m.T m.I m.J)) rfl rfl rfl ?_
        exact kk
      obtain ⟨c, e⟩ := sh_gd e
      refine sh_Lk_lift (T := m.T) (I := m.I) (J := m.J) (s := m.s) (pc2 := 106) (lv2 := [(4, .int ((m.I 66 59) + (m.I 75 (Int32.toNatClampNeg x1)))), (0, .ref 67), (1, .int x1), (2, .int x2), (3, .int x3)]) (st2 := [.int 20, .int ((m.I 66 59) + (m.I 75 (Int32.toNatClampNeg x1)))]) (I2 := m.I) (J2 := m.J) (fun hT v kk => ?_) ?_
      · refine sh_ia1 (x := m.I 75 (Int32.toNatClampNeg x1)) (pc2 := 99) rfl (sh_s75 hT.st) (sh_okb1 c) (sh_okb2 c) rfl rfl ?_
        refine sh_w (i := .iadd) (len := 1) (pc2 := 100) (lv2 := [(0, .ref 67), (1, .int x1), (2, .int x2), (3, .int x3), (4, .int x4)]) (st2 := [.int ((m.I 66 59) + (m.I 75 (Int32.toNatClampNeg x1)))]) (h2 := (sh_rep m.T m.I m.J)) rfl rfl rfl ?_
        refine sh_w (i := (.istore 4)) (len := 2) (pc2 := 102) (lv2 := [(4, .int ((m.I 66 59) + (m.I 75 (Int32.toNatClampNeg x1)))), (0, .ref 67), (1, .int x1), (2, .int x2), (3, .int x3)]) (st2 := []) (h2 := (sh_rep m.T m.I m.J)) rfl rfl rfl ?_
        refine sh_w (i := (.iload 4)) (len := 2) (pc2 := 104) (lv2 := [(4, .int ((m.I 66 59) + (m.I 75 (Int32.toNatClampNeg x1)))), (0, .ref 67), (1, .int x1), (2, .int x2), (3, .int x3)]) (st2 := [.int ((m.I 66 59) + (m.I 75 (Int32.toNatClampNeg x1)))]) (h2 := (sh_rep m.T m.I m.J)) rfl rfl rfl ?_
        refine sh_w (i := (.bipush 20)) (len := 2) (pc2 := 106) (lv2 := [(4, .int ((m.I 66 59) + (m.I 75 (Int32.toNatClampNeg x1)))), (0, .ref 67), (1, .int x1), (2, .int x2), (3, .int x3)]) (st2 := [.int 20, .int ((m.I 66 59) + (m.I 75 (Int32.toNatClampNeg x1)))]) (h2 := (sh_rep m.T m.I m.J)) rfl rfl rfl ?_
        exact kk
      rcases sh_ite e with ⟨c, e⟩ | ⟨c, e⟩
      · refine sh_Lk_lift (T := m.T) (I := m.I) (J := m.J) (s := m.s) (pc2 := 121) (lv2 := [(4, .int ((m.I 66 59) + (m.I 75 (Int32.toNatClampNeg x1)))), (0, .ref 67), (1, .int x1), (2, .int x2), (3, .int x3)]) (st2 := [.int x1, .ref 74, .ref 70, .int 6, .ref 67]) (I2 := m.I) (J2 := m.J) (fun hT v kk => ?_) ?_
        · refine sh_jc (c := .le) (off := (21)) (pc2 := 109) false rfl (sh_Blef c) rfl ?_
          refine sh_w (i := (.aload_n 0)) (len := 1) (pc2 := 110) (lv2 := [(4, .int ((m.I 66 59) + (m.I 75 (Int32.toNatClampNeg x1)))), (0, .ref 67), (1, .int x1), (2, .int x2), (3, .int x3)]) (st2 := [.ref 67]) (h2 := (sh_rep m.T m.I m.J)) rfl rfl rfl ?_
          refine sh_w (i := (.bipush 6)) (len := 2) (pc2 := 112) (lv2 := [(4, .int ((m.I 66 59) + (m.I 75 (Int32.toNatClampNeg x1)))), (0, .ref 67), (1, .int x1), (2, .int x2), (3, .int x3)]) (st2 := [.int 6, .ref 67]) (h2 := (sh_rep m.T m.I m.J)) rfl rfl rfl ?_
          refine sh_w (i := (.aload_n 0)) (len := 1) (pc2 := 113) (lv2 := [(4, .int ((m.I 66 59) + (m.I 75 (Int32.toNatClampNeg x1)))), (0, .ref 67), (1, .int x1), (2, .int x2), (3, .int x3)]) (st2 := [.ref 67, .int 6, .ref 67]) (h2 := (sh_rep m.T m.I m.J)) rfl rfl rfl ?_
          refine sh_gR1 (len := 3) (x := .ref 70) (pc2 := 116) rfl rfl (sh_s66 hT.st) rfl rfl ?_
          refine sh_w (i := (.aload_n 0)) (len := 1) (pc2 := 117) (lv2 := [(4, .int ((m.I 66 59) + (m.I 75 (Int32.toNatClampNeg x1)))), (0, .ref 67), (1, .int x1), (2, .int x2), (3, .int x3)]) (st2 := [.ref 67, .ref 70, .int 6, .ref 67]) (h2 := (sh_rep m.T m.I m.J)) rfl rfl rfl ?_
          refine sh_gR1 (len := 3) (x := .ref 74) (pc2 := 120) rfl rfl (sh_s66 hT.st) rfl rfl ?_
          refine sh_w (i := (.iload_n 1)) (len := 1) (pc2 := 121) (lv2 := [(4, .int ((m.I 66 59) + (m.I 75 (Int32.toNatClampNeg x1)))), (0, .ref 67), (1, .int x1), (2, .int x2), (3, .int x3)]) (st2 := [.int x1, .ref 74, .ref 70, .int 6, .ref 67]) (h2 := (sh_rep m.T m.I m.J)) rfl rfl rfl ?_
          exact kk
        obtain ⟨c, e⟩ := sh_gd e
        refine sh_Lk_lift (T := m.T) (I := m.I) (J := m.J) (s := m.s) (pc2 := 122) (lv2 := [(4, .int ((m.I 66 59) + (m.I 75 (Int32.toNatClampNeg x1)))), (0, .ref 67), (1, .int x1), (2, .int x2), (3, .int x3)]) (st2 := [.int (m.I 73 (Int32.toNatClampNeg x1)), .ref 70, .int 6, .ref 67]) (I2 := m.I) (J2 := m.J) (fun hT v kk => ?_) ?_
        · refine sh_ia1 (x := m.I 73 (Int32.toNatClampNeg x1)) (pc2 := 122) rfl (sh_s73 hT.st) (sh_okb1 c) (sh_okb2 c) rfl rfl ?_
          exact kk
        obtain ⟨c, e⟩ := sh_gd e
        refine sh_Lk_lift (T := m.T) (I := m.I) (J := m.J) (s := m.s) (pc2 := 123) (lv2 := [(4, .int ((m.I 66 59) + (m.I 75 (Int32.toNatClampNeg x1)))), (0, .ref 67), (1, .int x1), (2, .int x2), (3, .int x3)]) (st2 := [.int (m.I 69 (Int32.toNatClampNeg (m.I 73 (Int32.toNatClampNeg x1)))), .int 6, .ref 67]) (I2 := m.I) (J2 := m.J) (fun hT v kk => ?_) ?_
        · refine sh_ia1 (x := m.I 69 (Int32.toNatClampNeg (m.I 73 (Int32.toNatClampNeg x1)))) (pc2 := 123) rfl (sh_s69 hT.st) (sh_okb1 c) (sh_okb2 c) rfl rfl ?_
          exact kk
        obtain ⟨r1, m11, e1, e⟩ := sh_bn_e e
        refine sh_Lk_cV (r := (some (.int (sh_b2 r1)))) (st2 := [.int (sh_b2 r1)]) (pc2 := 126) (k2 := 252) (a := 66) (as := [.ref 67, .int 6, .int (m.I 69 (Int32.toNatClampNeg (m.I 73 (Int32.toNatClampNeg x1))))]) (rest := []) rfl rfl rfl (fun hT => (sh_s66 hT.st)) rfl rfl ⟨Nat.le_of_ble_eq_true rfl, Nat.le_of_ble_eq_true rfl⟩ (sl_252 e1 ⟨rfl, rfl⟩) rfl rfl (show 8 + 1 ≤ d + 1 + 15 by omega) (show 8 + (3 + 11) + (200) ≤ 40 * (d + 1) + 385 by omega) ?_
        obtain rfl := Option.some.inj e
        obtain ⟨rfl, rfl⟩ := tg
        exact sh_Lk_ret (i := .ireturn) rfl rfl (sh_rb rfl _) (by omega) (by omega)
      · refine sh_Lk_lift (T := m.T) (I := m.I) (J := m.J) (s := m.s) (pc2 := 136) (lv2 := [(4, .int ((m.I 66 59) + (m.I 75 (Int32.toNatClampNeg x1)))), (0, .ref 67), (1, .int x1), (2, .int x2), (3, .int x3)]) (st2 := [.int x1, .ref 74, .int (1 + x3), .ref 67]) (I2 := m.I) (J2 := m.J) (fun hT v kk => ?_) ?_
        · refine sh_jc (c := .le) (off := (21)) (pc2 := 127) true rfl (sh_Blet c) rfl ?_
          refine sh_w (i := (.aload_n 0)) (len := 1) (pc2 := 128) (lv2 := [(4, .int ((m.I 66 59) + (m.I 75 (Int32.toNatClampNeg x1)))), (0, .ref 67), (1, .int x1), (2, .int x2), (3, .int x3)]) (st2 := [.ref 67]) (h2 := (sh_rep m.T m.I m.J)) rfl rfl rfl ?_
          refine sh_w (i := (.iconst 1)) (len := 1) (pc2 := 129) (lv2 := [(4, .int ((m.I 66 59) + (m.I 75 (Int32.toNatClampNeg x1)))), (0, .ref 67), (1, .int x1), (2, .int x2), (3, .int x3)]) (st2 := [.int 1, .ref 67]) (h2 := (sh_rep m.T m.I m.J)) rfl rfl rfl ?_
          refine sh_w (i := (.iload_n 3)) (len := 1) (pc2 := 130) (lv2 := [(4, .int ((m.I 66 59) + (m.I 75 (Int32.toNatClampNeg x1)))), (0, .ref 67), (1, .int x1), (2, .int x2), (3, .int x3)]) (st2 := [.int x3, .int 1, .ref 67]) (h2 := (sh_rep m.T m.I m.J)) rfl rfl rfl ?_
          refine sh_w (i := .iadd) (len := 1) (pc2 := 131) (lv2 := [(4, .int ((m.I 66 59) + (m.I 75 (Int32.toNatClampNeg x1)))), (0, .ref 67), (1, .int x1), (2, .int x2), (3, .int x3)]) (st2 := [.int (1 + x3), .ref 67]) (h2 := (sh_rep m.T m.I m.J)) rfl rfl rfl ?_
          refine sh_w (i := (.aload_n 0)) (len := 1) (pc2 := 132) (lv2 := [(4, .int ((m.I 66 59) + (m.I 75 (Int32.toNatClampNeg x1)))), (0, .ref 67), (1, .int x1), (2, .int x2), (3, .int x3)]) (st2 := [.ref 67, .int (1 + x3), .ref 67]) (h2 := (sh_rep m.T m.I m.J)) rfl rfl rfl ?_
          refine sh_gR1 (len := 3) (x := .ref 74) (pc2 := 135) rfl rfl (sh_s66 hT.st) rfl rfl ?_
          refine sh_w (i := (.iload_n 1)) (len := 1) (pc2 := 136) (lv2 := [(4, .int ((m.I 66 59) + (m.I 75 (Int32.toNatClampNeg x1)))), (0, .ref 67), (1, .int x1), (2, .int x2), (3, .int x3)]) (st2 := [.int x1, .ref 74, .int (1 + x3), .ref 67]) (h2 := (sh_rep m.T m.I m.J)) rfl rfl rfl ?_
          exact kk
        obtain ⟨c, e⟩ := sh_gd e
        refine sh_Lk_lift (T := m.T) (I := m.I) (J := m.J) (s := m.s) (pc2 := 137) (lv2 := [(4, .int ((m.I 66 59) + (m.I 75 (Int32.toNatClampNeg x1)))), (0, .ref 67), (1, .int x1), (2, .int x2), (3, .int x3)]) (st2 := [.int (m.I 73 (Int32.toNatClampNeg x1)), .int (1 + x3), .ref 67]) (I2 := m.I) (J2 := m.J) (fun hT v kk => ?_) ?_
        · refine sh_ia1 (x := m.I 73 (Int32.toNatClampNeg x1)) (pc2 := 137) rfl (sh_s73 hT.st) (sh_okb1 c) (sh_okb2 c) rfl rfl ?_
          exact kk
        obtain ⟨r2, m12, e2, e⟩ := sh_bn_e e
        refine sh_Lk_cV (r := (some (.int (sh_b2 r2)))) (st2 := [.int (sh_b2 r2)]) (pc2 := 140) (k2 := 292) (a := 66) (as := [.ref 67, .int (1 + x3), .int (m.I 73 (Int32.toNatClampNeg x1))]) (rest := []) rfl rfl rfl (fun hT => (sh_s66 hT.st)) rfl rfl ⟨Nat.le_of_ble_eq_true rfl, Nat.le_of_ble_eq_true rfl⟩ (sl_292 e2 ⟨rfl, rfl⟩) rfl rfl (show 9 + 1 ≤ d + 1 + 15 by omega) (show 8 + (3 + 11) + (222) ≤ 40 * (d + 1) + 385 by omega) ?_
        rcases sh_ite e with ⟨c, e⟩ | ⟨c, e⟩
        · refine sh_Lk_lift (T := m12.T) (I := m12.I) (J := m12.J) (s := m12.s) (pc2 := 174) (lv2 := [(3, .int 0), (6, .int (m12.I 66 79)), (5, .int (m12.I 66 41)), (4, .int ((m.I 66 59) + (m.I 75 (Int32.toNatClampNeg x1)))), (0, .ref 67), (1, .int x1), (2, .int x2)]) (st2 := [.int x1, .ref 75]) (I2 := sh_u2 m12.I 66 58 ((m12.I 66 58) + 1)) (J2 := m12.J) (fun hT v kk => ?_) ?_
          · refine sh_j0 (c := .ne) (off := (5)) (pc2 := 145) true rfl (sh_Znet c) rfl ?_
            refine sh_w (i := (.aload_n 0)) (len := 1) (pc2 := 146) (lv2 := [(4, .int ((m.I 66 59) + (m.I 75 (Int32.toNatClampNeg x1)))), (0, .ref 67), (1, .int x1), (2, .int x2), (3, .int x3)]) (st2 := [.ref 67]) (h2 := (sh_rep m12.T m12.I m12.J)) rfl rfl rfl ?_
            refine sh_w (i := .dup) (len := 1) (pc2 := 147) (lv2 := [(4, .int ((m.I 66 59) + (m.I 75 (Int32.toNatClampNeg x1)))), (0, .ref 67), (1, .int x1), (2, .int x2), (3, .int x3)]) (st2 := [.ref 67, .ref 67]) (h2 := (sh_rep m12.T m12.I m12.J)) rfl rfl rfl ?_
            refine sh_gI1 (len := 3) (x := m12.I 66 58) (pc2 := 150) rfl rfl (sh_s66 hT.st) rfl rfl rfl ?_
            refine sh_w (i := (.iconst 1)) (len := 1) (pc2 := 151) (lv2 := [(4, .int ((m.I 66 59) + (m.I 75 (Int32.toNatClampNeg x1)))), (0, .ref 67), (1, .int x1), (2, .int x2), (3, .int x3)]) (st2 := [.int 1, .int (m12.I 66 58), .ref 67]) (h2 := (sh_rep m12.T m12.I m12.J)) rfl rfl rfl ?_
            refine sh_w (i := .iadd) (len := 1) (pc2 := 152) (lv2 := [(4, .int ((m.I 66 59) + (m.I 75 (Int32.toNatClampNeg x1)))), (0, .ref 67), (1, .int x1), (2, .int x2), (3, .int x3)]) (st2 := [.int ((m12.I 66 58) + 1), .ref 67]) (h2 := (sh_rep m12.T m12.I m12.J)) rfl rfl rfl ?_
            refine sh_pI1 (x := (m12.I 66 58) + 1) (pc2 := 155) rfl rfl (sh_s66 hT.st) rfl rfl rfl rfl ?_
            refine sh_w (i := (.aload_n 0)) (len := 1) (pc2 := 156) (lv2 := [(4, .int ((m.I 66 59) + (m.I 75 (Int32.toNatClampNeg x1)))), (0, .ref 67), (1, .int x1), (2, .int x2), (3, .int x3)]) (st2 := [.ref 67]) (h2 := (sh_rep m12.T (sh_u2 m12.I 66 58 ((m12.I 66 58) + 1)) m12.J)) rfl rfl rfl ?_
            refine sh_gI1 (len := 3) (x := m12.I 66 41) (pc2 := 159) rfl rfl (sh_s66 hT.st) rfl rfl rfl ?_
            refine sh_w (i := (.istore 5)) (len := 2) (pc2 := 161) (lv2 := [(5, .int (m12.I 66 41)), (4, .int ((m.I 66 59) + (m.I 75 (Int32.toNatClampNeg x1)))), (0, .ref 67), (1, .int x1), (2, .int x2), (3, .int x3)]) (st2 := []) (h2 := (sh_rep m12.T (sh_u2 m12.I 66 58 ((m12.I 66 58) + 1)) m12.J)) rfl rfl rfl ?_
            refine sh_w (i := (.aload_n 0)) (len := 1) (pc2 := 162) (lv2 := [(5, .int (m12.I 66 41)), (4, .int ((m.I 66 59) + (m.I 75 (Int32.toNatClampNeg x1)))), (0, .ref 67), (1, .int x1), (2, .int x2), (3, .int x3)]) (st2 := [.ref 67]) (h2 := (sh_rep m12.T (sh_u2 m12.I 66 58 ((m12.I 66 58) + 1)) m12.J)) rfl rfl rfl ?_
            refine sh_gI1 (len := 3) (x := m12.I 66 79) (pc2 := 165) rfl rfl (sh_s66 hT.st) rfl rfl rfl ?_
            refine sh_w (i := (.istore 6)) (len := 2) (pc2 := 167) (lv2 := [(6, .int (m12.I 66 79)), (5, .int (m12.I 66 41)), (4, .int ((m.I 66 59) + (m.I 75 (Int32.toNatClampNeg x1)))), (0, .ref 67), (1, .int x1), (2, .int x2), (3, .int x3)]) (st2 := []) (h2 := (sh_rep m12.T (sh_u2 m12.I 66 58 ((m12.I 66 58) + 1)) m12.J)) rfl rfl rfl ?_
            refine sh_w (i := (.iconst 0)) (len := 1) (pc2 := 168) (lv2 := [(6, .int (m12.I 66 79)), (5, .int (m12.I 66 41)), (4, .int ((m.I 66 59) + (m.I 75 (Int32.toNatClampNeg x1)))), (0, .ref 67), (1, .int x1), (2, .int x2), (3, .int x3)]) (st2 := [.int 0]) (h2 := (sh_rep m12.T (sh_u2 m12.I 66 58 ((m12.I 66 58) + 1)) m12.J)) rfl rfl rfl ?_
            refine sh_w (i := (.istore_n 3)) (len := 1) (pc2 := 169) (lv2 := [(3, .int 0), (6, .int (m12.I 66 79)), (5, .int (m12.I 66 41)), (4, .int ((m.I 66 59) + (m.I 75 (Int32.toNatClampNeg x1)))), (0, .ref 67), (1, .int x1), (2, .int x2)]) (st2 := []) (h2 := (sh_rep m12.T (sh_u2 m12.I 66 58 ((m12.I 66 58) + 1)) m12.J)) rfl rfl rfl ?_
            refine sh_w (i := (.aload_n 0)) (len := 1) (pc2 := 170) (lv2 := [(3, .int 0), (6, .int (m12.I 66 79)), (5, .int (m12.I 66 41)), (4, .int ((m.I 66 59) + (m.I 75 (Int32.toNatClampNeg x1)))), (0, .ref 67), (1, .int x1), (2, .int x2)]) (st2 := [.ref 67]) (h2 := (sh_rep m12.T (sh_u2 m12.I 66 58 ((m12.I 66 58) + 1)) m12.J)) rfl rfl rfl ?_
            refine sh_gR1 (len := 3) (x := .ref 75) (pc2 := 173) rfl rfl (sh_s66 hT.st) rfl rfl ?_
            refine sh_w (i := (.iload_n 1)) (len := 1) (pc2 := 174) (lv2 := [(3, .int 0), (6, .int (m12.I 66 79)), (5, .int (m12.I 66 41)), (4, .int ((m.I 66 59) + (m.I 75 (Int32.toNatClampNeg x1)))), (0, .ref 67), (1, .int x1), (2, .int x2)]) (st2 := [.int x1, .ref 75]) (h2 := (sh_rep m12.T (sh_u2 m12.I 66 58 ((m12.I 66 58) + 1)) m12.J)) rfl rfl rfl ?_
            exact kk
          obtain ⟨c, e⟩ := sh_gd e
          refine sh_Lk_lift (T := m12.T) (I := sh_u2 m12.I 66 58 ((m12.I 66 58) + 1)) (J := m12.J) (s := m12.s) (pc2 := 177) (lv2 := [(7, .int (m12.I 74 (Int32.toNatClampNeg x1))), (3, .int 0), (6, .int (m12.I 66 79)), (5, .int (m12.I 66 41)), (4, .int ((m.I 66 59) + (m.I 75 (Int32.toNatClampNeg x1)))), (0, .ref 67), (1, .int x1), (2, .int x2)]) (st2 := []) (I2 := sh_u2 m12.I 66 58 ((m12.I 66 58) + 1)) (J2 := m12.J) (fun hT v kk => ?_) ?_
          · refine sh_ia1 (x := m12.I 74 (Int32.toNatClampNeg x1)) (pc2 := 175) rfl (sh_s74 hT.st) (sh_okb1 c) (sh_okb2 c) rfl rfl ?_
            refine sh_w (i := (.istore 7)) (len := 2) (pc2 := 177) (lv2 := [(7, .int (m12.I 74 (Int32.toNatClampNeg x1))), (3, .int 0), (6, .int (m12.I 66 79)), (5, .int (m12.I 66 41)), (4, .int ((m.I 66 59) + (m.I 75 (Int32.toNatClampNeg x1)))), (0, .ref 67), (1, .int x1), (2, .int x2)]) (st2 := []) (h2 := (sh_rep m12.T (sh_u2 m12.I 66 58 ((m12.I 66 58) + 1)) m12.J)) rfl rfl rfl ?_
            exact kk
          obtain ⟨_, eu, rfl⟩ := sh_up_e e
          exact sh_Lk_sub (sh_sub_c rfl (sh_sub_c rfl (sh_sub_c rfl (sh_sub_c rfl (sh_sub_c rfl (sh_sub_c rfl (sh_sub_c rfl (sh_sub_n)))))))) (sl_315_177 hQ eu tg)
        · refine sh_Lk_lift (T := m12.T) (I := m12.I) (J := m12.J) (s := m12.s) (pc2 := 144) (lv2 := [(4, .int ((m.I 66 59) + (m.I 75 (Int32.toNatClampNeg x1)))), (0, .ref 67), (1, .int x1), (2, .int x2), (3, .int x3)]) (st2 := [.int 0]) (I2 := m12.I) (J2 := m12.J) (fun hT v kk => ?_) ?_
          · refine sh_j0 (c := .ne) (off := (5)) (pc2 := 143) false rfl (sh_Znef c) rfl ?_
            refine sh_w (i := (.iconst 0)) (len := 1) (pc2 := 144) (lv2 := [(4, .int ((m.I 66 59) + (m.I 75 (Int32.toNatClampNeg x1)))), (0, .ref 67), (1, .int x1), (2, .int x2), (3, .int x3)]) (st2 := [.int 0]) (h2 := (sh_rep m12.T m12.I m12.J)) rfl rfl rfl ?_
            exact kk
          obtain rfl := Option.some.inj e
          obtain ⟨rfl, rfl⟩ := tg
          exact sh_Lk_ret (i := .ireturn) rfl rfl rfl (by omega) (by omega)
    · refine sh_Lk_lift (T := m.T) (I := m.I) (J := m.J) (s := m.s) (pc2 := 83) (lv2 := [(0, .ref 67), (1, .int x1), (2, .int x2), (3, .int x3), (4, .int x4)]) (st2 := [.int x1, .ref 74, .ref 70, .int 4, .ref 67]) (I2 := m.I) (J2 := m.J) (fun hT v kk => ?_) ?_
      · refine sh_jc (c := .eq) (off := (20)) (pc2 := 72) false rfl (sh_Beqf c) rfl ?_
        refine sh_w (i := (.aload_n 0)) (len := 1) (pc2 := 73) (lv2 := [(0, .ref 67), (1, .int x1), (2, .int x2), (3, .int x3), (4, .int x4)]) (st2 := [.ref 67]) (h2 := (sh_rep m.T m.I m.J)) rfl rfl rfl ?_
        refine sh_w (i := (.iconst 4)) (len := 1) (pc2 := 74) (lv2 := [(0, .ref 67), (1, .int x1), (2, .int x2), (3, .int x3), (4, .int x4)]) (st2 := [.int 4, .ref 67]) (h2 := (sh_rep m.T m.I m.J)) rfl rfl rfl ?_
        refine sh_w (i := (.aload_n 0)) (len := 1) (pc2 := 75) (lv2 := [(0, .ref 67), (1, .int x1), (2, .int x2), (3, .int x3), (4, .int x4)]) (st2 := [.ref 67, .int 4, .ref 67]) (h2 := (sh_rep m.T m.I m.J)) rfl rfl rfl ?_
        refine sh_gR1 (len := 3) (x := .ref 70) (pc2 := 78) rfl rfl (sh_s66 hT.st) rfl rfl ?_
        refine sh_w (i := (.aload_n 0)) (len := 1) (pc2 := 79) (lv2 := [(0, .ref 67), (1, .int x1), (2, .int x2), (3, .int x3), (4, .int x4)]) (st2 := [.ref 67, .ref 70, .int 4, .ref 67]) (h2 := (sh_rep m.T m.I m.J)) rfl rfl rfl ?_
        refine sh_gR1 (len := 3) (x := .ref 74) (pc2 := 82) rfl rfl (sh_s66 hT.st) rfl rfl ?_
        refine sh_w (i := (.iload_n 1)) (len := 1) (pc2 := 83) (lv2 := [(0, .ref 67), (1, .int x1), (2, .int x2), (3, .int x3), (4, .int x4)]) (st2 := [.int x1, .ref 74, .ref 70, .int 4, .ref 67]) (h2 := (sh_rep m.T m.I m.J)) rfl rfl rfl ?_
        exact kk
      obtain ⟨c, e⟩ := sh_gd e
      refine sh_Lk_lift (T := m.T) (I := m.I) (J := m.J) (s := m.s) (pc2 := 84) (lv2 := [(0, .ref 67), (1, .int x1), (2, .int x2), (3, .int x3), (4, .int x4)]) (st2 := [.int (m.I 73 (Int32.toNatClampNeg x1)), .ref 70, .int 4, .ref 67]) (I2 := m.I) (J2 := m.J) (fun hT v kk => ?_) ?_
      · refine sh_ia1 (x := m.I 73 (Int32.toNatClampNeg x1)) (pc2 := 84) rfl (sh_s73 hT.st) (sh_okb1 c) (sh_okb2 c) rfl rfl ?_
        exact kk
      obtain ⟨c, e⟩ := sh_gd e
      refine sh_Lk_lift (T := m.T) (I := m.I) (J := m.J) (s := m.s) (pc2 := 85) (lv2 := [(0, .ref 67), (1, .int x1), (2, .int x2), (3, .int x3), (4, .int x4)]) (st2 := [.int (m.I 69 (Int32.toNatClampNeg (m.I 73 (Int32.toNatClampNeg x1)))), .int 4, .ref 67]) (I2 := m.I) (J2 := m.J) (fun hT v kk => ?_) ?_
      · refine sh_ia1 (x := m.I 69 (Int32.toNatClampNeg (m.I 73 (Int32.toNatClampNeg x1)))) (pc2 := 85) rfl (sh_s69 hT.st) (sh_okb1 c) (sh_okb2 c) rfl rfl ?_
        exact kk
      obtain ⟨r3, m13, e3, e⟩ := sh_bn_e e
      refine sh_Lk_cV (r := (some (.int (sh_b2 r3)))) (st2 := [.int (sh_b2 r3)]) (pc2 := 88) (k2 := 252) (a := 66) (as := [.ref 67, .int 4, .int (m.I 69 (Int32.toNatClampNeg (m.I 73 (Int32.toNatClampNeg x1))))]) (rest := []) rfl rfl rfl (fun hT => (sh_s66 hT.st)) rfl rfl ⟨Nat.le_of_ble_eq_true rfl, Nat.le_of_ble_eq_true rfl⟩ (sl_252 e3 ⟨rfl, rfl⟩) rfl rfl (show 8 + 1 ≤ d + 1 + 15 by omega) (show 8 + (3 + 11) + (200) ≤ 40 * (d + 1) + 385 by omega) ?_
      obtain rfl := Option.some.inj e
      obtain ⟨rfl, rfl⟩ := tg
      exact sh_Lk_ret (i := .ireturn) rfl rfl (sh_rb rfl _) (by omega) (by omega)
  · refine sh_Lk_lift (T := m.T) (I := m.I) (J := m.J) (s := m.s) (pc2 := 56) (lv2 := [(3, .int (x3 + 1)), (0, .ref 67), (1, .int x1), (2, .int x2), (4, .int x4)]) (st2 := [.int x4, .ref 78]) (I2 := m.I) (J2 := m.J) (fun hT v kk => ?_) ?_
    · refine sh_j0 (c := .lt) (off := (18)) (pc2 := 47) false rfl (sh_Bltf c) rfl ?_
      refine sh_w (i := (.iinc 3 1)) (len := 3) (pc2 := 50) (lv2 := [(3, .int (x3 + 1)), (0, .ref 67), (1, .int x1), (2, .int x2), (4, .int x4)]) (st2 := []) (h2 := (sh_rep m.T m.I m.J)) rfl rfl rfl ?_
      refine sh_w (i := (.aload_n 0)) (len := 1) (pc2 := 51) (lv2 := [(3, .int (x3 + 1)), (0, .ref 67), (1, .int x1), (2, .int x2), (4, .int x4)]) (st2 := [.ref 67]) (h2 := (sh_rep m.T m.I m.J)) rfl rfl rfl ?_
      refine sh_gR1 (len := 3) (x := .ref 78) (pc2 := 54) rfl rfl (sh_s66 hT.st) rfl rfl ?_
      refine sh_w (i := (.iload 4)) (len := 2) (pc2 := 56) (lv2 := [(3, .int (x3 + 1)), (0, .ref 67), (1, .int x1), (2, .int x2), (4, .int x4)]) (st2 := [.int x4, .ref 78]) (h2 := (sh_rep m.T m.I m.J)) rfl rfl rfl ?_
      exact kk
    obtain ⟨c, e⟩ := sh_gd e
    refine sh_Lk_lift (T := m.T) (I := m.I) (J := m.J) (s := m.s) (pc2 := 42) (lv2 := [(4, .int (m.I 77 (Int32.toNatClampNeg x4))), (3, .int (x3 + 1)), (0, .ref 67), (1, .int x1), (2, .int x2)]) (st2 := []) (I2 := m.I) (J2 := m.J) (fun hT v kk => ?_) ?_
    · refine sh_ia1 (x := m.I 77 (Int32.toNatClampNeg x4)) (pc2 := 57) rfl (sh_s77 hT.st) (sh_okb1 c) (sh_okb2 c) rfl rfl ?_
      refine sh_w (i := (.istore 4)) (len := 2) (pc2 := 59) (lv2 := [(4, .int (m.I 77 (Int32.toNatClampNeg x4))), (3, .int (x3 + 1)), (0, .ref 67), (1, .int x1), (2, .int x2)]) (st2 := []) (h2 := (sh_rep m.T m.I m.J)) rfl rfl rfl ?_
      refine sh_w (i := (.goto (-17))) (len := 3) (pc2 := 42) (lv2 := [(4, .int (m.I 77 (Int32.toNatClampNeg x4))), (3, .int (x3 + 1)), (0, .ref 67), (1, .int x1), (2, .int x2)]) (st2 := []) (h2 := (sh_rep m.T m.I m.J)) rfl rfl rfl ?_
      exact kk
    obtain rfl := Option.some.inj e
    exact sh_Lk_sub (sh_sub_c rfl (sh_sub_c rfl (sh_sub_c rfl (sh_sub_c rfl (sh_sub_c rfl (sh_sub_n)))))) tg
theorem sl_315_42 {Q : sh_Q279} {d : Nat} {x1 : Int32} {x2 : Int32} {x3 : Int32} {x4 : Int32} {m m2 : sh_X} {o : Outcome} {z : (Bool × sh_X)} (hQ : sh_QL279 Q d) (e : sf_315_42 Q x1 x2 x3 x4 m = some z) (tg : (sh_tZ o m2) z) : sh_Lk 315 42 [(0, .ref 67), (1, .int x1), (2, .int x2), (3, .int x3), (4, .int x4)] [] m o m2 (d + 1 + 15) (40 * (d + 1) + 385) := by
  unfold sf_315_42 at e
  exact sh_while_lk (P := fun q => sh_Lk 315 42 [(0, .ref 67), (1, .int x1), (2, .int x2), (3, .int q.1), (4, .int q.2.1)] [] q.2.2 o m2 (d + 1 + 15) (40 * (d + 1) + 385)) (Q := (sh_tZ o m2)) (fun q z e tg => sl_315_42s (x1 := x1) (x2 := x2) (x3 := q.1) (x4 := q.2.1) (m := q.2.2) hQ e tg) (s := (x3, x4, m)) e tg
theorem sl_315 {Q : sh_Q279} {d : Nat} {x1 : Int32} {m m2 : sh_X} {o : Outcome} {z : (Bool × sh_X)} (hQ : sh_QL279 Q d) (e : sf_315 Q x1 m = some z) (tg : (sh_tZ o m2) z) : sh_Lk 315 0 [(0, .ref 67), (1, .int x1)] [] m o m2 (d + 1 + 15) (40 * (d + 1) + 385) := by
  unfold sf_315 at e
  refine sh_Lk_lift (T := m.T) (I := m.I) (J := m.J) (s := m.s) (pc2 := 6) (lv2 := [(0, .ref 67), (1, .int x1)]) (st2 := [.int x1, .ref 74, .ref 67]) (I2 := m.I) (J2 := m.J) (fun hT v kk => ?_) ?_
  · refine sh_w (i := (.aload_n 0)) (len := 1) (pc2 := 1) (lv2 := [(0, .ref 67), (1, .int x1)]) (st2 := [.ref 67]) (h2 := (sh_rep m.T m.I m.J)) rfl rfl rfl ?_
    refine sh_w (i := (.aload_n 0)) (len := 1) (pc2 := 2) (lv2 := [(0, .ref 67), (1, .int x1)]) (st2 := [.ref 67, .ref 67]) (h2 := (sh_rep m.T m.I m.J)) rfl rfl rfl ?_
    refine sh_gR1 (len := 3) (x := .ref 74) (pc2 := 5) rfl rfl (sh_s66 hT.st) rfl rfl ?_
    refine sh_w (i := (.iload_n 1)) (len := 1) (pc2 := 6) (lv2 := [(0, .ref 67), (1, .int x1)]) (st2 := [.int x1, .ref 74, .ref 67]) (h2 := (sh_rep m.T m.I m.J)) rfl rfl rfl ?_
    exact kk
  obtain ⟨c, e⟩ := sh_gd e
  refine sh_Lk_lift (T := m.T) (I := m.I) (J := m.J) (s := m.s) (pc2 := 7) (lv2 := [(0, .ref 67), (1, .int x1)]) (st2 := [.int (m.I 73 (Int32.toNatClampNeg x1)), .ref 67]) (I2 := m.I) (J2 := m.J) (fun hT v kk => ?_) ?_
  · refine sh_ia1 (x := m.I 73 (Int32.toNatClampNeg x1)) (pc2 := 7) rfl (sh_s73 hT.st) (sh_okb1 c) (sh_okb2 c) rfl rfl ?_
    exact kk
  obtain ⟨r1, e1, e⟩ := sh_bc_e e
  refine sh_Lk_cV (r := (some (.int r1))) (st2 := [.int r1]) (pc2 := 10) (k2 := 316) (a := 66) (as := [.ref 67, .int (m.I 73 (Int32.toNatClampNeg x1))]) (rest := []) rfl rfl rfl (fun hT => (sh_s66 hT.st)) rfl rfl ⟨Nat.le_of_ble_eq_true rfl, Nat.le_of_ble_eq_true rfl⟩ (sl_316 e1 ⟨rfl, rfl⟩) rfl rfl (show 9 + 1 ≤ d + 1 + 15 by omega) (show 8 + (3 + 11) + (223) ≤ 40 * (d + 1) + 385 by omega) ?_
  refine sh_Lk_lift (T := m.T) (I := m.I) (J := m.J) (s := m.s) (pc2 := 12) (lv2 := [(2, .int r1), (0, .ref 67), (1, .int x1)]) (st2 := [.int r1]) (I2 := m.I) (J2 := m.J) (fun hT v kk => ?_) ?_
  · refine sh_w (i := (.istore_n 2)) (len := 1) (pc2 := 11) (lv2 := [(2, .int r1), (0, .ref 67), (1, .int x1)]) (st2 := []) (h2 := (sh_rep m.T m.I m.J)) rfl rfl rfl ?_
    refine sh_w (i := (.iload_n 2)) (len := 1) (pc2 := 12) (lv2 := [(2, .int r1), (0, .ref 67), (1, .int x1)]) (st2 := [.int r1]) (h2 := (sh_rep m.T m.I m.J)) rfl rfl rfl ?_
    exact kk
  rcases sh_ite e with ⟨c, e⟩ | ⟨c, e⟩
  · refine sh_Lk_lift (T := m.T) (I := m.I) (J := m.J) (s := m.s) (pc2 := 26) (lv2 := [(2, .int r1), (0, .ref 67), (1, .int x1)]) (st2 := [.int x1, .ref 74, .ref 70, .int 3, .ref 67]) (I2 := m.I) (J2 := m.J) (fun hT v kk => ?_) ?_
    · refine sh_j0 (c := .ge) (off := (20)) (pc2 := 15) false rfl (sh_Bgef c) rfl ?_
      refine sh_w (i := (.aload_n 0)) (len := 1) (pc2 := 16) (lv2 := [(2, .int r1), (0, .ref 67), (1, .int x1)]) (st2 := [.ref 67]) (h2 := (sh_rep m.T m.I m.J)) rfl rfl rfl ?_
      refine sh_w (i := (.iconst 3)) (len := 1) (pc2 := 17) (lv2 := [(2, .int r1), (0, .ref 67), (1, .int x1)]) (st2 := [.int 3, .ref 67]) (h2 := (sh_rep m.T m.I m.J)) rfl rfl rfl ?_
      refine sh_w (i := (.aload_n 0)) (len := 1) (pc2 := 18) (lv2 := [(2, .int r1), (0, .ref 67), (1, .int x1)]) (st2 := [.ref 67, .int 3, .ref 67]) (h2 := (sh_rep m.T m.I m.J)) rfl rfl rfl ?_
      refine sh_gR1 (len := 3) (x := .ref 70) (pc2 := 21) rfl rfl (sh_s66 hT.st) rfl rfl ?_
      refine sh_w (i := (.aload_n 0)) (len := 1) (pc2 := 22) (lv2 := [(2, .int r1), (0, .ref 67), (1, .int x1)]) (st2 := [.ref 67, .ref 70, .int 3, .ref 67]) (h2 := (sh_rep m.T m.I m.J)) rfl rfl rfl ?_
      refine sh_gR1 (len := 3) (x := .ref 74) (pc2 := 25) rfl rfl (sh_s66 hT.st) rfl rfl ?_
      refine sh_w (i := (.iload_n 1)) (len := 1) (pc2 := 26) (lv2 := [(2, .int r1), (0, .ref 67), (1, .int x1)]) (st2 := [.int x1, .ref 74, .ref 70, .int 3, .ref 67]) (h2 := (sh_rep m.T m.I m.J)) rfl rfl rfl ?_
      exact kk
    obtain ⟨c, e⟩ := sh_gd e
    refine sh_Lk_lift (T := m.T) (I := m.I) (J := m.J) (s := m.s) (pc2 := 27) (lv2 := [(2, .int r1), (0, .ref 67), (1, .int x1)]) (st2 := [.int (m.I 73 (Int32.toNatClampNeg x1)), .ref 70, .int 3, .ref 67]) (I2 := m.I) (J2 := m.J) (fun hT v kk => ?_) ?_
    · refine sh_ia1 (x := m.I 73 (Int32.toNatClampNeg x1)) (pc2 := 27) rfl (sh_s73 hT.st) (sh_okb1 c) (sh_okb2 c) rfl rfl ?_
      exact kk
    obtain ⟨c, e⟩ := sh_gd e
    refine sh_Lk_lift (T := m.T) (I := m.I) (J := m.J) (s := m.s) (pc2 := 28) (lv2 := [(2, .int r1), (0, .ref 67), (1, .int x1)]) (st2 := [.int (m.I 69 (Int32.toNatClampNeg (m.I 73 (Int32.toNatClampNeg x1)))), .int 3, .ref 67]) (I2 := m.I) (J2 := m.J) (fun hT v kk => ?_) ?_
    · refine sh_ia1 (x := m.I 69 (Int32.toNatClampNeg (m.I 73 (Int32.toNatClampNeg x1)))) (pc2 := 28) rfl (sh_s69 hT.st) (sh_okb1 c) (sh_okb2 c) rfl rfl ?_
      exact kk
    obtain ⟨r2, m12, e2, e⟩ := sh_bn_e e
    refine sh_Lk_cV (r := (some (.int (sh_b2 r2)))) (st2 := [.int (sh_b2 r2)]) (pc2 := 31) (k2 := 252) (a := 66) (as := [.ref 67, .int 3, .int (m.I 69 (Int32.toNatClampNeg (m.I 73 (Int32.toNatClampNeg x1))))]) (rest := []) rfl rfl rfl (fun hT => (sh_s66 hT.st)) rfl rfl ⟨Nat.le_of_ble_eq_true rfl, Nat.le_of_ble_eq_true rfl⟩ (sl_252 e2 ⟨rfl, rfl⟩) rfl rfl (show 8 + 1 ≤ d + 1 + 15 by omega) (show 8 + (3 + 11) + (200) ≤ 40 * (d + 1) + 385 by omega) ?_
    obtain rfl := Option.some.inj e
    obtain ⟨rfl, rfl⟩ := tg
    exact sh_Lk_ret (i := .ireturn) rfl rfl (sh_rb rfl _) (by omega) (by omega)
  · refine sh_Lk_lift (T := m.T) (I := m.I) (J := m.J) (s := m.s) (pc2 := 39) (lv2 := [(3, .int 0), (2, .int r1), (0, .ref 67), (1, .int x1)]) (st2 := [.int x1, .ref 75]) (I2 := m.I) (J2 := m.J) (fun hT v kk => ?_) ?_
    · refine sh_j0 (c := .ge) (off := (20)) (pc2 := 32) true rfl (sh_Bget c) rfl ?_
      refine sh_w (i := (.iconst 0)) (len := 1) (pc2 := 33) (lv2 := [(2, .int r1), (0, .ref 67), (1, .int x1)]) (st2 := [.int 0]) (h2 := (sh_rep m.T m.I m.J)) rfl rfl rfl ?_
      refine sh_w (i := (.istore_n 3)) (len := 1) (pc2 := 34) (lv2 := [(3, .int 0), (2, .int r1), (0, .ref 67), (1, .int x1)]) (st2 := []) (h2 := (sh_rep m.T m.I m.J)) rfl rfl rfl ?_
      refine sh_w (i := (.aload_n 0)) (len := 1) (pc2 := 35) (lv2 := [(3, .int 0), (2, .int r1), (0, .ref 67), (1, .int x1)]) (st2 := [.ref 67]) (h2 := (sh_rep m.T m.I m.J)) rfl rfl rfl ?_
      refine sh_gR1 (len := 3) (x := .ref 75) (pc2 := 38) rfl rfl (sh_s66 hT.st) rfl rfl ?_
      refine sh_w (i := (.iload_n 1)) (len := 1) (pc2 := 39) (lv2 := [(3, .int 0), (2, .int r1), (0, .ref 67), (1, .int x1)]) (st2 := [.int x1, .ref 75]) (h2 := (sh_rep m.T m.I m.J)) rfl rfl rfl ?_
      exact kk
    obtain ⟨c, e⟩ := sh_gd e
    refine sh_Lk_lift (T := m.T) (I := m.I) (J := m.J) (s := m.s) (pc2 := 42) (lv2 := [(4, .int (m.I 74 (Int32.toNatClampNeg x1))), (3, .int 0), (2, .int r1), (0, .ref 67), (1, .int x1)]) (st2 := []) (I2 := m.I) (J2 := m.J) (fun hT v kk => ?_) ?_
    · refine sh_ia1 (x := m.I 74 (Int32.toNatClampNeg x1)) (pc2 := 40) rfl (sh_s74 hT.st) (sh_okb1 c) (sh_okb2 c) rfl rfl ?_
      refine sh_w (i := (.istore 4)) (len := 2) (pc2 := 42) (lv2 := [(4, .int (m.I 74 (Int32.toNatClampNeg x1))), (3, .int 0), (2, .int r1), (0, .ref 67), (1, .int x1)]) (st2 := []) (h2 := (sh_rep m.T m.I m.J)) rfl rfl rfl ?_
      exact kk
    exact sh_Lk_sub (sh_sub_c rfl (sh_sub_c rfl (sh_sub_c rfl (sh_sub_c rfl (sh_sub_c rfl (sh_sub_n)))))) (sl_315_42 hQ e tg)
theorem sl_319_189s {Q : sh_Q279} {d : Nat} {x3 : Int32} {x5 : Int32} {m m2 : sh_X} {o : Outcome} {z : ((Int32 × sh_X) ⊕ (Bool × sh_X))} (hQ : sh_QL279 Q d) (e : sf_319_189s Q x3 x5 m = some z) (tg : (sh_el (fun q => sh_Lk 319 189 [(0, .ref 67), (3, .int x3), (5, .int q.1)] [] q.2 o m2 (d + 1 + 15) (40 * (d + 1) + 385)) (sh_tZ o m2)) z) : sh_Lk 319 189 [(0, .ref 67), (3, .int x3), (5, .int x5)] [] m o m2 (d + 1 + 15) (40 * (d + 1) + 385) := by
  unfold sf_319_189s at e
  refine sh_Lk_lift (T := m.T) (I := m.I) (J := m.J) (s := m.s) (pc2 := 196) (lv2 := [(0, .ref 67), (3, .int x3), (5, .int x5)]) (st2 := [.int x3, .ref 97, .int x5]) (I2 := m.I) (J2 := m.J) (fun hT v kk => ?_) ?_
  · refine sh_w (i := (.iload 5)) (len := 2) (pc2 := 191) (lv2 := [(0, .ref 67), (3, .int x3), (5, .int x5)]) (st2 := [.int x5]) (h2 := (sh_rep m.T m.I m.J)) rfl rfl rfl ?_
    refine sh_w (i := (.aload_n 0)) (len := 1) (pc2 := 192) (lv2 := [(0, .ref 67), (3, .int x3), (5, .int x5)]) (st2 := [.ref 67, .int x5]) (h2 := (sh_rep m.T m.I m.J)) rfl rfl rfl ?_
    refine sh_gR1 (len := 3) (x := .ref 97) (pc2 := 195) rfl rfl (sh_s66 hT.st) rfl rfl ?_
    refine sh_w (i := (.iload_n 3)) (len := 1) (pc2 := 196) (lv2 := [(0, .ref 67), (3, .int x3), (5, .int x5)]) (st2 := [.int x3, .ref 97, .int x5]) (h2 := (sh_rep m.T m.I m.J)) rfl rfl rfl ?_
    exact kk
  obtain ⟨c, e⟩ := sh_gd e
  refine sh_Lk_lift (T := m.T) (I := m.I) (J := m.J) (s := m.s) (pc2 := 197) (lv2 := [(0, .ref 67), (3, .int x3), (5, .int x5)]) (st2 := [.int (m.I 96 (Int32.toNatClampNeg x3)), .int x5]) (I2 := m.I) (J2 := m.J) (fun hT v kk => ?_) ?_
  · refine sh_ia1 (x := m.I 96 (Int32.toNatClampNeg x3)) (pc2 := 197) rfl (sh_s96 hT.st) (sh_okb1 c) (sh_okb2 c) rfl rfl ?_
    exact kk
  rcases sh_ite e with ⟨c, e⟩ | ⟨c, e⟩
  · refine sh_Lk_lift (T := m.T) (I := m.I) (J := m.J) (s := m.s) (pc2 := 209) (lv2 := [(0, .ref 67), (3, .int x3), (5, .int x5)]) (st2 := [.int x3, .ref 98, .ref 93]) (I2 := m.I) (J2 := m.J) (fun hT v kk => ?_) ?_
    · refine sh_jc (c := .ge) (off := (36)) (pc2 := 200) false rfl (sh_Bgef c) rfl ?_
      refine sh_w (i := (.aload_n 0)) (len := 1) (pc2 := 201) (lv2 := [(0, .ref 67), (3, .int x3), (5, .int x5)]) (st2 := [.ref 67]) (h2 := (sh_rep m.T m.I m.J)) rfl rfl rfl ?_
      refine sh_gR1 (len := 3) (x := .ref 93) (pc2 := 204) rfl rfl (sh_s66 hT.st) rfl rfl ?_
      refine sh_w (i := (.aload_n 0)) (len := 1) (pc2 := 205) (lv2 := [(0, .ref 67), (3, .int x3), (5, .int x5)]) (st2 := [.ref 67, .ref 93]) (h2 := (sh_rep m.T m.I m.J)) rfl rfl rfl ?_
      refine sh_gR1 (len := 3) (x := .ref 98) (pc2 := 208) rfl rfl (sh_s66 hT.st) rfl rfl ?_
      refine sh_w (i := (.iload_n 3)) (len := 1) (pc2 := 209) (lv2 := [(0, .ref 67), (3, .int x3), (5, .int x5)]) (st2 := [.int x3, .ref 98, .ref 93]) (h2 := (sh_rep m.T m.I m.J)) rfl rfl rfl ?_
      exact kk
    obtain ⟨c, e⟩ := sh_gd e
    refine sh_Lk_lift (T := m.T) (I := m.I) (J := m.J) (s := m.s) (pc2 := 225) (lv2 := [(0, .ref 67), (3, .int x3), (5, .int x5)]) (st2 := [.int ((Int64.toInt32 (m.J 66 46)) + x5), .ref 93, .int ((m.I 97 (Int32.toNatClampNeg x3)) + x5), .ref 93]) (I2 := m.I) (J2 := m.J) (fun hT v kk => ?_) ?_
    · refine sh_ia1 (x := m.I 97 (Int32.toNatClampNeg x3)) (pc2 := 210) rfl (sh_s97 hT.st) (sh_okb1 c) (sh_okb2 c) rfl rfl ?_
      refine sh_w (i := (.iload 5)) (len := 2) (pc2 := 212) (lv2 := [(0, .ref 67), (3, .int x3), (5, .int x5)]) (st2 := [.int x5, .int (m.I 97 (Int32.toNatClampNeg x3)), .ref 93]) (h2 := (sh_rep m.T m.I m.J)) rfl rfl rfl ?_
      refine sh_w (i := .iadd) (len := 1) (pc2 := 213) (lv2 := [(0, .ref 67), (3, .int x3), (5, .int x5)]) (st2 := [.int ((m.I 97 (Int32.toNatClampNeg x3)) + x5), .ref 93]) (h2 := (sh_rep m.T m.I m.J)) rfl rfl rfl ?_
      refine sh_w (i := (.aload_n 0)) (len := 1) (pc2 := 214) (lv2 := [(0, .ref 67), (3, .int x3), (5, .int x5)]) (st2 := [.ref 67, .int ((m.I 97 (Int32.toNatClampNeg x3)) + x5), .ref 93]) (h2 := (sh_rep m.T m.I m.J)) rfl rfl rfl ?_
      refine sh_gR1 (len := 3) (x := .ref 93) (pc2 := 217) rfl rfl (sh_s66 hT.st) rfl rfl ?_
      refine sh_w (i := (.aload_n 0)) (len := 1) (pc2 := 218) (lv2 := [(0, .ref 67), (3, .int x3), (5, .int x5)]) (st2 := [.ref 67, .ref 93, .int ((m.I 97 (Int32.toNatClampNeg x3)) + x5), .ref 93]) (h2 := (sh_rep m.T m.I m.J)) rfl rfl rfl ?_
      refine sh_gJ1 (len := 3) (x := m.J 66 46) (pc2 := 221) rfl rfl (sh_s66 hT.st) rfl rfl rfl ?_
      refine sh_w (i := .l2i) (len := 1) (pc2 := 222) (lv2 := [(0, .ref 67), (3, .int x3), (5, .int x5)]) (st2 := [.int (Int64.toInt32 (m.J 66 46)), .ref 93, .int ((m.I 97 (Int32.toNatClampNeg x3)) + x5), .ref 93]) (h2 := (sh_rep m.T m.I m.J)) rfl rfl rfl ?_
      refine sh_w (i := (.iload 5)) (len := 2) (pc2 := 224) (lv2 := [(0, .ref 67), (3, .int x3), (5, .int x5)]) (st2 := [.int x5, .int (Int64.toInt32 (m.J 66 46)), .ref 93, .int ((m.I 97 (Int32.toNatClampNeg x3)) + x5), .ref 93]) (h2 := (sh_rep m.T m.I m.J)) rfl rfl rfl ?_
      refine sh_w (i := .iadd) (len := 1) (pc2 := 225) (lv2 := [(0, .ref 67), (3, .int x3), (5, .int x5)]) (st2 := [.int ((Int64.toInt32 (m.J 66 46)) + x5), .ref 93, .int ((m.I 97 (Int32.toNatClampNeg x3)) + x5), .ref 93]) (h2 := (sh_rep m.T m.I m.J)) rfl rfl rfl ?_
      exact kk
    obtain ⟨c, e⟩ := sh_gd e
    refine sh_Lk_lift (T := m.T) (I := m.I) (J := m.J) (s := m.s) (pc2 := 226) (lv2 := [(0, .ref 67), (3, .int x3), (5, .int x5)]) (st2 := [.long (m.J 92 (Int32.toNatClampNeg ((Int64.toInt32 (m.J 66 46)) + x5))), .int ((m.I 97 (Int32.toNatClampNeg x3)) + x5), .ref 93]) (I2 := m.I) (J2 := m.J) (fun hT v kk => ?_) ?_
    · refine sh_la1 (x := m.J 92 (Int32.toNatClampNeg ((Int64.toInt32 (m.J 66 46)) + x5))) (pc2 := 226) rfl (sh_s92 hT.st) (sh_okb1 c) (sh_okb2 c) rfl rfl ?_
      exact kk
    obtain ⟨c, e⟩ := sh_gd e
    refine sh_Lk_lift (T := m.T) (I := m.I) (J := m.J) (s := m.s) (pc2 := 189) (lv2 := [(5, .int (x5 + 1)), (0, .ref 67), (3, .int x3)]) (st2 := []) (I2 := m.I) (J2 := sh_u2 m.J 92 (Int32.toNatClampNeg ((m.I 97 (Int32.toNatClampNeg x3)) + x5)) (m.J 92 (Int32.toNatClampNeg ((Int64.toInt32 (m.J 66 46)) + x5)))) (fun hT v kk => ?_) ?_
    · refine sh_ls1 (x := m.J 92 (Int32.toNatClampNeg ((Int64.toInt32 (m.J 66 46)) + x5))) (i := (m.I 97 (Int32.toNatClampNeg x3)) + x5) (pc2 := 227) rfl (sh_s92 hT.st) (sh_okb1 c) (sh_okb2 c) rfl ?_
      refine sh_w (i := (.iinc 5 1)) (len := 3) (pc2 := 230) (lv2 := [(5, .int (x5 + 1)), (0, .ref 67), (3, .int x3)]) (st2 := []) (h2 := (sh_rep m.T m.I (sh_u2 m.J 92 (Int32.toNatClampNeg ((m.I 97 (Int32.toNatClampNeg x3)) + x5)) (m.J 92 (Int32.toNatClampNeg ((Int64.toInt32 (m.J 66 46)) + x5)))))) rfl rfl rfl ?_
      refine sh_w (i := (.goto (-41))) (len := 3) (pc2 := 189) (lv2 := [(5, .int (x5 + 1)), (0, .ref 67), (3, .int x3)]) (st2 := []) (h2 := (sh_rep m.T m.I (sh_u2 m.J 92 (Int32.toNatClampNeg ((m.I 97 (Int32.toNatClampNeg x3)) + x5)) (m.J 92 (Int32.toNatClampNeg ((Int64.toInt32 (m.J 66 46)) + x5)))))) rfl rfl rfl ?_
      exact kk
    obtain rfl := Option.some.inj e
    exact sh_Lk_sub (sh_sub_c rfl (sh_sub_c rfl (sh_sub_c rfl (sh_sub_n)))) tg
  · refine sh_Lk_lift (T := m.T) (I := m.I) (J := m.J) (s := m.s) (pc2 := 234) (lv2 := [(0, .ref 67), (3, .int x3), (5, .int x5)]) (st2 := [.int 1]) (I2 := m.I) (J2 := m.J) (fun hT v kk => ?_) ?_
    · refine sh_jc (c := .ge) (off := (36)) (pc2 := 233) true rfl (sh_Bget c) rfl ?_
      refine sh_w (i := (.iconst 1)) (len := 1) (pc2 := 234) (lv2 := [(0, .ref 67), (3, .int x3), (5, .int x5)]) (st2 := [.int 1]) (h2 := (sh_rep m.T m.I m.J)) rfl rfl rfl ?_
      exact kk
    obtain rfl := Option.some.inj e
    obtain ⟨rfl, rfl⟩ := tg
    exact sh_Lk_ret (i := .ireturn) rfl rfl rfl (by omega) (by omega)
theorem sl_319_189 {Q : sh_Q279} {d : Nat} {x3 : Int32} {x5 : Int32} {m m2 : sh_X} {o : Outcome} {z : (Bool × sh_X)} (hQ : sh_QL279 Q d) (e : sf_319_189 Q x3 x5 m = some z) (tg : (sh_tZ o m2) z) : sh_Lk 319 189 [(0, .ref 67), (3, .int x3), (5, .int x5)] [] m o m2 (d + 1 + 15) (40 * (d + 1) + 385) := by
  unfold sf_319_189 at e
  exact sh_while_lk (P := fun q => sh_Lk 319 189 [(0, .ref 67), (3, .int x3), (5, .int q.1)] [] q.2 o m2 (d + 1 + 15) (40 * (d + 1) + 385)) (Q := (sh_tZ o m2)) (fun q z e tg => sl_319_189s (x3 := x3) (x5 := q.1) (m := q.2) hQ e tg) (s := (x5, m)) e tg
theorem sl_319_186 {Q : sh_Q279} {d : Nat} {x3 : Int32} {m m2 : sh_X} {o : Outcome} {z : (Bool × sh_X)} (hQ : sh_QL279 Q d) (e : sf_319_186 Q x3 m = some z) (tg : (sh_tZ o m2) z) : sh_Lk 319 186 [(0, .ref 67), (3, .int x3)] [] m o m2 (d + 1 + 15) (40 * (d + 1) + 385) := by
  unfold sf_319_186 at e
  refine sh_Lk_lift (T := m.T) (I := m.I) (J := m.J) (s := m.s) (pc2 := 189) (lv2 := [(5, .int 0), (0, .ref 67), (3, .int x3)]) (st2 := []) (I2 := m.I) (J2 := m.J) (fun hT v kk => ?_) ?_
  · refine sh_w (i := (.iconst 0)) (len := 1) (pc2 := 187) (lv2 := [(0, .ref 67), (3, .int x3)]) (st2 := [.int 0]) (h2 := (sh_rep m.T m.I m.J)) rfl rfl rfl ?_
    refine sh_w (i := (.istore 5)) (len := 2) (pc2 := 189) (lv2 := [(5, .int 0), (0, .ref 67), (3, .int x3)]) (st2 := []) (h2 := (sh_rep m.T m.I m.J)) rfl rfl rfl ?_
    exact kk
  exact sh_Lk_sub (sh_sub_c rfl (sh_sub_c rfl (sh_sub_c rfl (sh_sub_n)))) (sl_319_189 hQ e tg)
theorem sl_319_153 {Q : sh_Q279} {d : Nat} {x3 : Int32} {m m2 : sh_X} {o : Outcome} {z : (Bool × sh_X)} (hQ : sh_QL279 Q d) (e : sf_319_153 Q x3 m = some z) (tg : (sh_tZ o m2) z) : sh_Lk 319 153 [(0, .ref 67), (3, .int x3)] [] m o m2 (d + 1 + 15) (40 * (d + 1) + 385) := by
  unfold sf_319_153 at e
  refine sh_Lk_lift (T := m.T) (I := m.I) (J := m.J) (s := m.s) (pc2 := 157) (lv2 := [(0, .ref 67), (3, .int x3)]) (st2 := [.int (m.I 66 57)]) (I2 := m.I) (J2 := m.J) (fun hT v kk => ?_) ?_
  · refine sh_w (i := (.aload_n 0)) (len := 1) (pc2 := 154) (lv2 := [(0, .ref 67), (3, .int x3)]) (st2 := [.ref 67]) (h2 := (sh_rep m.T m.I m.J)) rfl rfl rfl ?_
    refine sh_gI1 (len := 3) (x := m.I 66 57) (pc2 := 157) rfl rfl (sh_s66 hT.st) rfl rfl rfl ?_
    exact kk
  rcases sh_ite e with ⟨c, e⟩ | ⟨c, e⟩
  · refine sh_Lk_lift (T := m.T) (I := m.I) (J := m.J) (s := m.s) (pc2 := 161) (lv2 := [(0, .ref 67), (3, .int x3)]) (st2 := [.int 1]) (I2 := m.I) (J2 := m.J) (fun hT v kk => ?_) ?_
    · refine sh_j0 (c := .ne) (off := (5)) (pc2 := 160) false rfl (sh_Bnef c) rfl ?_
      refine sh_w (i := (.iconst 1)) (len := 1) (pc2 := 161) (lv2 := [(0, .ref 67), (3, .int x3)]) (st2 := [.int 1]) (h2 := (sh_rep m.T m.I m.J)) rfl rfl rfl ?_
      exact kk
    obtain rfl := Option.some.inj e
    obtain ⟨rfl, rfl⟩ := tg
    exact sh_Lk_ret (i := .ireturn) rfl rfl rfl (by omega) (by omega)
  · refine sh_Lk_lift (T := m.T) (I := m.I) (J := m.J) (s := m.s) (pc2 := 167) (lv2 := [(0, .ref 67), (3, .int x3)]) (st2 := [.int x3, .ref 97]) (I2 := m.I) (J2 := m.J) (fun hT v kk => ?_) ?_
    · refine sh_j0 (c := .ne) (off := (5)) (pc2 := 162) true rfl (sh_Bnet c) rfl ?_
      refine sh_w (i := (.aload_n 0)) (len := 1) (pc2 := 163) (lv2 := [(0, .ref 67), (3, .int x3)]) (st2 := [.ref 67]) (h2 := (sh_rep m.T m.I m.J)) rfl rfl rfl ?_
      refine sh_gR1 (len := 3) (x := .ref 97) (pc2 := 166) rfl rfl (sh_s66 hT.st) rfl rfl ?_
      refine sh_w (i := (.iload_n 3)) (len := 1) (pc2 := 167) (lv2 := [(0, .ref 67), (3, .int x3)]) (st2 := [.int x3, .ref 97]) (h2 := (sh_rep m.T m.I m.J)) rfl rfl rfl ?_
      exact kk
    obtain ⟨c, e⟩ := sh_gd e
    refine sh_Lk_lift (T := m.T) (I := m.I) (J := m.J) (s := m.s) (pc2 := 168) (lv2 := [(0, .ref 67), (3, .int x3)]) (st2 := [.int (m.I 96 (Int32.toNatClampNeg x3))]) (I2 := m.I) (J2 := m.J) (fun hT v kk => ?_) ?_
    · refine sh_ia1 (x := m.I 96 (Int32.toNatClampNeg x3)) (pc2 := 168) rfl (sh_s96 hT.st) (sh_okb1 c) (sh_okb2 c) rfl rfl ?_
      exact kk
    rcases sh_ite e with ⟨c, e⟩ | ⟨c, e⟩
    · refine sh_Lk_lift (T := m.T) (I := m.I) (J := m.J) (s := m.s) (pc2 := 180) (lv2 := [(0, .ref 67), (3, .int x3)]) (st2 := [.int x3, .ref 98, .ref 93]) (I2 := m.I) (J2 := m.J) (fun hT v kk => ?_) ?_
      · refine sh_j0 (c := .ne) (off := (18)) (pc2 := 171) false rfl (sh_Bnef c) rfl ?_
        refine sh_w (i := (.aload_n 0)) (len := 1) (pc2 := 172) (lv2 := [(0, .ref 67), (3, .int x3)]) (st2 := [.ref 67]) (h2 := (sh_rep m.T m.I m.J)) rfl rfl rfl ?_
        refine sh_gR1 (len := 3) (x := .ref 93) (pc2 := 175) rfl rfl (sh_s66 hT.st) rfl rfl ?_
        refine sh_w (i := (.aload_n 0)) (len := 1) (pc2 := 176) (lv2 := [(0, .ref 67), (3, .int x3)]) (st2 := [.ref 67, .ref 93]) (h2 := (sh_rep m.T m.I m.J)) rfl rfl rfl ?_
        refine sh_gR1 (len := 3) (x := .ref 98) (pc2 := 179) rfl rfl (sh_s66 hT.st) rfl rfl ?_
        refine sh_w (i := (.iload_n 3)) (len := 1) (pc2 := 180) (lv2 := [(0, .ref 67), (3, .int x3)]) (st2 := [.int x3, .ref 98, .ref 93]) (h2 := (sh_rep m.T m.I m.J)) rfl rfl rfl ?_
        exact kk
      obtain ⟨c, e⟩ := sh_gd e
      refine sh_Lk_lift (T := m.T) (I := m.I) (J := m.J) (s := m.s) (pc2 := 185) (lv2 := [(0, .ref 67), (3, .int x3)]) (st2 := [.long (m.J 66 46), .int (m.I 97 (Int32.toNatClampNeg x3)), .ref 93]) (I2 := m.I) (J2 := m.J) (fun hT v kk => ?_) ?_
      · refine sh_ia1 (x := m.I 97 (Int32.toNatClampNeg x3)) (pc2 := 181) rfl (sh_s97 hT.st) (sh_okb1 c) (sh_okb2 c) rfl rfl ?_
        refine sh_w (i := (.aload_n 0)) (len := 1) (pc2 := 182) (lv2 := [(0, .ref 67), (3, .int x3)]) (st2 := [.ref 67, .int (m.I 97 (Int32.toNatClampNeg x3)), .ref 93]) (h2 := (sh_rep m.T m.I m.J)) rfl rfl rfl ?_
        refine sh_gJ1 (len := 3) (x := m.J 66 46) (pc2 := 185) rfl rfl (sh_s66 hT.st) rfl rfl rfl ?_
        exact kk
      obtain ⟨c, e⟩ := sh_gd e
      refine sh_Lk_lift (T := m.T) (I := m.I) (J := m.J) (s := m.s) (pc2 := 186) (lv2 := [(0, .ref 67), (3, .int x3)]) (st2 := []) (I2 := m.I) (J2 := sh_u2 m.J 92 (Int32.toNatClampNeg (m.I 97 (Int32.toNatClampNeg x3))) (m.J 66 46)) (fun hT v kk => ?_) ?_
      · refine sh_ls1 (x := m.J 66 46) (i := m.I 97 (Int32.toNatClampNeg x3)) (pc2 := 186) rfl (sh_s92 hT.st) (sh_okb1 c) (sh_okb2 c) rfl ?_
        exact kk
      exact sh_Lk_sub (sh_sub_c rfl (sh_sub_c rfl (sh_sub_n))) (sl_319_186 hQ e tg)
    · refine sh_Lk_lift (T := m.T) (I := m.I) (J := m.J) (s := m.s) (pc2 := 186) (lv2 := [(0, .ref 67), (3, .int x3)]) (st2 := []) (I2 := m.I) (J2 := m.J) (fun hT v kk => ?_) ?_
      · refine sh_j0 (c := .ne) (off := (18)) (pc2 := 186) true rfl (sh_Bnet c) rfl ?_
        exact kk
      exact sh_Lk_sub (sh_sub_c rfl (sh_sub_c rfl (sh_sub_n))) (sl_319_186 hQ e tg)
theorem sl_319_419 {Q : sh_Q279} {d : Nat} {x3 : Int32} {x6 : Int64} {m m2 : sh_X} {o : Outcome} {z : (Bool × sh_X)} (hQ : sh_QL279 Q d) (e : sf_319_419 Q x3 x6 m = some z) (tg : (sh_tZ o m2) z) : sh_Lk 319 419 [(0, .ref 67), (3, .int x3), (6, .long x6)] [] m o m2 (d + 1 + 15) (40 * (d + 1) + 385) := by
  unfold sf_319_419 at e
  refine sh_Lk_lift (T := m.T) (I := m.I) (J := m.J) (s := m.s) (pc2 := 423) (lv2 := [(0, .ref 67), (3, .int x3), (6, .long x6)]) (st2 := [.int (m.I 66 57)]) (I2 := m.I) (J2 := m.J) (fun hT v kk => ?_) ?_
  · refine sh_w (i := (.aload_n 0)) (len := 1) (pc2 := 420) (lv2 := [(0, .ref 67), (3, .int x3), (6, .long x6)]) (st2 := [.ref 67]) (h2 := (sh_rep m.T m.I m.J)) rfl rfl rfl ?_
    refine sh_gI1 (len := 3) (x := m.I 66 57) (pc2 := 423) rfl rfl (sh_s66 hT.st) rfl rfl rfl ?_
    exact kk
  rcases sh_ite e with ⟨c, e⟩ | ⟨c, e⟩
  · refine sh_Lk_lift (T := m.T) (I := m.I) (J := m.J) (s := m.s) (pc2 := 466) (lv2 := [(0, .ref 67), (3, .int x3), (6, .long x6)]) (st2 := [.int 1]) (I2 := m.I) (J2 := m.J) (fun hT v kk => ?_) ?_
    · refine sh_j0 (c := .eq) (off := (42)) (pc2 := 465) true rfl (sh_Beqt c) rfl ?_
      refine sh_w (i := (.iconst 1)) (len := 1) (pc2 := 466) (lv2 := [(0, .ref 67), (3, .int x3), (6, .long x6)]) (st2 := [.int 1]) (h2 := (sh_rep m.T m.I m.J)) rfl rfl rfl ?_
      exact kk
    obtain rfl := Option.some.inj e
    obtain ⟨rfl, rfl⟩ := tg
    exact sh_Lk_ret (i := .ireturn) rfl rfl rfl (by omega) (by omega)
  · refine sh_Lk_lift (T := m.T) (I := m.I) (J := m.J) (s := m.s) (pc2 := 430) (lv2 := [(0, .ref 67), (3, .int x3), (6, .long x6)]) (st2 := [.int (lg_cmp x6 0)]) (I2 := m.I) (J2 := m.J) (fun hT v kk => ?_) ?_
    · refine sh_j0 (c := .eq) (off := (42)) (pc2 := 426) false rfl (sh_Beqf c) rfl ?_
      refine sh_w (i := (.lload 6)) (len := 2) (pc2 := 428) (lv2 := [(0, .ref 67), (3, .int x3), (6, .long x6)]) (st2 := [.long x6]) (h2 := (sh_rep m.T m.I m.J)) rfl rfl rfl ?_
      refine sh_w (i := (.lconst 0)) (len := 1) (pc2 := 429) (lv2 := [(0, .ref 67), (3, .int x3), (6, .long x6)]) (st2 := [.long 0, .long x6]) (h2 := (sh_rep m.T m.I m.J)) rfl rfl rfl ?_
      refine sh_w (i := .lcmp) (len := 1) (pc2 := 430) (lv2 := [(0, .ref 67), (3, .int x3), (6, .long x6)]) (st2 := [.int (lg_cmp x6 0)]) (h2 := (sh_rep m.T m.I m.J)) rfl rfl rfl ?_
      exact kk
    rcases sh_ite e with ⟨c, e⟩ | ⟨c, e⟩
    · refine sh_Lk_lift (T := m.T) (I := m.I) (J := m.J) (s := m.s) (pc2 := 466) (lv2 := [(0, .ref 67), (3, .int x3), (6, .long x6)]) (st2 := [.int 1]) (I2 := m.I) (J2 := m.J) (fun hT v kk => ?_) ?_
      · refine sh_j0 (c := .lt) (off := (35)) (pc2 := 465) true rfl (sh_Cltt c) rfl ?_
        refine sh_w (i := (.iconst 1)) (len := 1) (pc2 := 466) (lv2 := [(0, .ref 67), (3, .int x3), (6, .long x6)]) (st2 := [.int 1]) (h2 := (sh_rep m.T m.I m.J)) rfl rfl rfl ?_
        exact kk
      obtain rfl := Option.some.inj e
      obtain ⟨rfl, rfl⟩ := tg
      exact sh_Lk_ret (i := .ireturn) rfl rfl rfl (by omega) (by omega)
    · refine sh_Lk_lift (T := m.T) (I := m.I) (J := m.J) (s := m.s) (pc2 := 440) (lv2 := [(0, .ref 67), (3, .int x3), (6, .long x6)]) (st2 := [.int x3, .ref 97, .long x6]) (I2 := m.I) (J2 := m.J) (fun hT v kk => ?_) ?_
      · refine sh_j0 (c := .lt) (off := (35)) (pc2 := 433) false rfl (sh_Cltf c) rfl ?_
        refine sh_w (i := (.lload 6)) (len := 2) (pc2 := 435) (lv2 := [(0, .ref 67), (3, .int x3), (6, .long x6)]) (st2 := [.long x6]) (h2 := (sh_rep m.T m.I m.J)) rfl rfl rfl ?_
        refine sh_w (i := (.aload_n 0)) (len := 1) (pc2 := 436) (lv2 := [(0, .ref 67), (3, .int x3), (6, .long x6)]) (st2 := [.ref 67, .long x6]) (h2 := (sh_rep m.T m.I m.J)) rfl rfl rfl ?_
        refine sh_gR1 (len := 3) (x := .ref 97) (pc2 := 439) rfl rfl (sh_s66 hT.st) rfl rfl ?_
        refine sh_w (i := (.iload_n 3)) (len := 1) (pc2 := 440) (lv2 := [(0, .ref 67), (3, .int x3), (6, .long x6)]) (st2 := [.int x3, .ref 97, .long x6]) (h2 := (sh_rep m.T m.I m.J)) rfl rfl rfl ?_
        exact kk
      obtain ⟨c, e⟩ := sh_gd e
      refine sh_Lk_lift (T := m.T) (I := m.I) (J := m.J) (s := m.s) (pc2 := 443) (lv2 := [(0, .ref 67), (3, .int x3), (6, .long x6)]) (st2 := [.int (lg_cmp x6 (Int32.toInt64 (m.I 96 (Int32.toNatClampNeg x3))))]) (I2 := m.I) (J2 := m.J) (fun hT v kk => ?_) ?_
      · refine sh_ia1 (x := m.I 96 (Int32.toNatClampNeg x3)) (pc2 := 441) rfl (sh_s96 hT.st) (sh_okb1 c) (sh_okb2 c) rfl rfl ?_
        refine sh_w (i := .i2l) (len := 1) (pc2 := 442) (lv2 := [(0, .ref 67), (3, .int x3), (6, .long x6)]) (st2 := [.long (Int32.toInt64 (m.I 96 (Int32.toNatClampNeg x3))), .long x6]) (h2 := (sh_rep m.T m.I m.J)) rfl rfl rfl ?_
        refine sh_w (i := .lcmp) (len := 1) (pc2 := 443) (lv2 := [(0, .ref 67), (3, .int x3), (6, .long x6)]) (st2 := [.int (lg_cmp x6 (Int32.toInt64 (m.I 96 (Int32.toNatClampNeg x3))))]) (h2 := (sh_rep m.T m.I m.J)) rfl rfl rfl ?_
        exact kk
      rcases sh_ite e with ⟨c, e⟩ | ⟨c, e⟩
      · refine sh_Lk_lift (T := m.T) (I := m.I) (J := m.J) (s := m.s) (pc2 := 455) (lv2 := [(0, .ref 67), (3, .int x3), (6, .long x6)]) (st2 := [.int x3, .ref 98, .ref 93]) (I2 := m.I) (J2 := m.J) (fun hT v kk => ?_) ?_
        · refine sh_j0 (c := .ge) (off := (22)) (pc2 := 446) false rfl (sh_Cgef c) rfl ?_
          refine sh_w (i := (.aload_n 0)) (len := 1) (pc2 := 447) (lv2 := [(0, .ref 67), (3, .int x3), (6, .long x6)]) (st2 := [.ref 67]) (h2 := (sh_rep m.T m.I m.J)) rfl rfl rfl ?_
          refine sh_gR1 (len := 3) (x := .ref 93) (pc2 := 450) rfl rfl (sh_s66 hT.st) rfl rfl ?_
          refine sh_w (i := (.aload_n 0)) (len := 1) (pc2 := 451) (lv2 := [(0, .ref 67), (3, .int x3), (6, .long x6)]) (st2 := [.ref 67, .ref 93]) (h2 := (sh_rep m.T m.I m.J)) rfl rfl rfl ?_
          refine sh_gR1 (len := 3) (x := .ref 98) (pc2 := 454) rfl rfl (sh_s66 hT.st) rfl rfl ?_
          refine sh_w (i := (.iload_n 3)) (len := 1) (pc2 := 455) (lv2 := [(0, .ref 67), (3, .int x3), (6, .long x6)]) (st2 := [.int x3, .ref 98, .ref 93]) (h2 := (sh_rep m.T m.I m.J)) rfl rfl rfl ?_
          exact kk
        obtain ⟨c, e⟩ := sh_gd e
        refine sh_Lk_lift (T := m.T) (I := m.I) (J := m.J) (s := m.s) (pc2 := 464) (lv2 := [(0, .ref 67), (3, .int x3), (6, .long x6)]) (st2 := [.long (m.J 66 46), .int ((m.I 97 (Int32.toNatClampNeg x3)) + (Int64.toInt32 x6)), .ref 93]) (I2 := m.I) (J2 := m.J) (fun hT v kk => ?_) ?_
        · refine sh_ia1 (x := m.I 97 (Int32.toNatClampNeg x3)) (pc2 := 456) rfl (sh_s97 hT.st) (sh_okb1 c) (sh_okb2 c) rfl rfl ?_
          refine sh_w (i := (.lload 6)) (len := 2) (pc2 := 458) (lv2 := [(0, .ref 67), (3, .int x3), (6, .long x6)]) (st2 := [.long x6, .int (m.I 97 (Int32.toNatClampNeg x3)), .ref 93]) (h2 := (sh_rep m.T m.I m.J)) rfl rfl rfl ?_
          refine sh_w (i := .l2i) (len := 1) (pc2 := 459) (lv2 := [(0, .ref 67), (3, .int x3), (6, .long x6)]) (st2 := [.int (Int64.toInt32 x6), .int (m.I 97 (Int32.toNatClampNeg x3)), .ref 93]) (h2 := (sh_rep m.T m.I m.J)) rfl rfl rfl ?_
          refine sh_w (i := .iadd) (len := 1) (pc2 := 460) (lv2 := [(0, .ref 67), (3, .int x3), (6, .long x6)]) (st2 := [.int ((m.I 97 (Int32.toNatClampNeg x3)) + (Int64.toInt32 x6)), .ref 93]) (h2 := (sh_rep m.T m.I m.J)) rfl rfl rfl ?_
          refine sh_w (i := (.aload_n 0)) (len := 1) (pc2 := 461) (lv2 := [(0, .ref 67), (3, .int x3), (6, .long x6)]) (st2 := [.ref 67, .int ((m.I 97 (Int32.toNatClampNeg x3)) + (Int64.toInt32 x6)), .ref 93]) (h2 := (sh_rep m.T m.I m.J)) rfl rfl rfl ?_
          refine sh_gJ1 (len := 3) (x := m.J 66 46) (pc2 := 464) rfl rfl (sh_s66 hT.st) rfl rfl rfl ?_
          exact kk
        obtain ⟨c, e⟩ := sh_gd e
        refine sh_Lk_lift (T := m.T) (I := m.I) (J := m.J) (s := m.s) (pc2 := 466) (lv2 := [(0, .ref 67), (3, .int x3), (6, .long x6)]) (st2 := [.int 1]) (I2 := m.I) (J2 := sh_u2 m.J 92 (Int32.toNatClampNeg ((m.I 97 (Int32.toNatClampNeg x3)) + (Int64.toInt32 x6))) (m.J 66 46)) (fun hT v kk => ?_) ?_
        · refine sh_ls1 (x := m.J 66 46) (i := (m.I 97 (Int32.toNatClampNeg x3)) + (Int64.toInt32 x6)) (pc2 := 465) rfl (sh_s92 hT.st) (sh_okb1 c) (sh_okb2 c) rfl ?_
          refine sh_w (i := (.iconst 1)) (len := 1) (pc2 := 466) (lv2 := [(0, .ref 67), (3, .int x3), (6, .long x6)]) (st2 := [.int 1]) (h2 := (sh_rep m.T m.I (sh_u2 m.J 92 (Int32.toNatClampNeg ((m.I 97 (Int32.toNatClampNeg x3)) + (Int64.toInt32 x6))) (m.J 66 46)))) rfl rfl rfl ?_
          exact kk
        obtain rfl := Option.some.inj e
        obtain ⟨rfl, rfl⟩ := tg
        exact sh_Lk_ret (i := .ireturn) rfl rfl rfl (by omega) (by omega)
      · refine sh_Lk_lift (T := m.T) (I := m.I) (J := m.J) (s := m.s) (pc2 := 466) (lv2 := [(0, .ref 67), (3, .int x3), (6, .long x6)]) (st2 := [.int 1]) (I2 := m.I) (J2 := m.J) (fun hT v kk => ?_) ?_
        · refine sh_j0 (c := .ge) (off := (22)) (pc2 := 465) true rfl (sh_Cget c) rfl ?_
          refine sh_w (i := (.iconst 1)) (len := 1) (pc2 := 466) (lv2 := [(0, .ref 67), (3, .int x3), (6, .long x6)]) (st2 := [.int 1]) (h2 := (sh_rep m.T m.I m.J)) rfl rfl rfl ?_
          exact kk
        obtain rfl := Option.some.inj e
        obtain ⟨rfl, rfl⟩ := tg
        exact sh_Lk_ret (i := .ireturn) rfl rfl rfl (by omega) (by omega)
theorem sl_319_340 {Q : sh_Q279} {d : Nat} {x1 : Int32} {x2 : Int32} {x3 : Int32} {x4 : Int32} {x6 : Int64} {y0 : Int32} {m m2 : sh_X} {o : Outcome} {z : (Bool × sh_X)} (hQ : sh_QL279 Q d) (e : sf_319_340 Q x1 x2 x3 x4 x6 y0 m = some z) (tg : (sh_tZ o m2) z) : sh_Lk 319 340 [(0, .ref 67), (1, .int x1), (2, .int x2), (3, .int x3), (4, .int x4), (6, .long x6)] [.int y0] m o m2 (d + 1 + 15) (40 * (d + 1) + 385) := by
  unfold sf_319_340 at e
  refine sh_Lk_lift (T := m.T) (I := m.I) (J := m.J) (s := m.s) (pc2 := 348) (lv2 := [(8, .int y0), (0, .ref 67), (1, .int x1), (2, .int x2), (3, .int x3), (4, .int x4), (6, .long x6)]) (st2 := [.int x1, .ref 75, .ref 67]) (I2 := m.I) (J2 := m.J) (fun hT v kk => ?_) ?_
  · refine sh_w (i := (.istore 8)) (len := 2) (pc2 := 342) (lv2 := [(8, .int y0), (0, .ref 67), (1, .int x1), (2, .int x2), (3, .int x3), (4, .int x4), (6, .long x6)]) (st2 := []) (h2 := (sh_rep m.T m.I m.J)) rfl rfl rfl ?_
    refine sh_w (i := (.aload_n 0)) (len := 1) (pc2 := 343) (lv2 := [(8, .int y0), (0, .ref 67), (1, .int x1), (2, .int x2), (3, .int x3), (4, .int x4), (6, .long x6)]) (st2 := [.ref 67]) (h2 := (sh_rep m.T m.I m.J)) rfl rfl rfl ?_
    refine sh_w (i := (.aload_n 0)) (len := 1) (pc2 := 344) (lv2 := [(8, .int y0), (0, .ref 67), (1, .int x1), (2, .int x2), (3, .int x3), (4, .int x4), (6, .long x6)]) (st2 := [.ref 67, .ref 67]) (h2 := (sh_rep m.T m.I m.J)) rfl rfl rfl ?_
    refine sh_gR1 (len := 3) (x := .ref 75) (pc2 := 347) rfl rfl (sh_s66 hT.st) rfl rfl ?_
    refine sh_w (i := (.iload_n 1)) (len := 1) (pc2 := 348) (lv2 := [(8, .int y0), (0, .ref 67), (1, .int x1), (2, .int x2), (3, .int x3), (4, .int x4), (6, .long x6)]) (st2 := [.int x1, .ref 75, .ref 67]) (h2 := (sh_rep m.T m.I m.J)) rfl rfl rfl ?_
    exact kk
  obtain ⟨c, e⟩ := sh_gd e
  refine sh_Lk_lift (T := m.T) (I := m.I) (J := m.J) (s := m.s) (pc2 := 349) (lv2 := [(8, .int y0), (0, .ref 67), (1, .int x1), (2, .int x2), (3, .int x3), (4, .int x4), (6, .long x6)]) (st2 := [.int (m.I 74 (Int32.toNatClampNeg x1)), .ref 67]) (I2 := m.I) (J2 := m.J) (fun hT v kk => ?_) ?_
  · refine sh_ia1 (x := m.I 74 (Int32.toNatClampNeg x1)) (pc2 := 349) rfl (sh_s74 hT.st) (sh_okb1 c) (sh_okb2 c) rfl rfl ?_
    exact kk
  obtain ⟨r1, m11, e1, e⟩ := sh_bn_e e
  refine sh_Lk_cV (r := (some (.int (sh_b2 r1)))) (st2 := [.int (sh_b2 r1)]) (pc2 := 352) (k2 := 294) (a := 66) (as := [.ref 67, .int (m.I 74 (Int32.toNatClampNeg x1))]) (rest := []) rfl rfl rfl (fun hT => (sh_s66 hT.st)) rfl rfl ⟨Nat.le_of_ble_eq_true rfl, Nat.le_of_ble_eq_true rfl⟩ (hQ.f294 e1 ⟨rfl, rfl⟩) rfl rfl (show d + 15 + 1 ≤ d + 1 + 15 by omega) (show 8 + (5 + 11) + (40 * d + 385) ≤ 40 * (d + 1) + 385 by omega) ?_
  rcases sh_ite e with ⟨c, e⟩ | ⟨c, e⟩
  · refine sh_Lk_lift (T := m11.T) (I := m11.I) (J := m11.J) (s := m11.s) (pc2 := 361) (lv2 := [(8, .int y0), (0, .ref 67), (1, .int x1), (2, .int x2), (3, .int x3), (4, .int x4), (6, .long x6)]) (st2 := [.int x1, .ref 75, .ref 67]) (I2 := m11.I) (J2 := m11.J) (fun hT v kk => ?_) ?_
    · refine sh_j0 (c := .eq) (off := (29)) (pc2 := 355) false rfl (sh_Zeqf c) rfl ?_
      refine sh_w (i := (.aload_n 0)) (len := 1) (pc2 := 356) (lv2 := [(8, .int y0), (0, .ref 67), (1, .int x1), (2, .int x2), (3, .int x3), (4, .int x4), (6, .long x6)]) (st2 := [.ref 67]) (h2 := (sh_rep m11.T m11.I m11.J)) rfl rfl rfl ?_
      refine sh_w (i := (.aload_n 0)) (len := 1) (pc2 := 357) (lv2 := [(8, .int y0), (0, .ref 67), (1, .int x1), (2, .int x2), (3, .int x3), (4, .int x4), (6, .long x6)]) (st2 := [.ref 67, .ref 67]) (h2 := (sh_rep m11.T m11.I m11.J)) rfl rfl rfl ?_
      refine sh_gR1 (len := 3) (x := .ref 75) (pc2 := 360) rfl rfl (sh_s66 hT.st) rfl rfl ?_
      refine sh_w (i := (.iload_n 1)) (len := 1) (pc2 := 361) (lv2 := [(8, .int y0), (0, .ref 67), (1, .int x1), (2, .int x2), (3, .int x3), (4, .int x4), (6, .long x6)]) (st2 := [.int x1, .ref 75, .ref 67]) (h2 := (sh_rep m11.T m11.I m11.J)) rfl rfl rfl ?_
      exact kk
    obtain ⟨c, e⟩ := sh_gd e
    refine sh_Lk_lift (T := m11.T) (I := m11.I) (J := m11.J) (s := m11.s) (pc2 := 367) (lv2 := [(8, .int y0), (0, .ref 67), (1, .int x1), (2, .int x2), (3, .int x3), (4, .int x4), (6, .long x6)]) (st2 := [.int x3, .ref 95, .int (m11.I 74 (Int32.toNatClampNeg x1)), .ref 67]) (I2 := m11.I) (J2 := m11.J) (fun hT v kk => ?_) ?_
    · refine sh_ia1 (x := m11.I 74 (Int32.toNatClampNeg x1)) (pc2 := 362) rfl (sh_s74 hT.st) (sh_okb1 c) (sh_okb2 c) rfl rfl ?_
      refine sh_w (i := (.aload_n 0)) (len := 1) (pc2 := 363) (lv2 := [(8, .int y0), (0, .ref 67), (1, .int x1), (2, .int x2), (3, .int x3), (4, .int x4), (6, .long x6)]) (st2 := [.ref 67, .int (m11.I 74 (Int32.toNatClampNeg x1)), .ref 67]) (h2 := (sh_rep m11.T m11.I m11.J)) rfl rfl rfl ?_
      refine sh_gR1 (len := 3) (x := .ref 95) (pc2 := 366) rfl rfl (sh_s66 hT.st) rfl rfl ?_
      refine sh_w (i := (.iload_n 3)) (len := 1) (pc2 := 367) (lv2 := [(8, .int y0), (0, .ref 67), (1, .int x1), (2, .int x2), (3, .int x3), (4, .int x4), (6, .long x6)]) (st2 := [.int x3, .ref 95, .int (m11.I 74 (Int32.toNatClampNeg x1)), .ref 67]) (h2 := (sh_rep m11.T m11.I m11.J)) rfl rfl rfl ?_
      exact kk
    obtain ⟨c, e⟩ := sh_gd e
    refine sh_Lk_lift (T := m11.T) (I := m11.I) (J := m11.J) (s := m11.s) (pc2 := 373) (lv2 := [(8, .int y0), (0, .ref 67), (1, .int x1), (2, .int x2), (3, .int x3), (4, .int x4), (6, .long x6)]) (st2 := [.int x3, .ref 96, .int (m11.I 94 (Int32.toNatClampNeg x3)), .int (m11.I 74 (Int32.toNatClampNeg x1)), .ref 67]) (I2 := m11.I) (J2 := m11.J) (fun hT v kk => ?_) ?_
    · refine sh_ia1 (x := m11.I 94 (Int32.toNatClampNeg x3)) (pc2 := 368) rfl (sh_s94 hT.st) (sh_okb1 c) (sh_okb2 c) rfl rfl ?_
      refine sh_w (i := (.aload_n 0)) (len := 1) (pc2 := 369) (lv2 := [(8, .int y0), (0, .ref 67), (1, .int x1), (2, .int x2), (3, .int x3), (4, .int x4), (6, .long x6)]) (st2 := [.ref 67, .int (m11.I 94 (Int32.toNatClampNeg x3)), .int (m11.I 74 (Int32.toNatClampNeg x1)), .ref 67]) (h2 := (sh_rep m11.T m11.I m11.J)) rfl rfl rfl ?_
      refine sh_gR1 (len := 3) (x := .ref 96) (pc2 := 372) rfl rfl (sh_s66 hT.st) rfl rfl ?_
      refine sh_w (i := (.iload_n 3)) (len := 1) (pc2 := 373) (lv2 := [(8, .int y0), (0, .ref 67), (1, .int x1), (2, .int x2), (3, .int x3), (4, .int x4), (6, .long x6)]) (st2 := [.int x3, .ref 96, .int (m11.I 94 (Int32.toNatClampNeg x3)), .int (m11.I 74 (Int32.toNatClampNeg x1)), .ref 67]) (h2 := (sh_rep m11.T m11.I m11.J)) rfl rfl rfl ?_
      exact kk
    obtain ⟨c, e⟩ := sh_gd e
    refine sh_Lk_lift (T := m11.T) (I := m11.I) (J := m11.J) (s := m11.s) (pc2 := 375) (lv2 := [(8, .int y0), (0, .ref 67), (1, .int x1), (2, .int x2), (3, .int x3), (4, .int x4), (6, .long x6)]) (st2 := [.int 0, .int (m11.I 95 (Int32.toNatClampNeg x3)), .int (m11.I 94 (Int32.toNatClampNeg x3)), .int (m11.I 74 (Int32.toNatClampNeg x1)), .ref 67]) (I2 := m11.I) (J2 := m11.J) (fun hT v kk => ?_) ?_
    · refine sh_ia1 (x := m11.I 95 (Int32.toNatClampNeg x3)) (pc2 := 374) rfl (sh_s95 hT.st) (sh_okb1 c) (sh_okb2 c) rfl rfl ?_
      refine sh_w (i := (.iconst 0)) (len := 1) (pc2 := 375) (lv2 := [(8, .int y0), (0, .ref 67), (1, .int x1), (2, .int x2), (3, .int x3), (4, .int x4), (6, .long x6)]) (st2 := [.int 0, .int (m11.I 95 (Int32.toNatClampNeg x3)), .int (m11.I 94 (Int32.toNatClampNeg x3)), .int (m11.I 74 (Int32.toNatClampNeg x1)), .ref 67]) (h2 := (sh_rep m11.T m11.I m11.J)) rfl rfl rfl ?_
      exact kk
    obtain ⟨r2, m12, e2, e⟩ := sh_bn_e e
    refine sh_Lk_cV (r := (some (.int (sh_b2 r2)))) (st2 := [.int (sh_b2 r2)]) (pc2 := 378) (k2 := 317) (a := 66) (as := [.ref 67, .int (m11.I 74 (Int32.toNatClampNeg x1)), .int (m11.I 94 (Int32.toNatClampNeg x3)), .int (m11.I 95 (Int32.toNatClampNeg x3)), .int 0]) (rest := []) rfl rfl rfl (fun hT => (sh_s66 hT.st)) rfl rfl ⟨Nat.le_of_ble_eq_true rfl, Nat.le_of_ble_eq_true rfl⟩ (sl_317 e2 ⟨rfl, rfl⟩) rfl rfl (show 11 + 1 ≤ d + 1 + 15 by omega) (show 8 + (5 + 11) + (268) ≤ 40 * (d + 1) + 385 by omega) ?_
    rcases sh_ite e with ⟨c, e⟩ | ⟨c, e⟩
    · refine sh_Lk_lift (T := m12.T) (I := m12.I) (J := m12.J) (s := m12.s) (pc2 := 391) (lv2 := [(8, .int y0), (0, .ref 67), (1, .int x1), (2, .int x2), (3, .int x3), (4, .int x4), (6, .long x6)]) (st2 := [.int x1, .ref 77, .int y0, .ref 67]) (I2 := m12.I) (J2 := m12.J) (fun hT v kk => ?_) ?_
      · refine sh_j0 (c := .ne) (off := (5)) (pc2 := 383) true rfl (sh_Znet c) rfl ?_
        refine sh_w (i := (.aload_n 0)) (len := 1) (pc2 := 384) (lv2 := [(8, .int y0), (0, .ref 67), (1, .int x1), (2, .int x2), (3, .int x3), (4, .int x4), (6, .long x6)]) (st2 := [.ref 67]) (h2 := (sh_rep m12.T m12.I m12.J)) rfl rfl rfl ?_
        refine sh_w (i := (.iload 8)) (len := 2) (pc2 := 386) (lv2 := [(8, .int y0), (0, .ref 67), (1, .int x1), (2, .int x2), (3, .int x3), (4, .int x4), (6, .long x6)]) (st2 := [.int y0, .ref 67]) (h2 := (sh_rep m12.T m12.I m12.J)) rfl rfl rfl ?_
        refine sh_w (i := (.aload_n 0)) (len := 1) (pc2 := 387) (lv2 := [(8, .int y0), (0, .ref 67), (1, .int x1), (2, .int x2), (3, .int x3), (4, .int x4), (6, .long x6)]) (st2 := [.ref 67, .int y0, .ref 67]) (h2 := (sh_rep m12.T m12.I m12.J)) rfl rfl rfl ?_
        refine sh_gR1 (len := 3) (x := .ref 77) (pc2 := 390) rfl rfl (sh_s66 hT.st) rfl rfl ?_
        refine sh_w (i := (.iload_n 1)) (len := 1) (pc2 := 391) (lv2 := [(8, .int y0), (0, .ref 67), (1, .int x1), (2, .int x2), (3, .int x3), (4, .int x4), (6, .long x6)]) (st2 := [.int x1, .ref 77, .int y0, .ref 67]) (h2 := (sh_rep m12.T m12.I m12.J)) rfl rfl rfl ?_
        exact kk
      obtain ⟨c, e⟩ := sh_gd e
      refine sh_Lk_lift (T := m12.T) (I := m12.I) (J := m12.J) (s := m12.s) (pc2 := 392) (lv2 := [(8, .int y0), (0, .ref 67), (1, .int x1), (2, .int x2), (3, .int x3), (4, .int x4), (6, .long x6)]) (st2 := [.int (m12.I 76 (Int32.toNatClampNeg x1)), .int y0, .ref 67]) (I2 := m12.I) (J2 := m12.J) (fun hT v kk => ?_) ?_
      · refine sh_ia1 (x := m12.I 76 (Int32.toNatClampNeg x1)) (pc2 := 392) rfl (sh_s76 hT.st) (sh_okb1 c) (sh_okb2 c) rfl rfl ?_
        exact kk
      obtain ⟨r3, m13, e3, e⟩ := sh_bn_e e
      refine sh_Lk_cV (r := (some (.int (sh_b2 r3)))) (st2 := [.int (sh_b2 r3)]) (pc2 := 395) (k2 := 292) (a := 66) (as := [.ref 67, .int y0, .int (m12.I 76 (Int32.toNatClampNeg x1))]) (rest := []) rfl rfl rfl (fun hT => (sh_s66 hT.st)) rfl rfl ⟨Nat.le_of_ble_eq_true rfl, Nat.le_of_ble_eq_true rfl⟩ (sl_292 e3 ⟨rfl, rfl⟩) rfl rfl (show 9 + 1 ≤ d + 1 + 15 by omega) (show 8 + (3 + 11) + (222) ≤ 40 * (d + 1) + 385 by omega) ?_
      rcases sh_ite e with ⟨c, e⟩ | ⟨c, e⟩
      · refine sh_Lk_lift (T := m13.T) (I := m13.I) (J := m13.J) (s := m13.s) (pc2 := 404) (lv2 := [(8, .int y0), (0, .ref 67), (1, .int x1), (2, .int x2), (3, .int x3), (4, .int x4), (6, .long x6)]) (st2 := [.int (m13.I 66 56)]) (I2 := m13.I) (J2 := m13.J) (fun hT v kk => ?_) ?_
        · refine sh_j0 (c := .ne) (off := (5)) (pc2 := 400) true rfl (sh_Znet c) rfl ?_
          refine sh_w (i := (.aload_n 0)) (len := 1) (pc2 := 401) (lv2 := [(8, .int y0), (0, .ref 67), (1, .int x1), (2, .int x2), (3, .int x3), (4, .int x4), (6, .long x6)]) (st2 := [.ref 67]) (h2 := (sh_rep m13.T m13.I m13.J)) rfl rfl rfl ?_
          refine sh_gI1 (len := 3) (x := m13.I 66 56) (pc2 := 404) rfl rfl (sh_s66 hT.st) rfl rfl rfl ?_
          exact kk
        rcases sh_ite e with ⟨c, e⟩ | ⟨c, e⟩
        · refine sh_Lk_lift (T := m13.T) (I := m13.I) (J := m13.J) (s := m13.s) (pc2 := 411) (lv2 := [(8, .int y0), (0, .ref 67), (1, .int x1), (2, .int x2), (3, .int x3), (4, .int x4), (6, .long x6)]) (st2 := [.int x2, .int x4, .ref 67]) (I2 := m13.I) (J2 := m13.J) (fun hT v kk => ?_) ?_
          · refine sh_j0 (c := .le) (off := (15)) (pc2 := 407) false rfl (sh_Blef c) rfl ?_
            refine sh_w (i := (.aload_n 0)) (len := 1) (pc2 := 408) (lv2 := [(8, .int y0), (0, .ref 67), (1, .int x1), (2, .int x2), (3, .int x3), (4, .int x4), (6, .long x6)]) (st2 := [.ref 67]) (h2 := (sh_rep m13.T m13.I m13.J)) rfl rfl rfl ?_
            refine sh_w (i := (.iload 4)) (len := 2) (pc2 := 410) (lv2 := [(8, .int y0), (0, .ref 67), (1, .int x1), (2, .int x2), (3, .int x3), (4, .int x4), (6, .long x6)]) (st2 := [.int x4, .ref 67]) (h2 := (sh_rep m13.T m13.I m13.J)) rfl rfl rfl ?_
            refine sh_w (i := (.iload_n 2)) (len := 1) (pc2 := 411) (lv2 := [(8, .int y0), (0, .ref 67), (1, .int x1), (2, .int x2), (3, .int x3), (4, .int x4), (6, .long x6)]) (st2 := [.int x2, .int x4, .ref 67]) (h2 := (sh_rep m13.T m13.I m13.J)) rfl rfl rfl ?_
            exact kk
          obtain ⟨r4, m14, e4, e⟩ := sh_bn_e e
          refine sh_Lk_cV (r := (some (.int (sh_b2 r4)))) (st2 := [.int (sh_b2 r4)]) (pc2 := 414) (k2 := 292) (a := 66) (as := [.ref 67, .int x4, .int x2]) (rest := []) rfl rfl rfl (fun hT => (sh_s66 hT.st)) rfl rfl ⟨Nat.le_of_ble_eq_true rfl, Nat.le_of_ble_eq_true rfl⟩ (sl_292 e4 ⟨rfl, rfl⟩) rfl rfl (show 9 + 1 ≤ d + 1 + 15 by omega) (show 8 + (3 + 11) + (222) ≤ 40 * (d + 1) + 385 by omega) ?_
          rcases sh_ite e with ⟨c, e⟩ | ⟨c, e⟩
          · refine sh_Lk_lift (T := m14.T) (I := m14.I) (J := m14.J) (s := m14.s) (pc2 := 419) (lv2 := [(8, .int y0), (0, .ref 67), (1, .int x1), (2, .int x2), (3, .int x3), (4, .int x4), (6, .long x6)]) (st2 := []) (I2 := m14.I) (J2 := m14.J) (fun hT v kk => ?_) ?_
            · refine sh_j0 (c := .ne) (off := (5)) (pc2 := 419) true rfl (sh_Znet c) rfl ?_
              exact kk
            exact sh_Lk_sub (sh_sub_c rfl (sh_sub_c rfl (sh_sub_c rfl (sh_sub_n)))) (sl_319_419 hQ e tg)
          · refine sh_Lk_lift (T := m14.T) (I := m14.I) (J := m14.J) (s := m14.s) (pc2 := 418) (lv2 := [(8, .int y0), (0, .ref 67), (1, .int x1), (2, .int x2), (3, .int x3), (4, .int x4), (6, .long x6)]) (st2 := [.int 0]) (I2 := m14.I) (J2 := m14.J) (fun hT v kk => ?_) ?_
            · refine sh_j0 (c := .ne) (off := (5)) (pc2 := 417) false rfl (sh_Znef c) rfl ?_
              refine sh_w (i := (.iconst 0)) (len := 1) (pc2 := 418) (lv2 := [(8, .int y0), (0, .ref 67), (1, .int x1), (2, .int x2), (3, .int x3), (4, .int x4), (6, .long x6)]) (st2 := [.int 0]) (h2 := (sh_rep m14.T m14.I m14.J)) rfl rfl rfl ?_
              exact kk
            obtain rfl := Option.some.inj e
            obtain ⟨rfl, rfl⟩ := tg
            exact sh_Lk_ret (i := .ireturn) rfl rfl rfl (by omega) (by omega)
        · refine sh_Lk_lift (T := m13.T) (I := m13.I) (J := m13.J) (s := m13.s) (pc2 := 419) (lv2 := [(8, .int y0), (0, .ref 67), (1, .int x1), (2, .int x2), (3, .int x3), (4, .int x4), (6, .long x6)]) (st2 := []) (I2 := m13.I) (J2 := m13.J) (fun hT v kk => ?_) ?_
          · refine sh_j0 (c := .le) (off := (15)) (pc2 := 419) true rfl (sh_Blet c) rfl ?_
            exact kk
          exact sh_Lk_sub (sh_sub_c rfl (sh_sub_c rfl (sh_sub_c rfl (sh_sub_n)))) (sl_319_419 hQ e tg)
      · refine sh_Lk_lift (T := m13.T) (I := m13.I) (J := m13.J) (s := m13.s) (pc2 := 399) (lv2 := [(8, .int y0), (0, .ref 67), (1, .int x1), (2, .int x2), (3, .int x3), (4, .int x4), (6, .long x6)]) (st2 := [.int 0]) (I2 := m13.I) (J2 := m13.J) (fun hT v kk => ?_) ?_
        · refine sh_j0 (c := .ne) (off := (5)) (pc2 := 398) false rfl (sh_Znef c) rfl ?_
          refine sh_w (i := (.iconst 0)) (len := 1) (pc2 := 399) (lv2 := [(8, .int y0), (0, .ref 67), (1, .int x1), (2, .int x2), (3, .int x3), (4, .int x4), (6, .long x6)]) (st2 := [.int 0]) (h2 := (sh_rep m13.T m13.I m13.J)) rfl rfl rfl ?_
          exact kk
        obtain rfl := Option.some.inj e
        obtain ⟨rfl, rfl⟩ := tg
        exact sh_Lk_ret (i := .ireturn) rfl rfl rfl (by omega) (by omega)
    · refine sh_Lk_lift (T := m12.T) (I := m12.I) (J := m12.J) (s := m12.s) (pc2 := 382) (lv2 := [(8, .int y0), (0, .ref 67), (1, .int x1), (2, .int x2), (3, .int x3), (4, .int x4), (6, .long x6)]) (st2 := [.int 0]) (I2 := m12.I) (J2 := m12.J) (fun hT v kk => ?_) ?_
      · refine sh_j0 (c := .ne) (off := (5)) (pc2 := 381) false rfl (sh_Znef c) rfl ?_
        refine sh_w (i := (.iconst 0)) (len := 1) (pc2 := 382) (lv2 := [(8, .int y0), (0, .ref 67), (1, .int x1), (2, .int x2), (3, .int x3), (4, .int x4), (6, .long x6)]) (st2 := [.int 0]) (h2 := (sh_rep m12.T m12.I m12.J)) rfl rfl rfl ?_
        exact kk
      obtain rfl := Option.some.inj e
      obtain ⟨rfl, rfl⟩ := tg
      exact sh_Lk_ret (i := .ireturn) rfl rfl rfl (by omega) (by omega)
  · refine sh_Lk_lift (T := m11.T) (I := m11.I) (J := m11.J) (s := m11.s) (pc2 := 382) (lv2 := [(8, .int y0), (0, .ref 67), (1, .int x1), (2, .int x2), (3, .int x3), (4, .int x4), (6, .long x6)]) (st2 := [.int 0]) (I2 := m11.I) (J2 := m11.J) (fun hT v kk => ?_) ?_
    · refine sh_j0 (c := .eq) (off := (29)) (pc2 := 381) true rfl (sh_Zeqt c) rfl ?_
      refine sh_w (i := (.iconst 0)) (len := 1) (pc2 := 382) (lv2 := [(8, .int y0), (0, .ref 67), (1, .int x1), (2, .int x2), (3, .int x3), (4, .int x4), (6, .long x6)]) (st2 := [.int 0]) (h2 := (sh_rep m11.T m11.I m11.J)) rfl rfl rfl ?_
      exact kk
    obtain rfl := Option.some.inj e
    obtain ⟨rfl, rfl⟩ := tg
    exact sh_Lk_ret (i := .ireturn) rfl rfl rfl (by omega) (by omega)
theorem sl_319_289 {Q : sh_Q279} {d : Nat} {x1 : Int32} {x2 : Int32} {x3 : Int32} {x4 : Int32} {y0 : Bool} {m m2 : sh_X} {o : Outcome} {z : (Bool × sh_X)} (hQ : sh_QL279 Q d) (e : sf_319_289 Q x1 x2 x3 x4 y0 m = some z) (tg : (sh_tZ o m2) z) : sh_Lk 319 289 [(0, .ref 67), (1, .int x1), (2, .int x2), (3, .int x3), (4, .int x4)] [.int (sh_b2 y0)] m o m2 (d + 1 + 15) (40 * (d + 1) + 385) := by
  unfold sf_319_289 at e
  refine sh_Lk_lift (T := m.T) (I := m.I) (J := m.J) (s := m.s) (pc2 := 297) (lv2 := [(5, .int (sh_b2 y0)), (0, .ref 67), (1, .int x1), (2, .int x2), (3, .int x3), (4, .int x4)]) (st2 := [.int x1, .ref 76, .ref 67]) (I2 := m.I) (J2 := m.J) (fun hT v kk => ?_) ?_
  · refine sh_w (i := (.istore 5)) (len := 2) (pc2 := 291) (lv2 := [(5, .int (sh_b2 y0)), (0, .ref 67), (1, .int x1), (2, .int x2), (3, .int x3), (4, .int x4)]) (st2 := []) (h2 := (sh_rep m.T m.I m.J)) rfl rfl rfl ?_
    refine sh_w (i := (.aload_n 0)) (len := 1) (pc2 := 292) (lv2 := [(5, .int (sh_b2 y0)), (0, .ref 67), (1, .int x1), (2, .int x2), (3, .int x3), (4, .int x4)]) (st2 := [.ref 67]) (h2 := (sh_rep m.T m.I m.J)) rfl rfl rfl ?_
    refine sh_w (i := (.aload_n 0)) (len := 1) (pc2 := 293) (lv2 := [(5, .int (sh_b2 y0)), (0, .ref 67), (1, .int x1), (2, .int x2), (3, .int x3), (4, .int x4)]) (st2 := [.ref 67, .ref 67]) (h2 := (sh_rep m.T m.I m.J)) rfl rfl rfl ?_
    refine sh_gR1 (len := 3) (x := .ref 76) (pc2 := 296) rfl rfl (sh_s66 hT.st) rfl rfl ?_
    refine sh_w (i := (.iload_n 1)) (len := 1) (pc2 := 297) (lv2 := [(5, .int (sh_b2 y0)), (0, .ref 67), (1, .int x1), (2, .int x2), (3, .int x3), (4, .int x4)]) (st2 := [.int x1, .ref 76, .ref 67]) (h2 := (sh_rep m.T m.I m.J)) rfl rfl rfl ?_
    exact kk
  obtain ⟨c, e⟩ := sh_gd e
  refine sh_Lk_lift (T := m.T) (I := m.I) (J := m.J) (s := m.s) (pc2 := 298) (lv2 := [(5, .int (sh_b2 y0)), (0, .ref 67), (1, .int x1), (2, .int x2), (3, .int x3), (4, .int x4)]) (st2 := [.int (m.I 75 (Int32.toNatClampNeg x1)), .ref 67]) (I2 := m.I) (J2 := m.J) (fun hT v kk => ?_) ?_
  · refine sh_ia1 (x := m.I 75 (Int32.toNatClampNeg x1)) (pc2 := 298) rfl (sh_s75 hT.st) (sh_okb1 c) (sh_okb2 c) rfl rfl ?_
    exact kk
  obtain ⟨r1, m11, e1, e⟩ := sh_bn_e e
  refine sh_Lk_cV (r := (some (.int (sh_b2 r1)))) (st2 := [.int (sh_b2 r1)]) (pc2 := 301) (k2 := 310) (a := 66) (as := [.ref 67, .int (m.I 75 (Int32.toNatClampNeg x1))]) (rest := []) rfl rfl rfl (fun hT => (sh_s66 hT.st)) rfl rfl ⟨Nat.le_of_ble_eq_true rfl, Nat.le_of_ble_eq_true rfl⟩ (sl_310 e1 ⟨rfl, rfl⟩) rfl rfl (show 9 + 1 ≤ d + 1 + 15 by omega) (show 8 + (2 + 11) + (223) ≤ 40 * (d + 1) + 385 by omega) ?_
  rcases sh_ite e with ⟨c, e⟩ | ⟨c, e⟩
  · refine sh_Lk_lift (T := m11.T) (I := m11.I) (J := m11.J) (s := m11.s) (pc2 := 314) (lv2 := [(6, .long (m11.J 66 46)), (5, .int (sh_b2 y0)), (0, .ref 67), (1, .int x1), (2, .int x2), (3, .int x3), (4, .int x4)]) (st2 := [.int (sh_b2 y0)]) (I2 := m11.I) (J2 := m11.J) (fun hT v kk => ?_) ?_
    · refine sh_j0 (c := .ne) (off := (5)) (pc2 := 306) true rfl (sh_Znet c) rfl ?_
      refine sh_w (i := (.aload_n 0)) (len := 1) (pc2 := 307) (lv2 := [(5, .int (sh_b2 y0)), (0, .ref 67), (1, .int x1), (2, .int x2), (3, .int x3), (4, .int x4)]) (st2 := [.ref 67]) (h2 := (sh_rep m11.T m11.I m11.J)) rfl rfl rfl ?_
      refine sh_gJ1 (len := 3) (x := m11.J 66 46) (pc2 := 310) rfl rfl (sh_s66 hT.st) rfl rfl rfl ?_
      refine sh_w (i := (.lstore 6)) (len := 2) (pc2 := 312) (lv2 := [(6, .long (m11.J 66 46)), (5, .int (sh_b2 y0)), (0, .ref 67), (1, .int x1), (2, .int x2), (3, .int x3), (4, .int x4)]) (st2 := []) (h2 := (sh_rep m11.T m11.I m11.J)) rfl rfl rfl ?_
      refine sh_w (i := (.iload 5)) (len := 2) (pc2 := 314) (lv2 := [(6, .long (m11.J 66 46)), (5, .int (sh_b2 y0)), (0, .ref 67), (1, .int x1), (2, .int x2), (3, .int x3), (4, .int x4)]) (st2 := [.int (sh_b2 y0)]) (h2 := (sh_rep m11.T m11.I m11.J)) rfl rfl rfl ?_
      exact kk
    rcases sh_ite e with ⟨c, e⟩ | ⟨c, e⟩
    · refine sh_Lk_lift (T := m11.T) (I := m11.I) (J := m11.J) (s := m11.s) (pc2 := 340) (lv2 := [(6, .long (m11.J 66 46)), (5, .int (sh_b2 y0)), (0, .ref 67), (1, .int x1), (2, .int x2), (3, .int x3), (4, .int x4)]) (st2 := [.int x4]) (I2 := m11.I) (J2 := m11.J) (fun hT v kk => ?_) ?_
      · refine sh_j0 (c := .eq) (off := (8)) (pc2 := 317) false rfl (sh_Zeqf c) rfl ?_
        refine sh_w (i := (.iload 4)) (len := 2) (pc2 := 319) (lv2 := [(6, .long (m11.J 66 46)), (5, .int (sh_b2 y0)), (0, .ref 67), (1, .int x1), (2, .int x2), (3, .int x3), (4, .int x4)]) (st2 := [.int x4]) (h2 := (sh_rep m11.T m11.I m11.J)) rfl rfl rfl ?_
        refine sh_w (i := (.goto 21)) (len := 3) (pc2 := 340) (lv2 := [(6, .long (m11.J 66 46)), (5, .int (sh_b2 y0)), (0, .ref 67), (1, .int x1), (2, .int x2), (3, .int x3), (4, .int x4)]) (st2 := [.int x4]) (h2 := (sh_rep m11.T m11.I m11.J)) rfl rfl rfl ?_
        exact kk
      exact sh_Lk_sub (sh_sub_c rfl (sh_sub_c rfl (sh_sub_c rfl (sh_sub_c rfl (sh_sub_c rfl (sh_sub_c rfl (sh_sub_n))))))) (sl_319_340 hQ e tg)
    · refine sh_Lk_lift (T := m11.T) (I := m11.I) (J := m11.J) (s := m11.s) (pc2 := 327) (lv2 := [(6, .long (m11.J 66 46)), (5, .int (sh_b2 y0)), (0, .ref 67), (1, .int x1), (2, .int x2), (3, .int x3), (4, .int x4)]) (st2 := [.int x3, .ref 97]) (I2 := m11.I) (J2 := m11.J) (fun hT v kk => ?_) ?_
      · refine sh_j0 (c := .eq) (off := (8)) (pc2 := 322) true rfl (sh_Zeqt c) rfl ?_
        refine sh_w (i := (.aload_n 0)) (len := 1) (pc2 := 323) (lv2 := [(6, .long (m11.J 66 46)), (5, .int (sh_b2 y0)), (0, .ref 67), (1, .int x1), (2, .int x2), (3, .int x3), (4, .int x4)]) (st2 := [.ref 67]) (h2 := (sh_rep m11.T m11.I m11.J)) rfl rfl rfl ?_
        refine sh_gR1 (len := 3) (x := .ref 97) (pc2 := 326) rfl rfl (sh_s66 hT.st) rfl rfl ?_
        refine sh_w (i := (.iload_n 3)) (len := 1) (pc2 := 327) (lv2 := [(6, .long (m11.J 66 46)), (5, .int (sh_b2 y0)), (0, .ref 67), (1, .int x1), (2, .int x2), (3, .int x3), (4, .int x4)]) (st2 := [.int x3, .ref 97]) (h2 := (sh_rep m11.T m11.I m11.J)) rfl rfl rfl ?_
        exact kk
      obtain ⟨c, e⟩ := sh_gd e
      refine sh_Lk_lift (T := m11.T) (I := m11.I) (J := m11.J) (s := m11.s) (pc2 := 333) (lv2 := [(6, .long (m11.J 66 46)), (5, .int (sh_b2 y0)), (0, .ref 67), (1, .int x1), (2, .int x2), (3, .int x3), (4, .int x4)]) (st2 := [.int x3, .ref 96, .int (m11.I 96 (Int32.toNatClampNeg x3))]) (I2 := m11.I) (J2 := m11.J) (fun hT v kk => ?_) ?_
      · refine sh_ia1 (x := m11.I 96 (Int32.toNatClampNeg x3)) (pc2 := 328) rfl (sh_s96 hT.st) (sh_okb1 c) (sh_okb2 c) rfl rfl ?_
        refine sh_w (i := (.aload_n 0)) (len := 1) (pc2 := 329) (lv2 := [(6, .long (m11.J 66 46)), (5, .int (sh_b2 y0)), (0, .ref 67), (1, .int x1), (2, .int x2), (3, .int x3), (4, .int x4)]) (st2 := [.ref 67, .int (m11.I 96 (Int32.toNatClampNeg x3))]) (h2 := (sh_rep m11.T m11.I m11.J)) rfl rfl rfl ?_
        refine sh_gR1 (len := 3) (x := .ref 96) (pc2 := 332) rfl rfl (sh_s66 hT.st) rfl rfl ?_
        refine sh_w (i := (.iload_n 3)) (len := 1) (pc2 := 333) (lv2 := [(6, .long (m11.J 66 46)), (5, .int (sh_b2 y0)), (0, .ref 67), (1, .int x1), (2, .int x2), (3, .int x3), (4, .int x4)]) (st2 := [.int x3, .ref 96, .int (m11.I 96 (Int32.toNatClampNeg x3))]) (h2 := (sh_rep m11.T m11.I m11.J)) rfl rfl rfl ?_
        exact kk
      obtain ⟨c, e⟩ := sh_gd e
      refine sh_Lk_lift (T := m11.T) (I := m11.I) (J := m11.J) (s := m11.s) (pc2 := 340) (lv2 := [(6, .long (m11.J 66 46)), (5, .int (sh_b2 y0)), (0, .ref 67), (1, .int x1), (2, .int x2), (3, .int x3), (4, .int x4)]) (st2 := [.int ((m11.I 96 (Int32.toNatClampNeg x3)) * ((m11.I 95 (Int32.toNatClampNeg x3)) + (m11.I 66 44)))]) (I2 := m11.I) (J2 := m11.J) (fun hT v kk => ?_) ?_
      · refine sh_ia1 (x := m11.I 95 (Int32.toNatClampNeg x3)) (pc2 := 334) rfl (sh_s95 hT.st) (sh_okb1 c) (sh_okb2 c) rfl rfl ?_
        refine sh_w (i := (.aload_n 0)) (len := 1) (pc2 := 335) (lv2 := [(6, .long (m11.J 66 46)), (5, .int (sh_b2 y0)), (0, .ref 67), (1, .int x1), (2, .int x2), (3, .int x3), (4, .int x4)]) (st2 := [.ref 67, .int (m11.I 95 (Int32.toNatClampNeg x3)), .int (m11.I 96 (Int32.toNatClampNeg x3))]) (h2 := (sh_rep m11.T m11.I m11.J)) rfl rfl rfl ?_
        refine sh_gI1 (len := 3) (x := m11.I 66 44) (pc2 := 338) rfl rfl (sh_s66 hT.st) rfl rfl rfl ?_
        refine sh_w (i := .iadd) (len := 1) (pc2 := 339) (lv2 := [(6, .long (m11.J 66 46)), (5, .int (sh_b2 y0)), (0, .ref 67), (1, .int x1), (2, .int x2), (3, .int x3), (4, .int x4)]) (st2 := [.int ((m11.I 95 (Int32.toNatClampNeg x3)) + (m11.I 66 44)), .int (m11.I 96 (Int32.toNatClampNeg x3))]) (h2 := (sh_rep m11.T m11.I m11.J)) rfl rfl rfl ?_
        refine sh_w (i := .imul) (len := 1) (pc2 := 340) (lv2 := [(6, .long (m11.J 66 46)), (5, .int (sh_b2 y0)), (0, .ref 67), (1, .int x1), (2, .int x2), (3, .int x3), (4, .int x4)]) (st2 := [.int ((m11.I 96 (Int32.toNatClampNeg x3)) * ((m11.I 95 (Int32.toNatClampNeg x3)) + (m11.I 66 44)))]) (h2 := (sh_rep m11.T m11.I m11.J)) rfl rfl rfl ?_
        exact kk
      exact sh_Lk_sub (sh_sub_c rfl (sh_sub_c rfl (sh_sub_c rfl (sh_sub_c rfl (sh_sub_c rfl (sh_sub_c rfl (sh_sub_n))))))) (sl_319_340 hQ e tg)
  · refine sh_Lk_lift (T := m11.T) (I := m11.I) (J := m11.J) (s := m11.s) (pc2 := 305) (lv2 := [(5, .int (sh_b2 y0)), (0, .ref 67), (1, .int x1), (2, .int x2), (3, .int x3), (4, .int x4)]) (st2 := [.int 0]) (I2 := m11.I) (J2 := m11.J) (fun hT v kk => ?_) ?_
    · refine sh_j0 (c := .ne) (off := (5)) (pc2 := 304) false rfl (sh_Znef c) rfl ?_
      refine sh_w (i := (.iconst 0)) (len := 1) (pc2 := 305) (lv2 := [(5, .int (sh_b2 y0)), (0, .ref 67), (1, .int x1), (2, .int x2), (3, .int x3), (4, .int x4)]) (st2 := [.int 0]) (h2 := (sh_rep m11.T m11.I m11.J)) rfl rfl rfl ?_
      exact kk
    obtain rfl := Option.some.inj e
    obtain ⟨rfl, rfl⟩ := tg
    exact sh_Lk_ret (i := .ireturn) rfl rfl rfl (by omega) (by omega)
theorem sl_319_76 {Q : sh_Q279} {d : Nat} {x1 : Int32} {x2 : Int32} {x3 : Int32} {y0 : Int32} {y1 : Int32} {m m2 : sh_X} {o : Outcome} {z : (Bool × sh_X)} (hQ : sh_QL279 Q d) (e : sf_319_76 Q x1 x2 x3 y0 y1 m = some z) (tg : (sh_tZ o m2) z) : sh_Lk 319 76 [(0, .ref 67), (1, .int x1), (2, .int x2), (3, .int x3)] [.int y1, .int y0] m o m2 (d + 1 + 15) (40 * (d + 1) + 385) := by
  unfold sf_319_76 at e
  refine sh_Lk_lift (T := m.T) (I := m.I) (J := m.J) (s := m.s) (pc2 := 84) (lv2 := [(4, .int (y0 * y1)), (0, .ref 67), (1, .int x1), (2, .int x2), (3, .int x3)]) (st2 := [.int x1, .ref 76]) (I2 := m.I) (J2 := m.J) (fun hT v kk => ?_) ?_
  · refine sh_w (i := .imul) (len := 1) (pc2 := 77) (lv2 := [(0, .ref 67), (1, .int x1), (2, .int x2), (3, .int x3)]) (st2 := [.int (y0 * y1)]) (h2 := (sh_rep m.T m.I m.J)) rfl rfl rfl ?_
    refine sh_w (i := (.istore 4)) (len := 2) (pc2 := 79) (lv2 := [(4, .int (y0 * y1)), (0, .ref 67), (1, .int x1), (2, .int x2), (3, .int x3)]) (st2 := []) (h2 := (sh_rep m.T m.I m.J)) rfl rfl rfl ?_
    refine sh_w (i := (.aload_n 0)) (len := 1) (pc2 := 80) (lv2 := [(4, .int (y0 * y1)), (0, .ref 67), (1, .int x1), (2, .int x2), (3, .int x3)]) (st2 := [.ref 67]) (h2 := (sh_rep m.T m.I m.J)) rfl rfl rfl ?_
    refine sh_gR1 (len := 3) (x := .ref 76) (pc2 := 83) rfl rfl (sh_s66 hT.st) rfl rfl ?_
    refine sh_w (i := (.iload_n 1)) (len := 1) (pc2 := 84) (lv2 := [(4, .int (y0 * y1)), (0, .ref 67), (1, .int x1), (2, .int x2), (3, .int x3)]) (st2 := [.int x1, .ref 76]) (h2 := (sh_rep m.T m.I m.J)) rfl rfl rfl ?_
    exact kk
  obtain ⟨c, e⟩ := sh_gd e
  refine sh_Lk_lift (T := m.T) (I := m.I) (J := m.J) (s := m.s) (pc2 := 85) (lv2 := [(4, .int (y0 * y1)), (0, .ref 67), (1, .int x1), (2, .int x2), (3, .int x3)]) (st2 := [.int (m.I 75 (Int32.toNatClampNeg x1))]) (I2 := m.I) (J2 := m.J) (fun hT v kk => ?_) ?_
  · refine sh_ia1 (x := m.I 75 (Int32.toNatClampNeg x1)) (pc2 := 85) rfl (sh_s75 hT.st) (sh_okb1 c) (sh_okb2 c) rfl rfl ?_
    exact kk
  rcases sh_ite e with ⟨c, e⟩ | ⟨c, e⟩
  · refine sh_Lk_lift (T := m.T) (I := m.I) (J := m.J) (s := m.s) (pc2 := 94) (lv2 := [(4, .int (y0 * y1)), (0, .ref 67), (1, .int x1), (2, .int x2), (3, .int x3)]) (st2 := [.int x1, .ref 75, .ref 67]) (I2 := m.I) (J2 := m.J) (fun hT v kk => ?_) ?_
    · refine sh_j0 (c := .ge) (off := (150)) (pc2 := 88) false rfl (sh_Bgef c) rfl ?_
      refine sh_w (i := (.aload_n 0)) (len := 1) (pc2 := 89) (lv2 := [(4, .int (y0 * y1)), (0, .ref 67), (1, .int x1), (2, .int x2), (3, .int x3)]) (st2 := [.ref 67]) (h2 := (sh_rep m.T m.I m.J)) rfl rfl rfl ?_
      refine sh_w (i := (.aload_n 0)) (len := 1) (pc2 := 90) (lv2 := [(4, .int (y0 * y1)), (0, .ref 67), (1, .int x1), (2, .int x2), (3, .int x3)]) (st2 := [.ref 67, .ref 67]) (h2 := (sh_rep m.T m.I m.J)) rfl rfl rfl ?_
      refine sh_gR1 (len := 3) (x := .ref 75) (pc2 := 93) rfl rfl (sh_s66 hT.st) rfl rfl ?_
      refine sh_w (i := (.iload_n 1)) (len := 1) (pc2 := 94) (lv2 := [(4, .int (y0 * y1)), (0, .ref 67), (1, .int x1), (2, .int x2), (3, .int x3)]) (st2 := [.int x1, .ref 75, .ref 67]) (h2 := (sh_rep m.T m.I m.J)) rfl rfl rfl ?_
      exact kk
    obtain ⟨c, e⟩ := sh_gd e
    refine sh_Lk_lift (T := m.T) (I := m.I) (J := m.J) (s := m.s) (pc2 := 95) (lv2 := [(4, .int (y0 * y1)), (0, .ref 67), (1, .int x1), (2, .int x2), (3, .int x3)]) (st2 := [.int (m.I 74 (Int32.toNatClampNeg x1)), .ref 67]) (I2 := m.I) (J2 := m.J) (fun hT v kk => ?_) ?_
    · refine sh_ia1 (x := m.I 74 (Int32.toNatClampNeg x1)) (pc2 := 95) rfl (sh_s74 hT.st) (sh_okb1 c) (sh_okb2 c) rfl rfl ?_
      exact kk
    obtain ⟨r1, m11, e1, e⟩ := sh_bn_e e
    refine sh_Lk_cV (r := (some (.int (sh_b2 r1)))) (st2 := [.int (sh_b2 r1)]) (pc2 := 98) (k2 := 294) (a := 66) (as := [.ref 67, .int (m.I 74 (Int32.toNatClampNeg x1))]) (rest := []) rfl rfl rfl (fun hT => (sh_s66 hT.st)) rfl rfl ⟨Nat.le_of_ble_eq_true rfl, Nat.le_of_ble_eq_true rfl⟩ (hQ.f294 e1 ⟨rfl, rfl⟩) rfl rfl (show d + 15 + 1 ≤ d + 1 + 15 by omega) (show 8 + (5 + 11) + (40 * d + 385) ≤ 40 * (d + 1) + 385 by omega) ?_
    rcases sh_ite e with ⟨c, e⟩ | ⟨c, e⟩
    · refine sh_Lk_lift (T := m11.T) (I := m11.I) (J := m11.J) (s := m11.s) (pc2 := 107) (lv2 := [(4, .int (y0 * y1)), (0, .ref 67), (1, .int x1), (2, .int x2), (3, .int x3)]) (st2 := [.int x1, .ref 75, .ref 67]) (I2 := m11.I) (J2 := m11.J) (fun hT v kk => ?_) ?_
      · refine sh_j0 (c := .eq) (off := (34)) (pc2 := 101) false rfl (sh_Zeqf c) rfl ?_
        refine sh_w (i := (.aload_n 0)) (len := 1) (pc2 := 102) (lv2 := [(4, .int (y0 * y1)), (0, .ref 67), (1, .int x1), (2, .int x2), (3, .int x3)]) (st2 := [.ref 67]) (h2 := (sh_rep m11.T m11.I m11.J)) rfl rfl rfl ?_
        refine sh_w (i := (.aload_n 0)) (len := 1) (pc2 := 103) (lv2 := [(4, .int (y0 * y1)), (0, .ref 67), (1, .int x1), (2, .int x2), (3, .int x3)]) (st2 := [.ref 67, .ref 67]) (h2 := (sh_rep m11.T m11.I m11.J)) rfl rfl rfl ?_
        refine sh_gR1 (len := 3) (x := .ref 75) (pc2 := 106) rfl rfl (sh_s66 hT.st) rfl rfl ?_
        refine sh_w (i := (.iload_n 1)) (len := 1) (pc2 := 107) (lv2 := [(4, .int (y0 * y1)), (0, .ref 67), (1, .int x1), (2, .int x2), (3, .int x3)]) (st2 := [.int x1, .ref 75, .ref 67]) (h2 := (sh_rep m11.T m11.I m11.J)) rfl rfl rfl ?_
        exact kk
      obtain ⟨c, e⟩ := sh_gd e
      refine sh_Lk_lift (T := m11.T) (I := m11.I) (J := m11.J) (s := m11.s) (pc2 := 113) (lv2 := [(4, .int (y0 * y1)), (0, .ref 67), (1, .int x1), (2, .int x2), (3, .int x3)]) (st2 := [.int x3, .ref 95, .int (m11.I 74 (Int32.toNatClampNeg x1)), .ref 67]) (I2 := m11.I) (J2 := m11.J) (fun hT v kk => ?_) ?_
      · refine sh_ia1 (x := m11.I 74 (Int32.toNatClampNeg x1)) (pc2 := 108) rfl (sh_s74 hT.st) (sh_okb1 c) (sh_okb2 c) rfl rfl ?_
        refine sh_w (i := (.aload_n 0)) (len := 1) (pc2 := 109) (lv2 := [(4, .int (y0 * y1)), (0, .ref 67), (1, .int x1), (2, .int x2), (3, .int x3)]) (st2 := [.ref 67, .int (m11.I 74 (Int32.toNatClampNeg x1)), .ref 67]) (h2 := (sh_rep m11.T m11.I m11.J)) rfl rfl rfl ?_
        refine sh_gR1 (len := 3) (x := .ref 95) (pc2 := 112) rfl rfl (sh_s66 hT.st) rfl rfl ?_
        refine sh_w (i := (.iload_n 3)) (len := 1) (pc2 := 113) (lv2 := [(4, .int (y0 * y1)), (0, .ref 67), (1, .int x1), (2, .int x2), (3, .int x3)]) (st2 := [.int x3, .ref 95, .int (m11.I 74 (Int32.toNatClampNeg x1)), .ref 67]) (h2 := (sh_rep m11.T m11.I m11.J)) rfl rfl rfl ?_
        exact kk
      obtain ⟨c, e⟩ := sh_gd e
      refine sh_Lk_lift (T := m11.T) (I := m11.I) (J := m11.J) (s := m11.s) (pc2 := 119) (lv2 := [(4, .int (y0 * y1)), (0, .ref 67), (1, .int x1), (2, .int x2), (3, .int x3)]) (st2 := [.int x3, .ref 96, .int (m11.I 94 (Int32.toNatClampNeg x3)), .int (m11.I 74 (Int32.toNatClampNeg x1)), .ref 67]) (I2 := m11.I) (J2 := m11.J) (fun hT v kk => ?_) ?_
      · refine sh_ia1 (x := m11.I 94 (Int32.toNatClampNeg x3)) (pc2 := 114) rfl (sh_s94 hT.st) (sh_okb1 c) (sh_okb2 c) rfl rfl ?_
        refine sh_w (i := (.aload_n 0)) (len := 1) (pc2 := 115) (lv2 := [(4, .int (y0 * y1)), (0, .ref 67), (1, .int x1), (2, .int x2), (3, .int x3)]) (st2 := [.ref 67, .int (m11.I 94 (Int32.toNatClampNeg x3)), .int (m11.I 74 (Int32.toNatClampNeg x1)), .ref 67]) (h2 := (sh_rep m11.T m11.I m11.J)) rfl rfl rfl ?_
        refine sh_gR1 (len := 3) (x := .ref 96) (pc2 := 118) rfl rfl (sh_s66 hT.st) rfl rfl ?_
        refine sh_w (i := (.iload_n 3)) (len := 1) (pc2 := 119) (lv2 := [(4, .int (y0 * y1)), (0, .ref 67), (1, .int x1), (2, .int x2), (3, .int x3)]) (st2 := [.int x3, .ref 96, .int (m11.I 94 (Int32.toNatClampNeg x3)), .int (m11.I 74 (Int32.toNatClampNeg x1)), .ref 67]) (h2 := (sh_rep m11.T m11.I m11.J)) rfl rfl rfl ?_
        exact kk
      obtain ⟨c, e⟩ := sh_gd e
      refine sh_Lk_lift (T := m11.T) (I := m11.I) (J := m11.J) (s := m11.s) (pc2 := 125) (lv2 := [(4, .int (y0 * y1)), (0, .ref 67), (1, .int x1), (2, .int x2), (3, .int x3)]) (st2 := [.int x3, .ref 97, .int (m11.I 95 (Int32.toNatClampNeg x3)), .int (m11.I 94 (Int32.toNatClampNeg x3)), .int (m11.I 74 (Int32.toNatClampNeg x1)), .ref 67]) (I2 := m11.I) (J2 := m11.J) (fun hT v kk => ?_) ?_
      · refine sh_ia1 (x := m11.I 95 (Int32.toNatClampNeg x3)) (pc2 := 120) rfl (sh_s95 hT.st) (sh_okb1 c) (sh_okb2 c) rfl rfl ?_
        refine sh_w (i := (.aload_n 0)) (len := 1) (pc2 := 121) (lv2 := [(4, .int (y0 * y1)), (0, .ref 67), (1, .int x1), (2, .int x2), (3, .int x3)]) (st2 := [.ref 67, .int (m11.I 95 (Int32.toNatClampNeg x3)), .int (m11.I 94 (Int32.toNatClampNeg x3)), .int (m11.I 74 (Int32.toNatClampNeg x1)), .ref 67]) (h2 := (sh_rep m11.T m11.I m11.J)) rfl rfl rfl ?_
        refine sh_gR1 (len := 3) (x := .ref 97) (pc2 := 124) rfl rfl (sh_s66 hT.st) rfl rfl ?_
        refine sh_w (i := (.iload_n 3)) (len := 1) (pc2 := 125) (lv2 := [(4, .int (y0 * y1)), (0, .ref 67), (1, .int x1), (2, .int x2), (3, .int x3)]) (st2 := [.int x3, .ref 97, .int (m11.I 95 (Int32.toNatClampNeg x3)), .int (m11.I 94 (Int32.toNatClampNeg x3)), .int (m11.I 74 (Int32.toNatClampNeg x1)), .ref 67]) (h2 := (sh_rep m11.T m11.I m11.J)) rfl rfl rfl ?_
        exact kk
      obtain ⟨c, e⟩ := sh_gd e
      refine sh_Lk_lift (T := m11.T) (I := m11.I) (J := m11.J) (s := m11.s) (pc2 := 126) (lv2 := [(4, .int (y0 * y1)), (0, .ref 67), (1, .int x1), (2, .int x2), (3, .int x3)]) (st2 := [.int (m11.I 96 (Int32.toNatClampNeg x3)), .int (m11.I 95 (Int32.toNatClampNeg x3)), .int (m11.I 94 (Int32.toNatClampNeg x3)), .int (m11.I 74 (Int32.toNatClampNeg x1)), .ref 67]) (I2 := m11.I) (J2 := m11.J) (fun hT v kk => ?_) ?_
      · refine sh_ia1 (x := m11.I 96 (Int32.toNatClampNeg x3)) (pc2 := 126) rfl (sh_s96 hT.st) (sh_okb1 c) (sh_okb2 c) rfl rfl ?_
        exact kk
      obtain ⟨r2, m12, e2, e⟩ := sh_bn_e e
      refine sh_Lk_cV (r := (some (.int (sh_b2 r2)))) (st2 := [.int (sh_b2 r2)]) (pc2 := 129) (k2 := 317) (a := 66) (as := [.ref 67, .int (m11.I 74 (Int32.toNatClampNeg x1)), .int (m11.I 94 (Int32.toNatClampNeg x3)), .int (m11.I 95 (Int32.toNatClampNeg x3)), .int (m11.I 96 (Int32.toNatClampNeg x3))]) (rest := []) rfl rfl rfl (fun hT => (sh_s66 hT.st)) rfl rfl ⟨Nat.le_of_ble_eq_true rfl, Nat.le_of_ble_eq_true rfl⟩ (sl_317 e2 ⟨rfl, rfl⟩) rfl rfl (show 11 + 1 ≤ d + 1 + 15 by omega) (show 8 + (5 + 11) + (268) ≤ 40 * (d + 1) + 385 by omega) ?_
      rcases sh_ite e with ⟨c, e⟩ | ⟨c, e⟩
      · refine sh_Lk_lift (T := m12.T) (I := m12.I) (J := m12.J) (s := m12.s) (pc2 := 138) (lv2 := [(4, .int (y0 * y1)), (0, .ref 67), (1, .int x1), (2, .int x2), (3, .int x3)]) (st2 := [.int (m12.I 66 56)]) (I2 := m12.I) (J2 := m12.J) (fun hT v kk => ?_) ?_
        · refine sh_j0 (c := .ne) (off := (5)) (pc2 := 134) true rfl (sh_Znet c) rfl ?_
          refine sh_w (i := (.aload_n 0)) (len := 1) (pc2 := 135) (lv2 := [(4, .int (y0 * y1)), (0, .ref 67), (1, .int x1), (2, .int x2), (3, .int x3)]) (st2 := [.ref 67]) (h2 := (sh_rep m12.T m12.I m12.J)) rfl rfl rfl ?_
          refine sh_gI1 (len := 3) (x := m12.I 66 56) (pc2 := 138) rfl rfl (sh_s66 hT.st) rfl rfl rfl ?_
          exact kk
        rcases sh_ite e with ⟨c, e⟩ | ⟨c, e⟩
        · refine sh_Lk_lift (T := m12.T) (I := m12.I) (J := m12.J) (s := m12.s) (pc2 := 145) (lv2 := [(4, .int (y0 * y1)), (0, .ref 67), (1, .int x1), (2, .int x2), (3, .int x3)]) (st2 := [.int x2, .int (y0 * y1), .ref 67]) (I2 := m12.I) (J2 := m12.J) (fun hT v kk => ?_) ?_
          · refine sh_j0 (c := .le) (off := (15)) (pc2 := 141) false rfl (sh_Blef c) rfl ?_
            refine sh_w (i := (.aload_n 0)) (len := 1) (pc2 := 142) (lv2 := [(4, .int (y0 * y1)), (0, .ref 67), (1, .int x1), (2, .int x2), (3, .int x3)]) (st2 := [.ref 67]) (h2 := (sh_rep m12.T m12.I m12.J)) rfl rfl rfl ?_
            refine sh_w (i := (.iload 4)) (len := 2) (pc2 := 144) (lv2 := [(4, .int (y0 * y1)), (0, .ref 67), (1, .int x1), (2, .int x2), (3, .int x3)]) (st2 := [.int (y0 * y1), .ref 67]) (h2 := (sh_rep m12.T m12.I m12.J)) rfl rfl rfl ?_
            refine sh_w (i := (.iload_n 2)) (len := 1) (pc2 := 145) (lv2 := [(4, .int (y0 * y1)), (0, .ref 67), (1, .int x1), (2, .int x2), (3, .int x3)]) (st2 := [.int x2, .int (y0 * y1), .ref 67]) (h2 := (sh_rep m12.T m12.I m12.J)) rfl rfl rfl ?_
            exact kk
          obtain ⟨r3, m13, e3, e⟩ := sh_bn_e e
          refine sh_Lk_cV (r := (some (.int (sh_b2 r3)))) (st2 := [.int (sh_b2 r3)]) (pc2 := 148) (k2 := 292) (a := 66) (as := [.ref 67, .int (y0 * y1), .int x2]) (rest := []) rfl rfl rfl (fun hT => (sh_s66 hT.st)) rfl rfl ⟨Nat.le_of_ble_eq_true rfl, Nat.le_of_ble_eq_true rfl⟩ (sl_292 e3 ⟨rfl, rfl⟩) rfl rfl (show 9 + 1 ≤ d + 1 + 15 by omega) (show 8 + (3 + 11) + (222) ≤ 40 * (d + 1) + 385 by omega) ?_
          rcases sh_ite e with ⟨c, e⟩ | ⟨c, e⟩
          · refine sh_Lk_lift (T := m13.T) (I := m13.I) (J := m13.J) (s := m13.s) (pc2 := 153) (lv2 := [(4, .int (y0 * y1)), (0, .ref 67), (1, .int x1), (2, .int x2), (3, .int x3)]) (st2 := []) (I2 := m13.I) (J2 := m13.J) (fun hT v kk => ?_) ?_
            · refine sh_j0 (c := .ne) (off := (5)) (pc2 := 153) true rfl (sh_Znet c) rfl ?_
              exact kk
            exact sh_Lk_sub (sh_sub_c rfl (sh_sub_c rfl (sh_sub_n))) (sl_319_153 hQ e tg)
          · refine sh_Lk_lift (T := m13.T) (I := m13.I) (J := m13.J) (s := m13.s) (pc2 := 152) (lv2 := [(4, .int (y0 * y1)), (0, .ref 67), (1, .int x1), (2, .int x2), (3, .int x3)]) (st2 := [.int 0]) (I2 := m13.I) (J2 := m13.J) (fun hT v kk => ?_) ?_
            · refine sh_j0 (c := .ne) (off := (5)) (pc2 := 151) false rfl (sh_Znef c) rfl ?_
              refine sh_w (i := (.iconst 0)) (len := 1) (pc2 := 152) (lv2 := [(4, .int (y0 * y1)), (0, .ref 67), (1, .int x1), (2, .int x2), (3, .int x3)]) (st2 := [.int 0]) (h2 := (sh_rep m13.T m13.I m13.J)) rfl rfl rfl ?_
              exact kk
            obtain rfl := Option.some.inj e
            obtain ⟨rfl, rfl⟩ := tg
            exact sh_Lk_ret (i := .ireturn) rfl rfl rfl (by omega) (by omega)
        · refine sh_Lk_lift (T := m12.T) (I := m12.I) (J := m12.J) (s := m12.s) (pc2 := 153) (lv2 := [(4, .int (y0 * y1)), (0, .ref 67), (1, .int x1), (2, .int x2), (3, .int x3)]) (st2 := []) (I2 := m12.I) (J2 := m12.J) (fun hT v kk => ?_) ?_
          · refine sh_j0 (c := .le) (off := (15)) (pc2 := 153) true rfl (sh_Blet c) rfl ?_
            exact kk
          exact sh_Lk_sub (sh_sub_c rfl (sh_sub_c rfl (sh_sub_n))) (sl_319_153 hQ e tg)
      · refine sh_Lk_lift (T := m12.T) (I := m12.I) (J := m12.J) (s := m12.s) (pc2 := 133) (lv2 := [(4, .int (y0 * y1)), (0, .ref 67), (1, .int x1), (2, .int x2), (3, .int x3)]) (st2 := [.int 0]) (I2 := m12.I) (J2 := m12.J) (fun hT v kk => ?_) ?_
        · refine sh_j0 (c := .ne) (off := (5)) (pc2 := 132) false rfl (sh_Znef c) rfl ?_
          refine sh_w (i := (.iconst 0)) (len := 1) (pc2 := 133) (lv2 := [(4, .int (y0 * y1)), (0, .ref 67), (1, .int x1), (2, .int x2), (3, .int x3)]) (st2 := [.int 0]) (h2 := (sh_rep m12.T m12.I m12.J)) rfl rfl rfl ?_
          exact kk
        obtain rfl := Option.some.inj e
        obtain ⟨rfl, rfl⟩ := tg
        exact sh_Lk_ret (i := .ireturn) rfl rfl rfl (by omega) (by omega)
    · refine sh_Lk_lift (T := m11.T) (I := m11.I) (J := m11.J) (s := m11.s) (pc2 := 133) (lv2 := [(4, .int (y0 * y1)), (0, .ref 67), (1, .int x1), (2, .int x2), (3, .int x3)]) (st2 := [.int 0]) (I2 := m11.I) (J2 := m11.J) (fun hT v kk => ?_) ?_
      · refine sh_j0 (c := .eq) (off := (34)) (pc2 := 132) true rfl (sh_Zeqt c) rfl ?_
        refine sh_w (i := (.iconst 0)) (len := 1) (pc2 := 133) (lv2 := [(4, .int (y0 * y1)), (0, .ref 67), (1, .int x1), (2, .int x2), (3, .int x3)]) (st2 := [.int 0]) (h2 := (sh_rep m11.T m11.I m11.J)) rfl rfl rfl ?_
        exact kk
      obtain rfl := Option.some.inj e
      obtain ⟨rfl, rfl⟩ := tg
      exact sh_Lk_ret (i := .ireturn) rfl rfl rfl (by omega) (by omega)
  · refine sh_Lk_lift (T := m.T) (I := m.I) (J := m.J) (s := m.s) (pc2 := 240) (lv2 := [(4, .int (y0 * y1)), (0, .ref 67), (1, .int x1), (2, .int x2), (3, .int x3)]) (st2 := [.int x3, .ref 97]) (I2 := m.I) (J2 := m.J) (fun hT v kk => ?_) ?_
    · refine sh_j0 (c := .ge) (off := (150)) (pc2 := 235) true rfl (sh_Bget c) rfl ?_
      refine sh_w (i := (.aload_n 0)) (len := 1) (pc2 := 236) (lv2 := [(4, .int (y0 * y1)), (0, .ref 67), (1, .int x1), (2, .int x2), (3, .int x3)]) (st2 := [.ref 67]) (h2 := (sh_rep m.T m.I m.J)) rfl rfl rfl ?_
      refine sh_gR1 (len := 3) (x := .ref 97) (pc2 := 239) rfl rfl (sh_s66 hT.st) rfl rfl ?_
      refine sh_w (i := (.iload_n 3)) (len := 1) (pc2 := 240) (lv2 := [(4, .int (y0 * y1)), (0, .ref 67), (1, .int x1), (2, .int x2), (3, .int x3)]) (st2 := [.int x3, .ref 97]) (h2 := (sh_rep m.T m.I m.J)) rfl rfl rfl ?_
      exact kk
    obtain ⟨c, e⟩ := sh_gd e
    refine sh_Lk_lift (T := m.T) (I := m.I) (J := m.J) (s := m.s) (pc2 := 241) (lv2 := [(4, .int (y0 * y1)), (0, .ref 67), (1, .int x1), (2, .int x2), (3, .int x3)]) (st2 := [.int (m.I 96 (Int32.toNatClampNeg x3))]) (I2 := m.I) (J2 := m.J) (fun hT v kk => ?_) ?_
    · refine sh_ia1 (x := m.I 96 (Int32.toNatClampNeg x3)) (pc2 := 241) rfl (sh_s96 hT.st) (sh_okb1 c) (sh_okb2 c) rfl rfl ?_
      exact kk
    rcases sh_ite e with ⟨c, e⟩ | ⟨c, e⟩
    · refine sh_Lk_lift (T := m.T) (I := m.I) (J := m.J) (s := m.s) (pc2 := 255) (lv2 := [(4, .int (y0 * y1)), (0, .ref 67), (1, .int x1), (2, .int x2), (3, .int x3)]) (st2 := [.int x1, .ref 77, .ref 70, .int 4, .ref 67]) (I2 := m.I) (J2 := m.J) (fun hT v kk => ?_) ?_
      · refine sh_j0 (c := .ne) (off := (20)) (pc2 := 244) false rfl (sh_Bnef c) rfl ?_
        refine sh_w (i := (.aload_n 0)) (len := 1) (pc2 := 245) (lv2 := [(4, .int (y0 * y1)), (0, .ref 67), (1, .int x1), (2, .int x2), (3, .int x3)]) (st2 := [.ref 67]) (h2 := (sh_rep m.T m.I m.J)) rfl rfl rfl ?_
        refine sh_w (i := (.iconst 4)) (len := 1) (pc2 := 246) (lv2 := [(4, .int (y0 * y1)), (0, .ref 67), (1, .int x1), (2, .int x2), (3, .int x3)]) (st2 := [.int 4, .ref 67]) (h2 := (sh_rep m.T m.I m.J)) rfl rfl rfl ?_
        refine sh_w (i := (.aload_n 0)) (len := 1) (pc2 := 247) (lv2 := [(4, .int (y0 * y1)), (0, .ref 67), (1, .int x1), (2, .int x2), (3, .int x3)]) (st2 := [.ref 67, .int 4, .ref 67]) (h2 := (sh_rep m.T m.I m.J)) rfl rfl rfl ?_
        refine sh_gR1 (len := 3) (x := .ref 70) (pc2 := 250) rfl rfl (sh_s66 hT.st) rfl rfl ?_
        refine sh_w (i := (.aload_n 0)) (len := 1) (pc2 := 251) (lv2 := [(4, .int (y0 * y1)), (0, .ref 67), (1, .int x1), (2, .int x2), (3, .int x3)]) (st2 := [.ref 67, .ref 70, .int 4, .ref 67]) (h2 := (sh_rep m.T m.I m.J)) rfl rfl rfl ?_
        refine sh_gR1 (len := 3) (x := .ref 77) (pc2 := 254) rfl rfl (sh_s66 hT.st) rfl rfl ?_
        refine sh_w (i := (.iload_n 1)) (len := 1) (pc2 := 255) (lv2 := [(4, .int (y0 * y1)), (0, .ref 67), (1, .int x1), (2, .int x2), (3, .int x3)]) (st2 := [.int x1, .ref 77, .ref 70, .int 4, .ref 67]) (h2 := (sh_rep m.T m.I m.J)) rfl rfl rfl ?_
        exact kk
      obtain ⟨c, e⟩ := sh_gd e
      refine sh_Lk_lift (T := m.T) (I := m.I) (J := m.J) (s := m.s) (pc2 := 256) (lv2 := [(4, .int (y0 * y1)), (0, .ref 67), (1, .int x1), (2, .int x2), (3, .int x3)]) (st2 := [.int (m.I 76 (Int32.toNatClampNeg x1)), .ref 70, .int 4, .ref 67]) (I2 := m.I) (J2 := m.J) (fun hT v kk => ?_) ?_
      · refine sh_ia1 (x := m.I 76 (Int32.toNatClampNeg x1)) (pc2 := 256) rfl (sh_s76 hT.st) (sh_okb1 c) (sh_okb2 c) rfl rfl ?_
        exact kk
      obtain ⟨c, e⟩ := sh_gd e
      refine sh_Lk_lift (T := m.T) (I := m.I) (J := m.J) (s := m.s) (pc2 := 257) (lv2 := [(4, .int (y0 * y1)), (0, .ref 67), (1, .int x1), (2, .int x2), (3, .int x3)]) (st2 := [.int (m.I 69 (Int32.toNatClampNeg (m.I 76 (Int32.toNatClampNeg x1)))), .int 4, .ref 67]) (I2 := m.I) (J2 := m.J) (fun hT v kk => ?_) ?_
      · refine sh_ia1 (x := m.I 69 (Int32.toNatClampNeg (m.I 76 (Int32.toNatClampNeg x1)))) (pc2 := 257) rfl (sh_s69 hT.st) (sh_okb1 c) (sh_okb2 c) rfl rfl ?_
        exact kk
      obtain ⟨r4, m14, e4, e⟩ := sh_bn_e e
      refine sh_Lk_cV (r := (some (.int (sh_b2 r4)))) (st2 := [.int (sh_b2 r4)]) (pc2 := 260) (k2 := 252) (a := 66) (as := [.ref 67, .int 4, .int (m.I 69 (Int32.toNatClampNeg (m.I 76 (Int32.toNatClampNeg x1))))]) (rest := []) rfl rfl rfl (fun hT => (sh_s66 hT.st)) rfl rfl ⟨Nat.le_of_ble_eq_true rfl, Nat.le_of_ble_eq_true rfl⟩ (sl_252 e4 ⟨rfl, rfl⟩) rfl rfl (show 8 + 1 ≤ d + 1 + 15 by omega) (show 8 + (3 + 11) + (200) ≤ 40 * (d + 1) + 385 by omega) ?_
      obtain rfl := Option.some.inj e
      obtain ⟨rfl, rfl⟩ := tg
      exact sh_Lk_ret (i := .ireturn) rfl rfl (sh_rb rfl _) (by omega) (by omega)
    · refine sh_Lk_lift (T := m.T) (I := m.I) (J := m.J) (s := m.s) (pc2 := 267) (lv2 := [(4, .int (y0 * y1)), (0, .ref 67), (1, .int x1), (2, .int x2), (3, .int x3)]) (st2 := [.int x1, .ref 76, .ref 67]) (I2 := m.I) (J2 := m.J) (fun hT v kk => ?_) ?_
      · refine sh_j0 (c := .ne) (off := (20)) (pc2 := 261) true rfl (sh_Bnet c) rfl ?_
        refine sh_w (i := (.aload_n 0)) (len := 1) (pc2 := 262) (lv2 := [(4, .int (y0 * y1)), (0, .ref 67), (1, .int x1), (2, .int x2), (3, .int x3)]) (st2 := [.ref 67]) (h2 := (sh_rep m.T m.I m.J)) rfl rfl rfl ?_
        refine sh_w (i := (.aload_n 0)) (len := 1) (pc2 := 263) (lv2 := [(4, .int (y0 * y1)), (0, .ref 67), (1, .int x1), (2, .int x2), (3, .int x3)]) (st2 := [.ref 67, .ref 67]) (h2 := (sh_rep m.T m.I m.J)) rfl rfl rfl ?_
        refine sh_gR1 (len := 3) (x := .ref 76) (pc2 := 266) rfl rfl (sh_s66 hT.st) rfl rfl ?_
        refine sh_w (i := (.iload_n 1)) (len := 1) (pc2 := 267) (lv2 := [(4, .int (y0 * y1)), (0, .ref 67), (1, .int x1), (2, .int x2), (3, .int x3)]) (st2 := [.int x1, .ref 76, .ref 67]) (h2 := (sh_rep m.T m.I m.J)) rfl rfl rfl ?_
        exact kk
      obtain ⟨c, e⟩ := sh_gd e
      refine sh_Lk_lift (T := m.T) (I := m.I) (J := m.J) (s := m.s) (pc2 := 268) (lv2 := [(4, .int (y0 * y1)), (0, .ref 67), (1, .int x1), (2, .int x2), (3, .int x3)]) (st2 := [.int (m.I 75 (Int32.toNatClampNeg x1)), .ref 67]) (I2 := m.I) (J2 := m.J) (fun hT v kk => ?_) ?_
      · refine sh_ia1 (x := m.I 75 (Int32.toNatClampNeg x1)) (pc2 := 268) rfl (sh_s75 hT.st) (sh_okb1 c) (sh_okb2 c) rfl rfl ?_
        exact kk
      obtain ⟨r5, m15, e5, e⟩ := sh_bn_e e
      refine sh_Lk_cV (r := (some (.int (sh_b2 r5)))) (st2 := [.int (sh_b2 r5)]) (pc2 := 271) (k2 := 294) (a := 66) (as := [.ref 67, .int (m.I 75 (Int32.toNatClampNeg x1))]) (rest := []) rfl rfl rfl (fun hT => (sh_s66 hT.st)) rfl rfl ⟨Nat.le_of_ble_eq_true rfl, Nat.le_of_ble_eq_true rfl⟩ (hQ.f294 e5 ⟨rfl, rfl⟩) rfl rfl (show d + 15 + 1 ≤ d + 1 + 15 by omega) (show 8 + (5 + 11) + (40 * d + 385) ≤ 40 * (d + 1) + 385 by omega) ?_
      rcases sh_ite e with ⟨c, e⟩ | ⟨c, e⟩
      · refine sh_Lk_lift (T := m15.T) (I := m15.I) (J := m15.J) (s := m15.s) (pc2 := 281) (lv2 := [(4, .int (y0 * y1)), (0, .ref 67), (1, .int x1), (2, .int x2), (3, .int x3)]) (st2 := [.int 3, .int (m15.I 66 43)]) (I2 := m15.I) (J2 := m15.J) (fun hT v kk => ?_) ?_
        · refine sh_j0 (c := .ne) (off := (5)) (pc2 := 276) true rfl (sh_Znet c) rfl ?_
          refine sh_w (i := (.aload_n 0)) (len := 1) (pc2 := 277) (lv2 := [(4, .int (y0 * y1)), (0, .ref 67), (1, .int x1), (2, .int x2), (3, .int x3)]) (st2 := [.ref 67]) (h2 := (sh_rep m15.T m15.I m15.J)) rfl rfl rfl ?_
          refine sh_gI1 (len := 3) (x := m15.I 66 43) (pc2 := 280) rfl rfl (sh_s66 hT.st) rfl rfl rfl ?_
          refine sh_w (i := (.iconst 3)) (len := 1) (pc2 := 281) (lv2 := [(4, .int (y0 * y1)), (0, .ref 67), (1, .int x1), (2, .int x2), (3, .int x3)]) (st2 := [.int 3, .int (m15.I 66 43)]) (h2 := (sh_rep m15.T m15.I m15.J)) rfl rfl rfl ?_
          exact kk
        rcases sh_ite e with ⟨c, e⟩ | ⟨c, e⟩
        · refine sh_Lk_lift (T := m15.T) (I := m15.I) (J := m15.J) (s := m15.s) (pc2 := 289) (lv2 := [(4, .int (y0 * y1)), (0, .ref 67), (1, .int x1), (2, .int x2), (3, .int x3)]) (st2 := [.int 1]) (I2 := m15.I) (J2 := m15.J) (fun hT v kk => ?_) ?_
          · refine sh_jc (c := .ne) (off := (7)) (pc2 := 284) false rfl (sh_Bnef c) rfl ?_
            refine sh_w (i := (.iconst 1)) (len := 1) (pc2 := 285) (lv2 := [(4, .int (y0 * y1)), (0, .ref 67), (1, .int x1), (2, .int x2), (3, .int x3)]) (st2 := [.int 1]) (h2 := (sh_rep m15.T m15.I m15.J)) rfl rfl rfl ?_
            refine sh_w (i := (.goto 4)) (len := 3) (pc2 := 289) (lv2 := [(4, .int (y0 * y1)), (0, .ref 67), (1, .int x1), (2, .int x2), (3, .int x3)]) (st2 := [.int 1]) (h2 := (sh_rep m15.T m15.I m15.J)) rfl rfl rfl ?_
            exact kk
          exact sh_Lk_sub (sh_sub_c rfl (sh_sub_c rfl (sh_sub_c rfl (sh_sub_c rfl (sh_sub_c rfl (sh_sub_n)))))) (sl_319_289 hQ e tg)
        · refine sh_Lk_lift (T := m15.T) (I := m15.I) (J := m15.J) (s := m15.s) (pc2 := 289) (lv2 := [(4, .int (y0 * y1)), (0, .ref 67), (1, .int x1), (2, .int x2), (3, .int x3)]) (st2 := [.int 0]) (I2 := m15.I) (J2 := m15.J) (fun hT v kk => ?_) ?_
          · refine sh_jc (c := .ne) (off := (7)) (pc2 := 288) true rfl (sh_Bnet c) rfl ?_
            refine sh_w (i := (.iconst 0)) (len := 1) (pc2 := 289) (lv2 := [(4, .int (y0 * y1)), (0, .ref 67), (1, .int x1), (2, .int x2), (3, .int x3)]) (st2 := [.int 0]) (h2 := (sh_rep m15.T m15.I m15.J)) rfl rfl rfl ?_
            exact kk
          exact sh_Lk_sub (sh_sub_c rfl (sh_sub_c rfl (sh_sub_c rfl (sh_sub_c rfl (sh_sub_c rfl (sh_sub_n)))))) (sl_319_289 hQ e tg)
      · refine sh_Lk_lift (T := m15.T) (I := m15.I) (J := m15.J) (s := m15.s) (pc2 := 275) (lv2 := [(4, .int (y0 * y1)), (0, .ref 67), (1, .int x1), (2, .int x2), (3, .int x3)]) (st2 := [.int 0]) (I2 := m15.I) (J2 := m15.J) (fun hT v kk => ?_) ?_
        · refine sh_j0 (c := .ne) (off := (5)) (pc2 := 274) false rfl (sh_Znef c) rfl ?_
          refine sh_w (i := (.iconst 0)) (len := 1) (pc2 := 275) (lv2 := [(4, .int (y0 * y1)), (0, .ref 67), (1, .int x1), (2, .int x2), (3, .int x3)]) (st2 := [.int 0]) (h2 := (sh_rep m15.T m15.I m15.J)) rfl rfl rfl ?_
          exact kk
        obtain rfl := Option.some.inj e
        obtain ⟨rfl, rfl⟩ := tg
        exact sh_Lk_ret (i := .ireturn) rfl rfl rfl (by omega) (by omega)
theorem sl_319 {Q : sh_Q279} {d : Nat} {x1 : Int32} {m m2 : sh_X} {o : Outcome} {z : (Bool × sh_X)} (hQ : sh_QL279 Q d) (e : sf_319 Q x1 m = some z) (tg : (sh_tZ o m2) z) : sh_Lk 319 0 [(0, .ref 67), (1, .int x1)] [] m o m2 (d + 1 + 15) (40 * (d + 1) + 385) := by
  unfold sf_319 at e
  refine sh_Lk_lift (T := m.T) (I := m.I) (J := m.J) (s := m.s) (pc2 := 5) (lv2 := [(0, .ref 67), (1, .int x1)]) (st2 := [.int x1, .ref 74]) (I2 := m.I) (J2 := m.J) (fun hT v kk => ?_) ?_
  · refine sh_w (i := (.aload_n 0)) (len := 1) (pc2 := 1) (lv2 := [(0, .ref 67), (1, .int x1)]) (st2 := [.ref 67]) (h2 := (sh_rep m.T m.I m.J)) rfl rfl rfl ?_
    refine sh_gR1 (len := 3) (x := .ref 74) (pc2 := 4) rfl rfl (sh_s66 hT.st) rfl rfl ?_
    refine sh_w (i := (.iload_n 1)) (len := 1) (pc2 := 5) (lv2 := [(0, .ref 67), (1, .int x1)]) (st2 := [.int x1, .ref 74]) (h2 := (sh_rep m.T m.I m.J)) rfl rfl rfl ?_
    exact kk
  obtain ⟨c, e⟩ := sh_gd e
  refine sh_Lk_lift (T := m.T) (I := m.I) (J := m.J) (s := m.s) (pc2 := 9) (lv2 := [(2, .int (m.I 73 (Int32.toNatClampNeg x1))), (0, .ref 67), (1, .int x1)]) (st2 := [.int (m.I 73 (Int32.toNatClampNeg x1)), .ref 67]) (I2 := m.I) (J2 := m.J) (fun hT v kk => ?_) ?_
  · refine sh_ia1 (x := m.I 73 (Int32.toNatClampNeg x1)) (pc2 := 6) rfl (sh_s73 hT.st) (sh_okb1 c) (sh_okb2 c) rfl rfl ?_
    refine sh_w (i := (.istore_n 2)) (len := 1) (pc2 := 7) (lv2 := [(2, .int (m.I 73 (Int32.toNatClampNeg x1))), (0, .ref 67), (1, .int x1)]) (st2 := []) (h2 := (sh_rep m.T m.I m.J)) rfl rfl rfl ?_
    refine sh_w (i := (.aload_n 0)) (len := 1) (pc2 := 8) (lv2 := [(2, .int (m.I 73 (Int32.toNatClampNeg x1))), (0, .ref 67), (1, .int x1)]) (st2 := [.ref 67]) (h2 := (sh_rep m.T m.I m.J)) rfl rfl rfl ?_
    refine sh_w (i := (.iload_n 2)) (len := 1) (pc2 := 9) (lv2 := [(2, .int (m.I 73 (Int32.toNatClampNeg x1))), (0, .ref 67), (1, .int x1)]) (st2 := [.int (m.I 73 (Int32.toNatClampNeg x1)), .ref 67]) (h2 := (sh_rep m.T m.I m.J)) rfl rfl rfl ?_
    exact kk
  obtain ⟨r1, e1, e⟩ := sh_bc_e e
  refine sh_Lk_cV (r := (some (.int r1))) (st2 := [.int r1]) (pc2 := 12) (k2 := 284) (a := 66) (as := [.ref 67, .int (m.I 73 (Int32.toNatClampNeg x1))]) (rest := []) rfl rfl rfl (fun hT => (sh_s66 hT.st)) rfl rfl ⟨Nat.le_of_ble_eq_true rfl, Nat.le_of_ble_eq_true rfl⟩ (sl_284 e1 ⟨rfl, rfl⟩) rfl rfl (show 9 + 1 ≤ d + 1 + 15 by omega) (show 8 + (3 + 11) + (223) ≤ 40 * (d + 1) + 385 by omega) ?_
  refine sh_Lk_lift (T := m.T) (I := m.I) (J := m.J) (s := m.s) (pc2 := 14) (lv2 := [(3, .int r1), (2, .int (m.I 73 (Int32.toNatClampNeg x1))), (0, .ref 67), (1, .int x1)]) (st2 := [.int r1]) (I2 := m.I) (J2 := m.J) (fun hT v kk => ?_) ?_
  · refine sh_w (i := (.istore_n 3)) (len := 1) (pc2 := 13) (lv2 := [(3, .int r1), (2, .int (m.I 73 (Int32.toNatClampNeg x1))), (0, .ref 67), (1, .int x1)]) (st2 := []) (h2 := (sh_rep m.T m.I m.J)) rfl rfl rfl ?_
    refine sh_w (i := (.iload_n 3)) (len := 1) (pc2 := 14) (lv2 := [(3, .int r1), (2, .int (m.I 73 (Int32.toNatClampNeg x1))), (0, .ref 67), (1, .int x1)]) (st2 := [.int r1]) (h2 := (sh_rep m.T m.I m.J)) rfl rfl rfl ?_
    exact kk
  rcases sh_ite e with ⟨c, e⟩ | ⟨c, e⟩
  · refine sh_Lk_lift (T := m.T) (I := m.I) (J := m.J) (s := m.s) (pc2 := 24) (lv2 := [(3, .int r1), (2, .int (m.I 73 (Int32.toNatClampNeg x1))), (0, .ref 67), (1, .int x1)]) (st2 := [.int (m.I 73 (Int32.toNatClampNeg x1)), .ref 70, .int 3, .ref 67]) (I2 := m.I) (J2 := m.J) (fun hT v kk => ?_) ?_
    · refine sh_j0 (c := .ge) (off := (15)) (pc2 := 17) false rfl (sh_Bgef c) rfl ?_
      refine sh_w (i := (.aload_n 0)) (len := 1) (pc2 := 18) (lv2 := [(3, .int r1), (2, .int (m.I 73 (Int32.toNatClampNeg x1))), (0, .ref 67), (1, .int x1)]) (st2 := [.ref 67]) (h2 := (sh_rep m.T m.I m.J)) rfl rfl rfl ?_
      refine sh_w (i := (.iconst 3)) (len := 1) (pc2 := 19) (lv2 := [(3, .int r1), (2, .int (m.I 73 (Int32.toNatClampNeg x1))), (0, .ref 67), (1, .int x1)]) (st2 := [.int 3, .ref 67]) (h2 := (sh_rep m.T m.I m.J)) rfl rfl rfl ?_
      refine sh_w (i := (.aload_n 0)) (len := 1) (pc2 := 20) (lv2 := [(3, .int r1), (2, .int (m.I 73 (Int32.toNatClampNeg x1))), (0, .ref 67), (1, .int x1)]) (st2 := [.ref 67, .int 3, .ref 67]) (h2 := (sh_rep m.T m.I m.J)) rfl rfl rfl ?_
      refine sh_gR1 (len := 3) (x := .ref 70) (pc2 := 23) rfl rfl (sh_s66 hT.st) rfl rfl ?_
      refine sh_w (i := (.iload_n 2)) (len := 1) (pc2 := 24) (lv2 := [(3, .int r1), (2, .int (m.I 73 (Int32.toNatClampNeg x1))), (0, .ref 67), (1, .int x1)]) (st2 := [.int (m.I 73 (Int32.toNatClampNeg x1)), .ref 70, .int 3, .ref 67]) (h2 := (sh_rep m.T m.I m.J)) rfl rfl rfl ?_
      exact kk
    obtain ⟨c, e⟩ := sh_gd e
    refine sh_Lk_lift (T := m.T) (I := m.I) (J := m.J) (s := m.s) (pc2 := 25) (lv2 := [(3, .int r1), (2, .int (m.I 73 (Int32.toNatClampNeg x1))), (0, .ref 67), (1, .int x1)]) (st2 := [.int (m.I 69 (Int32.toNatClampNeg (m.I 73 (Int32.toNatClampNeg x1)))), .int 3, .ref 67]) (I2 := m.I) (J2 := m.J) (fun hT v kk => ?_) ?_
    · refine sh_ia1 (x := m.I 69 (Int32.toNatClampNeg (m.I 73 (Int32.toNatClampNeg x1)))) (pc2 := 25) rfl (sh_s69 hT.st) (sh_okb1 c) (sh_okb2 c) rfl rfl ?_
      exact kk
    obtain ⟨r2, m12, e2, e⟩ := sh_bn_e e
    refine sh_Lk_cV (r := (some (.int (sh_b2 r2)))) (st2 := [.int (sh_b2 r2)]) (pc2 := 28) (k2 := 252) (a := 66) (as := [.ref 67, .int 3, .int (m.I 69 (Int32.toNatClampNeg (m.I 73 (Int32.toNatClampNeg x1))))]) (rest := []) rfl rfl rfl (fun hT => (sh_s66 hT.st)) rfl rfl ⟨Nat.le_of_ble_eq_true rfl, Nat.le_of_ble_eq_true rfl⟩ (sl_252 e2 ⟨rfl, rfl⟩) rfl rfl (show 8 + 1 ≤ d + 1 + 15 by omega) (show 8 + (3 + 11) + (200) ≤ 40 * (d + 1) + 385 by omega) ?_
    obtain rfl := Option.some.inj e
    obtain ⟨rfl, rfl⟩ := tg
    exact sh_Lk_ret (i := .ireturn) rfl rfl (sh_rb rfl _) (by omega) (by omega)
  · refine sh_Lk_lift (T := m.T) (I := m.I) (J := m.J) (s := m.s) (pc2 := 34) (lv2 := [(3, .int r1), (2, .int (m.I 73 (Int32.toNatClampNeg x1))), (0, .ref 67), (1, .int x1)]) (st2 := [.int r1, .ref 95]) (I2 := m.I) (J2 := m.J) (fun hT v kk => ?_) ?_
    · refine sh_j0 (c := .ge) (off := (15)) (pc2 := 29) true rfl (sh_Bget c) rfl ?_
      refine sh_w (i := (.aload_n 0)) (len := 1) (pc2 := 30) (lv2 := [(3, .int r1), (2, .int (m.I 73 (Int32.toNatClampNeg x1))), (0, .ref 67), (1, .int x1)]) (st2 := [.ref 67]) (h2 := (sh_rep m.T m.I m.J)) rfl rfl rfl ?_
      refine sh_gR1 (len := 3) (x := .ref 95) (pc2 := 33) rfl rfl (sh_s66 hT.st) rfl rfl ?_
      refine sh_w (i := (.iload_n 3)) (len := 1) (pc2 := 34) (lv2 := [(3, .int r1), (2, .int (m.I 73 (Int32.toNatClampNeg x1))), (0, .ref 67), (1, .int x1)]) (st2 := [.int r1, .ref 95]) (h2 := (sh_rep m.T m.I m.J)) rfl rfl rfl ?_
      exact kk
    obtain ⟨c, e⟩ := sh_gd e
    refine sh_Lk_lift (T := m.T) (I := m.I) (J := m.J) (s := m.s) (pc2 := 36) (lv2 := [(3, .int r1), (2, .int (m.I 73 (Int32.toNatClampNeg x1))), (0, .ref 67), (1, .int x1)]) (st2 := [.int 3, .int (m.I 94 (Int32.toNatClampNeg r1))]) (I2 := m.I) (J2 := m.J) (fun hT v kk => ?_) ?_
    · refine sh_ia1 (x := m.I 94 (Int32.toNatClampNeg r1)) (pc2 := 35) rfl (sh_s94 hT.st) (sh_okb1 c) (sh_okb2 c) rfl rfl ?_
      refine sh_w (i := (.iconst 3)) (len := 1) (pc2 := 36) (lv2 := [(3, .int r1), (2, .int (m.I 73 (Int32.toNatClampNeg x1))), (0, .ref 67), (1, .int x1)]) (st2 := [.int 3, .int (m.I 94 (Int32.toNatClampNeg r1))]) (h2 := (sh_rep m.T m.I m.J)) rfl rfl rfl ?_
      exact kk
    rcases sh_ite e with ⟨c, e⟩ | ⟨c, e⟩
    · refine sh_Lk_lift (T := m.T) (I := m.I) (J := m.J) (s := m.s) (pc2 := 46) (lv2 := [(3, .int r1), (2, .int (m.I 73 (Int32.toNatClampNeg x1))), (0, .ref 67), (1, .int x1)]) (st2 := [.int (m.I 73 (Int32.toNatClampNeg x1)), .ref 70, .int 4, .ref 67]) (I2 := m.I) (J2 := m.J) (fun hT v kk => ?_) ?_
      · refine sh_jc (c := .ne) (off := (15)) (pc2 := 39) false rfl (sh_Bnef c) rfl ?_
        refine sh_w (i := (.aload_n 0)) (len := 1) (pc2 := 40) (lv2 := [(3, .int r1), (2, .int (m.I 73 (Int32.toNatClampNeg x1))), (0, .ref 67), (1, .int x1)]) (st2 := [.ref 67]) (h2 := (sh_rep m.T m.I m.J)) rfl rfl rfl ?_
        refine sh_w (i := (.iconst 4)) (len := 1) (pc2 := 41) (lv2 := [(3, .int r1), (2, .int (m.I 73 (Int32.toNatClampNeg x1))), (0, .ref 67), (1, .int x1)]) (st2 := [.int 4, .ref 67]) (h2 := (sh_rep m.T m.I m.J)) rfl rfl rfl ?_
        refine sh_w (i := (.aload_n 0)) (len := 1) (pc2 := 42) (lv2 := [(3, .int r1), (2, .int (m.I 73 (Int32.toNatClampNeg x1))), (0, .ref 67), (1, .int x1)]) (st2 := [.ref 67, .int 4, .ref 67]) (h2 := (sh_rep m.T m.I m.J)) rfl rfl rfl ?_
        refine sh_gR1 (len := 3) (x := .ref 70) (pc2 := 45) rfl rfl (sh_s66 hT.st) rfl rfl ?_
        refine sh_w (i := (.iload_n 2)) (len := 1) (pc2 := 46) (lv2 := [(3, .int r1), (2, .int (m.I 73 (Int32.toNatClampNeg x1))), (0, .ref 67), (1, .int x1)]) (st2 := [.int (m.I 73 (Int32.toNatClampNeg x1)), .ref 70, .int 4, .ref 67]) (h2 := (sh_rep m.T m.I m.J)) rfl rfl rfl ?_
        exact kk
      obtain ⟨c, e⟩ := sh_gd e
      refine sh_Lk_lift (T := m.T) (I := m.I) (J := m.J) (s := m.s) (pc2 := 47) (lv2 := [(3, .int r1), (2, .int (m.I 73 (Int32.toNatClampNeg x1))), (0, .ref 67), (1, .int x1)]) (st2 := [.int (m.I 69 (Int32.toNatClampNeg (m.I 73 (Int32.toNatClampNeg x1)))), .int 4, .ref 67]) (I2 := m.I) (J2 := m.J) (fun hT v kk => ?_) ?_
      · refine sh_ia1 (x := m.I 69 (Int32.toNatClampNeg (m.I 73 (Int32.toNatClampNeg x1)))) (pc2 := 47) rfl (sh_s69 hT.st) (sh_okb1 c) (sh_okb2 c) rfl rfl ?_
        exact kk
      obtain ⟨r3, m13, e3, e⟩ := sh_bn_e e
      refine sh_Lk_cV (r := (some (.int (sh_b2 r3)))) (st2 := [.int (sh_b2 r3)]) (pc2 := 50) (k2 := 252) (a := 66) (as := [.ref 67, .int 4, .int (m.I 69 (Int32.toNatClampNeg (m.I 73 (Int32.toNatClampNeg x1))))]) (rest := []) rfl rfl rfl (fun hT => (sh_s66 hT.st)) rfl rfl ⟨Nat.le_of_ble_eq_true rfl, Nat.le_of_ble_eq_true rfl⟩ (sl_252 e3 ⟨rfl, rfl⟩) rfl rfl (show 8 + 1 ≤ d + 1 + 15 by omega) (show 8 + (3 + 11) + (200) ≤ 40 * (d + 1) + 385 by omega) ?_
      obtain rfl := Option.some.inj e
      obtain ⟨rfl, rfl⟩ := tg
      exact sh_Lk_ret (i := .ireturn) rfl rfl (sh_rb rfl _) (by omega) (by omega)
    · refine sh_Lk_lift (T := m.T) (I := m.I) (J := m.J) (s := m.s) (pc2 := 56) (lv2 := [(3, .int r1), (2, .int (m.I 73 (Int32.toNatClampNeg x1))), (0, .ref 67), (1, .int x1)]) (st2 := [.int r1, .ref 96]) (I2 := m.I) (J2 := m.J) (fun hT v kk => ?_) ?_
      · refine sh_jc (c := .ne) (off := (15)) (pc2 := 51) true rfl (sh_Bnet c) rfl ?_
        refine sh_w (i := (.aload_n 0)) (len := 1) (pc2 := 52) (lv2 := [(3, .int r1), (2, .int (m.I 73 (Int32.toNatClampNeg x1))), (0, .ref 67), (1, .int x1)]) (st2 := [.ref 67]) (h2 := (sh_rep m.T m.I m.J)) rfl rfl rfl ?_
        refine sh_gR1 (len := 3) (x := .ref 96) (pc2 := 55) rfl rfl (sh_s66 hT.st) rfl rfl ?_
        refine sh_w (i := (.iload_n 3)) (len := 1) (pc2 := 56) (lv2 := [(3, .int r1), (2, .int (m.I 73 (Int32.toNatClampNeg x1))), (0, .ref 67), (1, .int x1)]) (st2 := [.int r1, .ref 96]) (h2 := (sh_rep m.T m.I m.J)) rfl rfl rfl ?_
        exact kk
      obtain ⟨c, e⟩ := sh_gd e
      refine sh_Lk_lift (T := m.T) (I := m.I) (J := m.J) (s := m.s) (pc2 := 62) (lv2 := [(3, .int r1), (2, .int (m.I 73 (Int32.toNatClampNeg x1))), (0, .ref 67), (1, .int x1)]) (st2 := [.int r1, .ref 97, .int (m.I 95 (Int32.toNatClampNeg r1))]) (I2 := m.I) (J2 := m.J) (fun hT v kk => ?_) ?_
      · refine sh_ia1 (x := m.I 95 (Int32.toNatClampNeg r1)) (pc2 := 57) rfl (sh_s95 hT.st) (sh_okb1 c) (sh_okb2 c) rfl rfl ?_
        refine sh_w (i := (.aload_n 0)) (len := 1) (pc2 := 58) (lv2 := [(3, .int r1), (2, .int (m.I 73 (Int32.toNatClampNeg x1))), (0, .ref 67), (1, .int x1)]) (st2 := [.ref 67, .int (m.I 95 (Int32.toNatClampNeg r1))]) (h2 := (sh_rep m.T m.I m.J)) rfl rfl rfl ?_
        refine sh_gR1 (len := 3) (x := .ref 97) (pc2 := 61) rfl rfl (sh_s66 hT.st) rfl rfl ?_
        refine sh_w (i := (.iload_n 3)) (len := 1) (pc2 := 62) (lv2 := [(3, .int r1), (2, .int (m.I 73 (Int32.toNatClampNeg x1))), (0, .ref 67), (1, .int x1)]) (st2 := [.int r1, .ref 97, .int (m.I 95 (Int32.toNatClampNeg r1))]) (h2 := (sh_rep m.T m.I m.J)) rfl rfl rfl ?_
        exact kk
      obtain ⟨c, e⟩ := sh_gd e
      refine sh_Lk_lift (T := m.T) (I := m.I) (J := m.J) (s := m.s) (pc2 := 63) (lv2 := [(3, .int r1), (2, .int (m.I 73 (Int32.toNatClampNeg x1))), (0, .ref 67), (1, .int x1)]) (st2 := [.int (m.I 96 (Int32.toNatClampNeg r1)), .int (m.I 95 (Int32.toNatClampNeg r1))]) (I2 := m.I) (J2 := m.J) (fun hT v kk => ?_) ?_
      · refine sh_ia1 (x := m.I 96 (Int32.toNatClampNeg r1)) (pc2 := 63) rfl (sh_s96 hT.st) (sh_okb1 c) (sh_okb2 c) rfl rfl ?_
        exact kk
      rcases sh_ite e with ⟨c, e⟩ | ⟨c, e⟩
      · refine sh_Lk_lift (T := m.T) (I := m.I) (J := m.J) (s := m.s) (pc2 := 76) (lv2 := [(3, .int r1), (2, .int (m.I 73 (Int32.toNatClampNeg x1))), (0, .ref 67), (1, .int x1)]) (st2 := [.int 1, .int (m.I 95 (Int32.toNatClampNeg r1))]) (I2 := m.I) (J2 := m.J) (fun hT v kk => ?_) ?_
        · refine sh_j0 (c := .ne) (off := (7)) (pc2 := 66) false rfl (sh_Bnef c) rfl ?_
          refine sh_w (i := (.iconst 1)) (len := 1) (pc2 := 67) (lv2 := [(3, .int r1), (2, .int (m.I 73 (Int32.toNatClampNeg x1))), (0, .ref 67), (1, .int x1)]) (st2 := [.int 1, .int (m.I 95 (Int32.toNatClampNeg r1))]) (h2 := (sh_rep m.T m.I m.J)) rfl rfl rfl ?_
          refine sh_w (i := (.goto 9)) (len := 3) (pc2 := 76) (lv2 := [(3, .int r1), (2, .int (m.I 73 (Int32.toNatClampNeg x1))), (0, .ref 67), (1, .int x1)]) (st2 := [.int 1, .int (m.I 95 (Int32.toNatClampNeg r1))]) (h2 := (sh_rep m.T m.I m.J)) rfl rfl rfl ?_
          exact kk
        exact sh_Lk_sub (sh_sub_c rfl (sh_sub_c rfl (sh_sub_c rfl (sh_sub_c rfl (sh_sub_n))))) (sl_319_76 hQ e tg)
      · refine sh_Lk_lift (T := m.T) (I := m.I) (J := m.J) (s := m.s) (pc2 := 75) (lv2 := [(3, .int r1), (2, .int (m.I 73 (Int32.toNatClampNeg x1))), (0, .ref 67), (1, .int x1)]) (st2 := [.int r1, .ref 97, .int (m.I 95 (Int32.toNatClampNeg r1))]) (I2 := m.I) (J2 := m.J) (fun hT v kk => ?_) ?_
        · refine sh_j0 (c := .ne) (off := (7)) (pc2 := 70) true rfl (sh_Bnet c) rfl ?_
          refine sh_w (i := (.aload_n 0)) (len := 1) (pc2 := 71) (lv2 := [(3, .int r1), (2, .int (m.I 73 (Int32.toNatClampNeg x1))), (0, .ref 67), (1, .int x1)]) (st2 := [.ref 67, .int (m.I 95 (Int32.toNatClampNeg r1))]) (h2 := (sh_rep m.T m.I m.J)) rfl rfl rfl ?_
          refine sh_gR1 (len := 3) (x := .ref 97) (pc2 := 74) rfl rfl (sh_s66 hT.st) rfl rfl ?_
          refine sh_w (i := (.iload_n 3)) (len := 1) (pc2 := 75) (lv2 := [(3, .int r1), (2, .int (m.I 73 (Int32.toNatClampNeg x1))), (0, .ref 67), (1, .int x1)]) (st2 := [.int r1, .ref 97, .int (m.I 95 (Int32.toNatClampNeg r1))]) (h2 := (sh_rep m.T m.I m.J)) rfl rfl rfl ?_
          exact kk
        obtain ⟨c, e⟩ := sh_gd e
        refine sh_Lk_lift (T := m.T) (I := m.I) (J := m.J) (s := m.s) (pc2 := 76) (lv2 := [(3, .int r1), (2, .int (m.I 73 (Int32.toNatClampNeg x1))), (0, .ref 67), (1, .int x1)]) (st2 := [.int (m.I 96 (Int32.toNatClampNeg r1)), .int (m.I 95 (Int32.toNatClampNeg r1))]) (I2 := m.I) (J2 := m.J) (fun hT v kk => ?_) ?_
        · refine sh_ia1 (x := m.I 96 (Int32.toNatClampNeg r1)) (pc2 := 76) rfl (sh_s96 hT.st) (sh_okb1 c) (sh_okb2 c) rfl rfl ?_
          exact kk
        exact sh_Lk_sub (sh_sub_c rfl (sh_sub_c rfl (sh_sub_c rfl (sh_sub_c rfl (sh_sub_n))))) (sl_319_76 hQ e tg)
theorem sl_320 {Q : sh_Q279} {d : Nat} {x1 : Int32} {m m2 : sh_X} {o : Outcome} {z : (Bool × sh_X)} (hQ : sh_QL279 Q d) (e : sf_320 Q x1 m = some z) (tg : (sh_tZ o m2) z) : sh_Lk 320 0 [(0, .ref 67), (1, .int x1)] [] m o m2 (d + 1 + 15) (40 * (d + 1) + 385) := by
  unfold sf_320 at e
  refine sh_Lk_lift (T := m.T) (I := m.I) (J := m.J) (s := m.s) (pc2 := 12) (lv2 := [(3, .int (m.I 66 41)), (2, .int (m.I 66 53)), (0, .ref 67), (1, .int x1)]) (st2 := [.int x1, .ref 67]) (I2 := m.I) (J2 := m.J) (fun hT v kk => ?_) ?_
  · refine sh_w (i := (.aload_n 0)) (len := 1) (pc2 := 1) (lv2 := [(0, .ref 67), (1, .int x1)]) (st2 := [.ref 67]) (h2 := (sh_rep m.T m.I m.J)) rfl rfl rfl ?_
    refine sh_gI1 (len := 3) (x := m.I 66 53) (pc2 := 4) rfl rfl (sh_s66 hT.st) rfl rfl rfl ?_
    refine sh_w (i := (.istore_n 2)) (len := 1) (pc2 := 5) (lv2 := [(2, .int (m.I 66 53)), (0, .ref 67), (1, .int x1)]) (st2 := []) (h2 := (sh_rep m.T m.I m.J)) rfl rfl rfl ?_
    refine sh_w (i := (.aload_n 0)) (len := 1) (pc2 := 6) (lv2 := [(2, .int (m.I 66 53)), (0, .ref 67), (1, .int x1)]) (st2 := [.ref 67]) (h2 := (sh_rep m.T m.I m.J)) rfl rfl rfl ?_
    refine sh_gI1 (len := 3) (x := m.I 66 41) (pc2 := 9) rfl rfl (sh_s66 hT.st) rfl rfl rfl ?_
    refine sh_w (i := (.istore_n 3)) (len := 1) (pc2 := 10) (lv2 := [(3, .int (m.I 66 41)), (2, .int (m.I 66 53)), (0, .ref 67), (1, .int x1)]) (st2 := []) (h2 := (sh_rep m.T m.I m.J)) rfl rfl rfl ?_
    refine sh_w (i := (.aload_n 0)) (len := 1) (pc2 := 11) (lv2 := [(3, .int (m.I 66 41)), (2, .int (m.I 66 53)), (0, .ref 67), (1, .int x1)]) (st2 := [.ref 67]) (h2 := (sh_rep m.T m.I m.J)) rfl rfl rfl ?_
    refine sh_w (i := (.iload_n 1)) (len := 1) (pc2 := 12) (lv2 := [(3, .int (m.I 66 41)), (2, .int (m.I 66 53)), (0, .ref 67), (1, .int x1)]) (st2 := [.int x1, .ref 67]) (h2 := (sh_rep m.T m.I m.J)) rfl rfl rfl ?_
    exact kk
  obtain ⟨r1, m11, e1, e⟩ := sh_bn_e e
  refine sh_Lk_cV (r := (some (.int (sh_b2 r1)))) (st2 := [.int (sh_b2 r1)]) (pc2 := 15) (k2 := 290) (a := 66) (as := [.ref 67, .int x1]) (rest := []) rfl rfl rfl (fun hT => (sh_s66 hT.st)) rfl rfl ⟨Nat.le_of_ble_eq_true rfl, Nat.le_of_ble_eq_true rfl⟩ (hQ.f290 e1 ⟨rfl, rfl⟩) rfl rfl (show d + 15 + 1 ≤ d + 1 + 15 by omega) (show 8 + (3 + 11) + (40 * d + 385) ≤ 40 * (d + 1) + 385 by omega) ?_
  refine sh_Lk_lift (T := m11.T) (I := m11.I) (J := m11.J) (s := m11.s) (pc2 := 29) (lv2 := [(4, .int (sh_b2 r1)), (3, .int (m.I 66 41)), (2, .int (m.I 66 53)), (0, .ref 67), (1, .int x1)]) (st2 := [.int (sh_b2 r1)]) (I2 := sh_u2 (sh_u2 m11.I 66 53 (m.I 66 53)) 66 41 (m.I 66 41)) (J2 := m11.J) (fun hT v kk => ?_) ?_
  · refine sh_w (i := (.istore 4)) (len := 2) (pc2 := 17) (lv2 := [(4, .int (sh_b2 r1)), (3, .int (m.I 66 41)), (2, .int (m.I 66 53)), (0, .ref 67), (1, .int x1)]) (st2 := []) (h2 := (sh_rep m11.T m11.I m11.J)) rfl rfl rfl ?_
    refine sh_w (i := (.aload_n 0)) (len := 1) (pc2 := 18) (lv2 := [(4, .int (sh_b2 r1)), (3, .int (m.I 66 41)), (2, .int (m.I 66 53)), (0, .ref 67), (1, .int x1)]) (st2 := [.ref 67]) (h2 := (sh_rep m11.T m11.I m11.J)) rfl rfl rfl ?_
    refine sh_w (i := (.iload_n 2)) (len := 1) (pc2 := 19) (lv2 := [(4, .int (sh_b2 r1)), (3, .int (m.I 66 41)), (2, .int (m.I 66 53)), (0, .ref 67), (1, .int x1)]) (st2 := [.int (m.I 66 53), .ref 67]) (h2 := (sh_rep m11.T m11.I m11.J)) rfl rfl rfl ?_
    refine sh_pI1 (x := m.I 66 53) (pc2 := 22) rfl rfl (sh_s66 hT.st) rfl rfl rfl rfl ?_
    refine sh_w (i := (.aload_n 0)) (len := 1) (pc2 := 23) (lv2 := [(4, .int (sh_b2 r1)), (3, .int (m.I 66 41)), (2, .int (m.I 66 53)), (0, .ref 67), (1, .int x1)]) (st2 := [.ref 67]) (h2 := (sh_rep m11.T (sh_u2 m11.I 66 53 (m.I 66 53)) m11.J)) rfl rfl rfl ?_
    refine sh_w (i := (.iload_n 3)) (len := 1) (pc2 := 24) (lv2 := [(4, .int (sh_b2 r1)), (3, .int (m.I 66 41)), (2, .int (m.I 66 53)), (0, .ref 67), (1, .int x1)]) (st2 := [.int (m.I 66 41), .ref 67]) (h2 := (sh_rep m11.T (sh_u2 m11.I 66 53 (m.I 66 53)) m11.J)) rfl rfl rfl ?_
    refine sh_pI1 (x := m.I 66 41) (pc2 := 27) rfl rfl (sh_s66 hT.st) rfl rfl rfl rfl ?_
    refine sh_w (i := (.iload 4)) (len := 2) (pc2 := 29) (lv2 := [(4, .int (sh_b2 r1)), (3, .int (m.I 66 41)), (2, .int (m.I 66 53)), (0, .ref 67), (1, .int x1)]) (st2 := [.int (sh_b2 r1)]) (h2 := (sh_rep m11.T (sh_u2 (sh_u2 m11.I 66 53 (m.I 66 53)) 66 41 (m.I 66 41)) m11.J)) rfl rfl rfl ?_
    exact kk
  obtain rfl := Option.some.inj e
  obtain ⟨rfl, rfl⟩ := tg
  exact sh_Lk_ret (i := .ireturn) rfl rfl (sh_rb rfl _) (by omega) (by omega)
theorem sl_321_78s {Q : sh_Q279} {d : Nat} {x1 : Int32} {x2 : Int32} {x5 : Int64} {x7 : Int64} {m m2 : sh_X} {o : Outcome} {z : ((Int64 × sh_X) ⊕ (Bool × sh_X))} (hQ : sh_QL279 Q d) (e : sf_321_78s Q x1 x2 x5 x7 m = some z) (tg : (sh_el (fun q => sh_Lk 321 78 [(0, .ref 67), (1, .int x1), (2, .int x2), (5, .long x5), (7, .long q.1)] [] q.2 o m2 (d + 1 + 15) (40 * (d + 1) + 385)) (sh_tZ o m2)) z) : sh_Lk 321 78 [(0, .ref 67), (1, .int x1), (2, .int x2), (5, .long x5), (7, .long x7)] [] m o m2 (d + 1 + 15) (40 * (d + 1) + 385) := by
  unfold sf_321_78s at e
  refine sh_Lk_lift (T := m.T) (I := m.I) (J := m.J) (s := m.s) (pc2 := 83) (lv2 := [(0, .ref 67), (1, .int x1), (2, .int x2), (5, .long x5), (7, .long x7)]) (st2 := [.int (lg_cmp x7 x5)]) (I2 := m.I) (J2 := m.J) (fun hT v kk => ?_) ?_
  · refine sh_w (i := (.lload 7)) (len := 2) (pc2 := 80) (lv2 := [(0, .ref 67), (1, .int x1), (2, .int x2), (5, .long x5), (7, .long x7)]) (st2 := [.long x7]) (h2 := (sh_rep m.T m.I m.J)) rfl rfl rfl ?_
    refine sh_w (i := (.lload 5)) (len := 2) (pc2 := 82) (lv2 := [(0, .ref 67), (1, .int x1), (2, .int x2), (5, .long x5), (7, .long x7)]) (st2 := [.long x5, .long x7]) (h2 := (sh_rep m.T m.I m.J)) rfl rfl rfl ?_
    refine sh_w (i := .lcmp) (len := 1) (pc2 := 83) (lv2 := [(0, .ref 67), (1, .int x1), (2, .int x2), (5, .long x5), (7, .long x7)]) (st2 := [.int (lg_cmp x7 x5)]) (h2 := (sh_rep m.T m.I m.J)) rfl rfl rfl ?_
    exact kk
  rcases sh_ite e with ⟨c, e⟩ | ⟨c, e⟩
  · refine sh_Lk_lift (T := m.T) (I := m.I) (J := m.J) (s := m.s) (pc2 := 89) (lv2 := [(0, .ref 67), (1, .int x1), (2, .int x2), (5, .long x5), (7, .long x7)]) (st2 := [.int x2, .int 1, .ref 67]) (I2 := m.I) (J2 := m.J) (fun hT v kk => ?_) ?_
    · refine sh_j0 (c := .ge) (off := (88)) (pc2 := 86) false rfl (sh_Cgef c) rfl ?_
      refine sh_w (i := (.aload_n 0)) (len := 1) (pc2 := 87) (lv2 := [(0, .ref 67), (1, .int x1), (2, .int x2), (5, .long x5), (7, .long x7)]) (st2 := [.ref 67]) (h2 := (sh_rep m.T m.I m.J)) rfl rfl rfl ?_
      refine sh_w (i := (.iconst 1)) (len := 1) (pc2 := 88) (lv2 := [(0, .ref 67), (1, .int x1), (2, .int x2), (5, .long x5), (7, .long x7)]) (st2 := [.int 1, .ref 67]) (h2 := (sh_rep m.T m.I m.J)) rfl rfl rfl ?_
      refine sh_w (i := (.iload_n 2)) (len := 1) (pc2 := 89) (lv2 := [(0, .ref 67), (1, .int x1), (2, .int x2), (5, .long x5), (7, .long x7)]) (st2 := [.int x2, .int 1, .ref 67]) (h2 := (sh_rep m.T m.I m.J)) rfl rfl rfl ?_
      exact kk
    obtain ⟨r1, m11, e1, e⟩ := sh_bn_e e
    refine sh_Lk_cV (r := (some (.int (sh_b2 r1)))) (st2 := [.int (sh_b2 r1)]) (pc2 := 92) (k2 := 292) (a := 66) (as := [.ref 67, .int 1, .int x2]) (rest := []) rfl rfl rfl (fun hT => (sh_s66 hT.st)) rfl rfl ⟨Nat.le_of_ble_eq_true rfl, Nat.le_of_ble_eq_true rfl⟩ (sl_292 e1 ⟨rfl, rfl⟩) rfl rfl (show 9 + 1 ≤ d + 1 + 15 by omega) (show 8 + (3 + 11) + (222) ≤ 40 * (d + 1) + 385 by omega) ?_
    rcases sh_ite e with ⟨c, e⟩ | ⟨c, e⟩
    · refine sh_Lk_lift (T := m11.T) (I := m11.I) (J := m11.J) (s := m11.s) (pc2 := 132) (lv2 := [(10, .int (m11.I 66 41)), (9, .int (m11.I 66 53)), (0, .ref 67), (1, .int x1), (2, .int x2), (5, .long x5), (7, .long x7)]) (st2 := [.int x2, .ref 67]) (I2 := sh_u2 (sh_u2 (sh_u2 m11.I 66 43 3) 66 44 0) 66 45 0) (J2 := sh_u2 m11.J 66 46 x7) (fun hT v kk => ?_) ?_
      · refine sh_j0 (c := .ne) (off := (5)) (pc2 := 97) true rfl (sh_Znet c) rfl ?_
        refine sh_w (i := (.aload_n 0)) (len := 1) (pc2 := 98) (lv2 := [(0, .ref 67), (1, .int x1), (2, .int x2), (5, .long x5), (7, .long x7)]) (st2 := [.ref 67]) (h2 := (sh_rep m11.T m11.I m11.J)) rfl rfl rfl ?_
        refine sh_gI1 (len := 3) (x := m11.I 66 53) (pc2 := 101) rfl rfl (sh_s66 hT.st) rfl rfl rfl ?_
        refine sh_w (i := (.istore 9)) (len := 2) (pc2 := 103) (lv2 := [(9, .int (m11.I 66 53)), (0, .ref 67), (1, .int x1), (2, .int x2), (5, .long x5), (7, .long x7)]) (st2 := []) (h2 := (sh_rep m11.T m11.I m11.J)) rfl rfl rfl ?_
        refine sh_w (i := (.aload_n 0)) (len := 1) (pc2 := 104) (lv2 := [(9, .int (m11.I 66 53)), (0, .ref 67), (1, .int x1), (2, .int x2), (5, .long x5), (7, .long x7)]) (st2 := [.ref 67]) (h2 := (sh_rep m11.T m11.I m11.J)) rfl rfl rfl ?_
        refine sh_gI1 (len := 3) (x := m11.I 66 41) (pc2 := 107) rfl rfl (sh_s66 hT.st) rfl rfl rfl ?_
        refine sh_w (i := (.istore 10)) (len := 2) (pc2 := 109) (lv2 := [(10, .int (m11.I 66 41)), (9, .int (m11.I 66 53)), (0, .ref 67), (1, .int x1), (2, .int x2), (5, .long x5), (7, .long x7)]) (st2 := []) (h2 := (sh_rep m11.T m11.I m11.J)) rfl rfl rfl ?_
        refine sh_w (i := (.aload_n 0)) (len := 1) (pc2 := 110) (lv2 := [(10, .int (m11.I 66 41)), (9, .int (m11.I 66 53)), (0, .ref 67), (1, .int x1), (2, .int x2), (5, .long x5), (7, .long x7)]) (st2 := [.ref 67]) (h2 := (sh_rep m11.T m11.I m11.J)) rfl rfl rfl ?_
        refine sh_w (i := (.iconst 3)) (len := 1) (pc2 := 111) (lv2 := [(10, .int (m11.I 66 41)), (9, .int (m11.I 66 53)), (0, .ref 67), (1, .int x1), (2, .int x2), (5, .long x5), (7, .long x7)]) (st2 := [.int 3, .ref 67]) (h2 := (sh_rep m11.T m11.I m11.J)) rfl rfl rfl ?_
        refine sh_pI1 (x := 3) (pc2 := 114) rfl rfl (sh_s66 hT.st) rfl rfl rfl rfl ?_
        refine sh_w (i := (.aload_n 0)) (len := 1) (pc2 := 115) (lv2 := [(10, .int (m11.I 66 41)), (9, .int (m11.I 66 53)), (0, .ref 67), (1, .int x1), (2, .int x2), (5, .long x5), (7, .long x7)]) (st2 := [.ref 67]) (h2 := (sh_rep m11.T (sh_u2 m11.I 66 43 3) m11.J)) rfl rfl rfl ?_
        refine sh_w (i := (.iconst 0)) (len := 1) (pc2 := 116) (lv2 := [(10, .int (m11.I 66 41)), (9, .int (m11.I 66 53)), (0, .ref 67), (1, .int x1), (2, .int x2), (5, .long x5), (7, .long x7)]) (st2 := [.int 0, .ref 67]) (h2 := (sh_rep m11.T (sh_u2 m11.I 66 43 3) m11.J)) rfl rfl rfl ?_
        refine sh_pI1 (x := 0) (pc2 := 119) rfl rfl (sh_s66 hT.st) rfl rfl rfl rfl ?_
        refine sh_w (i := (.aload_n 0)) (len := 1) (pc2 := 120) (lv2 := [(10, .int (m11.I 66 41)), (9, .int (m11.I 66 53)), (0, .ref 67), (1, .int x1), (2, .int x2), (5, .long x5), (7, .long x7)]) (st2 := [.ref 67]) (h2 := (sh_rep m11.T (sh_u2 (sh_u2 m11.I 66 43 3) 66 44 0) m11.J)) rfl rfl rfl ?_
        refine sh_w (i := (.iconst 0)) (len := 1) (pc2 := 121) (lv2 := [(10, .int (m11.I 66 41)), (9, .int (m11.I 66 53)), (0, .ref 67), (1, .int x1), (2, .int x2), (5, .long x5), (7, .long x7)]) (st2 := [.int 0, .ref 67]) (h2 := (sh_rep m11.T (sh_u2 (sh_u2 m11.I 66 43 3) 66 44 0) m11.J)) rfl rfl rfl ?_
        refine sh_pI1 (x := 0) (pc2 := 124) rfl rfl (sh_s66 hT.st) rfl rfl rfl rfl ?_
        refine sh_w (i := (.aload_n 0)) (len := 1) (pc2 := 125) (lv2 := [(10, .int (m11.I 66 41)), (9, .int (m11.I 66 53)), (0, .ref 67), (1, .int x1), (2, .int x2), (5, .long x5), (7, .long x7)]) (st2 := [.ref 67]) (h2 := (sh_rep m11.T (sh_u2 (sh_u2 (sh_u2 m11.I 66 43 3) 66 44 0) 66 45 0) m11.J)) rfl rfl rfl ?_
        refine sh_w (i := (.lload 7)) (len := 2) (pc2 := 127) (lv2 := [(10, .int (m11.I 66 41)), (9, .int (m11.I 66 53)), (0, .ref 67), (1, .int x1), (2, .int x2), (5, .long x5), (7, .long x7)]) (st2 := [.long x7, .ref 67]) (h2 := (sh_rep m11.T (sh_u2 (sh_u2 (sh_u2 m11.I 66 43 3) 66 44 0) 66 45 0) m11.J)) rfl rfl rfl ?_
        refine sh_pJ1 (x := x7) (pc2 := 130) rfl rfl (sh_s66 hT.st) rfl rfl rfl rfl ?_
        refine sh_w (i := (.aload_n 0)) (len := 1) (pc2 := 131) (lv2 := [(10, .int (m11.I 66 41)), (9, .int (m11.I 66 53)), (0, .ref 67), (1, .int x1), (2, .int x2), (5, .long x5), (7, .long x7)]) (st2 := [.ref 67]) (h2 := (sh_rep m11.T (sh_u2 (sh_u2 (sh_u2 m11.I 66 43 3) 66 44 0) 66 45 0) (sh_u2 m11.J 66 46 x7))) rfl rfl rfl ?_
        refine sh_w (i := (.iload_n 2)) (len := 1) (pc2 := 132) (lv2 := [(10, .int (m11.I 66 41)), (9, .int (m11.I 66 53)), (0, .ref 67), (1, .int x1), (2, .int x2), (5, .long x5), (7, .long x7)]) (st2 := [.int x2, .ref 67]) (h2 := (sh_rep m11.T (sh_u2 (sh_u2 (sh_u2 m11.I 66 43 3) 66 44 0) 66 45 0) (sh_u2 m11.J 66 46 x7))) rfl rfl rfl ?_
        exact kk
      obtain ⟨r2, m12, e2, e⟩ := sh_bn_e e
      refine sh_Lk_cV (r := none) (st2 := []) (pc2 := 135) (k2 := 318) (a := 66) (as := [.ref 67, .int x2]) (rest := []) rfl rfl rfl (fun hT => (sh_s66 hT.st)) rfl rfl ⟨Nat.le_of_ble_eq_true rfl, Nat.le_of_ble_eq_true rfl⟩ (sl_318 e2 ⟨rfl, rfl⟩) rfl rfl (show 8 + 1 ≤ d + 1 + 15 by omega) (show 8 + (4 + 11) + (200) ≤ 40 * (d + 1) + 385 by omega) ?_
      refine sh_Lk_lift (T := m12.T) (I := m12.I) (J := m12.J) (s := m12.s) (pc2 := 141) (lv2 := [(10, .int (m11.I 66 41)), (9, .int (m11.I 66 53)), (0, .ref 67), (1, .int x1), (2, .int x2), (5, .long x5), (7, .long x7)]) (st2 := [.int x1, .ref 75, .ref 67]) (I2 := m12.I) (J2 := m12.J) (fun hT v kk => ?_) ?_
      · refine sh_w (i := (.aload_n 0)) (len := 1) (pc2 := 136) (lv2 := [(10, .int (m11.I 66 41)), (9, .int (m11.I 66 53)), (0, .ref 67), (1, .int x1), (2, .int x2), (5, .long x5), (7, .long x7)]) (st2 := [.ref 67]) (h2 := (sh_rep m12.T m12.I m12.J)) rfl rfl rfl ?_
        refine sh_w (i := (.aload_n 0)) (len := 1) (pc2 := 137) (lv2 := [(10, .int (m11.I 66 41)), (9, .int (m11.I 66 53)), (0, .ref 67), (1, .int x1), (2, .int x2), (5, .long x5), (7, .long x7)]) (st2 := [.ref 67, .ref 67]) (h2 := (sh_rep m12.T m12.I m12.J)) rfl rfl rfl ?_
        refine sh_gR1 (len := 3) (x := .ref 75) (pc2 := 140) rfl rfl (sh_s66 hT.st) rfl rfl ?_
        refine sh_w (i := (.iload_n 1)) (len := 1) (pc2 := 141) (lv2 := [(10, .int (m11.I 66 41)), (9, .int (m11.I 66 53)), (0, .ref 67), (1, .int x1), (2, .int x2), (5, .long x5), (7, .long x7)]) (st2 := [.int x1, .ref 75, .ref 67]) (h2 := (sh_rep m12.T m12.I m12.J)) rfl rfl rfl ?_
        exact kk
      obtain ⟨c, e⟩ := sh_gd e
      refine sh_Lk_lift (T := m12.T) (I := m12.I) (J := m12.J) (s := m12.s) (pc2 := 142) (lv2 := [(10, .int (m11.I 66 41)), (9, .int (m11.I 66 53)), (0, .ref 67), (1, .int x1), (2, .int x2), (5, .long x5), (7, .long x7)]) (st2 := [.int (m12.I 74 (Int32.toNatClampNeg x1)), .ref 67]) (I2 := m12.I) (J2 := m12.J) (fun hT v kk => ?_) ?_
      · refine sh_ia1 (x := m12.I 74 (Int32.toNatClampNeg x1)) (pc2 := 142) rfl (sh_s74 hT.st) (sh_okb1 c) (sh_okb2 c) rfl rfl ?_
        exact kk
      obtain ⟨r3, m13, e3, e⟩ := sh_bn_e e
      refine sh_Lk_cV (r := (some (.int (sh_b2 r3)))) (st2 := [.int (sh_b2 r3)]) (pc2 := 145) (k2 := 290) (a := 66) (as := [.ref 67, .int (m12.I 74 (Int32.toNatClampNeg x1))]) (rest := []) rfl rfl rfl (fun hT => (sh_s66 hT.st)) rfl rfl ⟨Nat.le_of_ble_eq_true rfl, Nat.le_of_ble_eq_true rfl⟩ (hQ.f290 e3 ⟨rfl, rfl⟩) rfl rfl (show d + 15 + 1 ≤ d + 1 + 15 by omega) (show 8 + (3 + 11) + (40 * d + 385) ≤ 40 * (d + 1) + 385 by omega) ?_
      rcases sh_ite e with ⟨c, e⟩ | ⟨c, e⟩
      · refine sh_Lk_lift (T := m13.T) (I := m13.I) (J := m13.J) (s := m13.s) (pc2 := 78) (lv2 := [(7, .long (x7 + (1 : Int64))), (10, .int (m11.I 66 41)), (9, .int (m11.I 66 53)), (0, .ref 67), (1, .int x1), (2, .int x2), (5, .long x5)]) (st2 := []) (I2 := sh_u2 (sh_u2 m13.I 66 53 (m11.I 66 53)) 66 41 (m11.I 66 41)) (J2 := m13.J) (fun hT v kk => ?_) ?_
        · refine sh_j0 (c := .ne) (off := (5)) (pc2 := 150) true rfl (sh_Znet c) rfl ?_
          refine sh_w (i := (.aload_n 0)) (len := 1) (pc2 := 151) (lv2 := [(10, .int (m11.I 66 41)), (9, .int (m11.I 66 53)), (0, .ref 67), (1, .int x1), (2, .int x2), (5, .long x5), (7, .long x7)]) (st2 := [.ref 67]) (h2 := (sh_rep m13.T m13.I m13.J)) rfl rfl rfl ?_
          refine sh_w (i := (.iload 9)) (len := 2) (pc2 := 153) (lv2 := [(10, .int (m11.I 66 41)), (9, .int (m11.I 66 53)), (0, .ref 67), (1, .int x1), (2, .int x2), (5, .long x5), (7, .long x7)]) (st2 := [.int (m11.I 66 53), .ref 67]) (h2 := (sh_rep m13.T m13.I m13.J)) rfl rfl rfl ?_
          refine sh_pI1 (x := m11.I 66 53) (pc2 := 156) rfl rfl (sh_s66 hT.st) rfl rfl rfl rfl ?_
          refine sh_w (i := (.aload_n 0)) (len := 1) (pc2 := 157) (lv2 := [(10, .int (m11.I 66 41)), (9, .int (m11.I 66 53)), (0, .ref 67), (1, .int x1), (2, .int x2), (5, .long x5), (7, .long x7)]) (st2 := [.ref 67]) (h2 := (sh_rep m13.T (sh_u2 m13.I 66 53 (m11.I 66 53)) m13.J)) rfl rfl rfl ?_
          refine sh_w (i := (.iload 10)) (len := 2) (pc2 := 159) (lv2 := [(10, .int (m11.I 66 41)), (9, .int (m11.I 66 53)), (0, .ref 67), (1, .int x1), (2, .int x2), (5, .long x5), (7, .long x7)]) (st2 := [.int (m11.I 66 41), .ref 67]) (h2 := (sh_rep m13.T (sh_u2 m13.I 66 53 (m11.I 66 53)) m13.J)) rfl rfl rfl ?_
          refine sh_pI1 (x := m11.I 66 41) (pc2 := 162) rfl rfl (sh_s66 hT.st) rfl rfl rfl rfl ?_
          refine sh_w (i := (.lload 7)) (len := 2) (pc2 := 164) (lv2 := [(10, .int (m11.I 66 41)), (9, .int (m11.I 66 53)), (0, .ref 67), (1, .int x1), (2, .int x2), (5, .long x5), (7, .long x7)]) (st2 := [.long x7]) (h2 := (sh_rep m13.T (sh_u2 (sh_u2 m13.I 66 53 (m11.I 66 53)) 66 41 (m11.I 66 41)) m13.J)) rfl rfl rfl ?_
          refine sh_w (i := (.lconst 1)) (len := 1) (pc2 := 165) (lv2 := [(10, .int (m11.I 66 41)), (9, .int (m11.I 66 53)), (0, .ref 67), (1, .int x1), (2, .int x2), (5, .long x5), (7, .long x7)]) (st2 := [.long 1, .long x7]) (h2 := (sh_rep m13.T (sh_u2 (sh_u2 m13.I 66 53 (m11.I 66 53)) 66 41 (m11.I 66 41)) m13.J)) rfl rfl rfl ?_
          refine sh_w (i := .ladd) (len := 1) (pc2 := 166) (lv2 := [(10, .int (m11.I 66 41)), (9, .int (m11.I 66 53)), (0, .ref 67), (1, .int x1), (2, .int x2), (5, .long x5), (7, .long x7)]) (st2 := [.long (x7 + (1 : Int64))]) (h2 := (sh_rep m13.T (sh_u2 (sh_u2 m13.I 66 53 (m11.I 66 53)) 66 41 (m11.I 66 41)) m13.J)) rfl rfl rfl ?_
          refine sh_w (i := (.lstore 7)) (len := 2) (pc2 := 168) (lv2 := [(7, .long (x7 + (1 : Int64))), (10, .int (m11.I 66 41)), (9, .int (m11.I 66 53)), (0, .ref 67), (1, .int x1), (2, .int x2), (5, .long x5)]) (st2 := []) (h2 := (sh_rep m13.T (sh_u2 (sh_u2 m13.I 66 53 (m11.I 66 53)) 66 41 (m11.I 66 41)) m13.J)) rfl rfl rfl ?_
          refine sh_w (i := (.goto (-90))) (len := 3) (pc2 := 78) (lv2 := [(7, .long (x7 + (1 : Int64))), (10, .int (m11.I 66 41)), (9, .int (m11.I 66 53)), (0, .ref 67), (1, .int x1), (2, .int x2), (5, .long x5)]) (st2 := []) (h2 := (sh_rep m13.T (sh_u2 (sh_u2 m13.I 66 53 (m11.I 66 53)) 66 41 (m11.I 66 41)) m13.J)) rfl rfl rfl ?_
          exact kk
        obtain rfl := Option.some.inj e
        exact sh_Lk_sub (sh_sub_c rfl (sh_sub_c rfl (sh_sub_c rfl (sh_sub_c rfl (sh_sub_c rfl (sh_sub_n)))))) tg
      · refine sh_Lk_lift (T := m13.T) (I := m13.I) (J := m13.J) (s := m13.s) (pc2 := 149) (lv2 := [(10, .int (m11.I 66 41)), (9, .int (m11.I 66 53)), (0, .ref 67), (1, .int x1), (2, .int x2), (5, .long x5), (7, .long x7)]) (st2 := [.int 0]) (I2 := m13.I) (J2 := m13.J) (fun hT v kk => ?_) ?_
        · refine sh_j0 (c := .ne) (off := (5)) (pc2 := 148) false rfl (sh_Znef c) rfl ?_
          refine sh_w (i := (.iconst 0)) (len := 1) (pc2 := 149) (lv2 := [(10, .int (m11.I 66 41)), (9, .int (m11.I 66 53)), (0, .ref 67), (1, .int x1), (2, .int x2), (5, .long x5), (7, .long x7)]) (st2 := [.int 0]) (h2 := (sh_rep m13.T m13.I m13.J)) rfl rfl rfl ?_
          exact kk
        obtain rfl := Option.some.inj e
        obtain ⟨rfl, rfl⟩ := tg
        exact sh_Lk_ret (i := .ireturn) rfl rfl rfl (by omega) (by omega)
    · refine sh_Lk_lift (T := m11.T) (I := m11.I) (J := m11.J) (s := m11.s) (pc2 := 96) (lv2 := [(0, .ref 67), (1, .int x1), (2, .int x2), (5, .long x5), (7, .long x7)]) (st2 := [.int 0]) (I2 := m11.I) (J2 := m11.J) (fun hT v kk => ?_) ?_
      · refine sh_j0 (c := .ne) (off := (5)) (pc2 := 95) false rfl (sh_Znef c) rfl ?_
        refine sh_w (i := (.iconst 0)) (len := 1) (pc2 := 96) (lv2 := [(0, .ref 67), (1, .int x1), (2, .int x2), (5, .long x5), (7, .long x7)]) (st2 := [.int 0]) (h2 := (sh_rep m11.T m11.I m11.J)) rfl rfl rfl ?_
        exact kk
      obtain rfl := Option.some.inj e
      obtain ⟨rfl, rfl⟩ := tg
      exact sh_Lk_ret (i := .ireturn) rfl rfl rfl (by omega) (by omega)
  · refine sh_Lk_lift (T := m.T) (I := m.I) (J := m.J) (s := m.s) (pc2 := 172) (lv2 := [(0, .ref 67), (1, .int x1), (2, .int x2), (5, .long x5), (7, .long x7)]) (st2 := [.int 1]) (I2 := m.I) (J2 := m.J) (fun hT v kk => ?_) ?_
    · refine sh_j0 (c := .ge) (off := (88)) (pc2 := 171) true rfl (sh_Cget c) rfl ?_
      refine sh_w (i := (.iconst 1)) (len := 1) (pc2 := 172) (lv2 := [(0, .ref 67), (1, .int x1), (2, .int x2), (5, .long x5), (7, .long x7)]) (st2 := [.int 1]) (h2 := (sh_rep m.T m.I m.J)) rfl rfl rfl ?_
      exact kk
    obtain rfl := Option.some.inj e
    obtain ⟨rfl, rfl⟩ := tg
    exact sh_Lk_ret (i := .ireturn) rfl rfl rfl (by omega) (by omega)
theorem sl_321_78 {Q : sh_Q279} {d : Nat} {x1 : Int32} {x2 : Int32} {x5 : Int64} {x7 : Int64} {m m2 : sh_X} {o : Outcome} {z : (Bool × sh_X)} (hQ : sh_QL279 Q d) (e : sf_321_78 Q x1 x2 x5 x7 m = some z) (tg : (sh_tZ o m2) z) : sh_Lk 321 78 [(0, .ref 67), (1, .int x1), (2, .int x2), (5, .long x5), (7, .long x7)] [] m o m2 (d + 1 + 15) (40 * (d + 1) + 385) := by
  unfold sf_321_78 at e
  exact sh_while_lk (P := fun q => sh_Lk 321 78 [(0, .ref 67), (1, .int x1), (2, .int x2), (5, .long x5), (7, .long q.1)] [] q.2 o m2 (d + 1 + 15) (40 * (d + 1) + 385)) (Q := (sh_tZ o m2)) (fun q z e tg => sl_321_78s (x1 := x1) (x2 := x2) (x5 := x5) (x7 := q.1) (m := q.2) hQ e tg) (s := (x7, m)) e tg
theorem sl_321 {Q : sh_Q279} {d : Nat} {x1 : Int32} {m m2 : sh_X} {o : Outcome} {z : (Bool × sh_X)} (hQ : sh_QL279 Q d) (e : sf_321 Q x1 m = some z) (tg : (sh_tZ o m2) z) : sh_Lk 321 0 [(0, .ref 67), (1, .int x1)] [] m o m2 (d + 1 + 15) (40 * (d + 1) + 385) := by
  unfold sf_321 at e
  refine sh_Lk_lift (T := m.T) (I := m.I) (J := m.J) (s := m.s) (pc2 := 5) (lv2 := [(0, .ref 67), (1, .int x1)]) (st2 := [.int x1, .ref 76]) (I2 := m.I) (J2 := m.J) (fun hT v kk => ?_) ?_
  · refine sh_w (i := (.aload_n 0)) (len := 1) (pc2 := 1) (lv2 := [(0, .ref 67), (1, .int x1)]) (st2 := [.ref 67]) (h2 := (sh_rep m.T m.I m.J)) rfl rfl rfl ?_
    refine sh_gR1 (len := 3) (x := .ref 76) (pc2 := 4) rfl rfl (sh_s66 hT.st) rfl rfl ?_
    refine sh_w (i := (.iload_n 1)) (len := 1) (pc2 := 5) (lv2 := [(0, .ref 67), (1, .int x1)]) (st2 := [.int x1, .ref 76]) (h2 := (sh_rep m.T m.I m.J)) rfl rfl rfl ?_
    exact kk
  obtain ⟨c, e⟩ := sh_gd e
  refine sh_Lk_lift (T := m.T) (I := m.I) (J := m.J) (s := m.s) (pc2 := 9) (lv2 := [(2, .int (m.I 75 (Int32.toNatClampNeg x1))), (0, .ref 67), (1, .int x1)]) (st2 := [.int (m.I 75 (Int32.toNatClampNeg x1)), .ref 67]) (I2 := m.I) (J2 := m.J) (fun hT v kk => ?_) ?_
  · refine sh_ia1 (x := m.I 75 (Int32.toNatClampNeg x1)) (pc2 := 6) rfl (sh_s75 hT.st) (sh_okb1 c) (sh_okb2 c) rfl rfl ?_
    refine sh_w (i := (.istore_n 2)) (len := 1) (pc2 := 7) (lv2 := [(2, .int (m.I 75 (Int32.toNatClampNeg x1))), (0, .ref 67), (1, .int x1)]) (st2 := []) (h2 := (sh_rep m.T m.I m.J)) rfl rfl rfl ?_
    refine sh_w (i := (.aload_n 0)) (len := 1) (pc2 := 8) (lv2 := [(2, .int (m.I 75 (Int32.toNatClampNeg x1))), (0, .ref 67), (1, .int x1)]) (st2 := [.ref 67]) (h2 := (sh_rep m.T m.I m.J)) rfl rfl rfl ?_
    refine sh_w (i := (.iload_n 2)) (len := 1) (pc2 := 9) (lv2 := [(2, .int (m.I 75 (Int32.toNatClampNeg x1))), (0, .ref 67), (1, .int x1)]) (st2 := [.int (m.I 75 (Int32.toNatClampNeg x1)), .ref 67]) (h2 := (sh_rep m.T m.I m.J)) rfl rfl rfl ?_
    exact kk
  obtain ⟨r1, e1, e⟩ := sh_bc_e e
  refine sh_Lk_cV (r := (some (.int r1))) (st2 := [.int r1]) (pc2 := 12) (k2 := 284) (a := 66) (as := [.ref 67, .int (m.I 75 (Int32.toNatClampNeg x1))]) (rest := []) rfl rfl rfl (fun hT => (sh_s66 hT.st)) rfl rfl ⟨Nat.le_of_ble_eq_true rfl, Nat.le_of_ble_eq_true rfl⟩ (sl_284 e1 ⟨rfl, rfl⟩) rfl rfl (show 9 + 1 ≤ d + 1 + 15 by omega) (show 8 + (3 + 11) + (223) ≤ 40 * (d + 1) + 385 by omega) ?_
  rcases sh_ite e with ⟨c, e⟩ | ⟨c, e⟩
  · refine sh_Lk_lift (T := m.T) (I := m.I) (J := m.J) (s := m.s) (pc2 := 33) (lv2 := [(2, .int (m.I 75 (Int32.toNatClampNeg x1))), (0, .ref 67), (1, .int x1)]) (st2 := [.int x1, .ref 77, .ref 67]) (I2 := m.I) (J2 := m.J) (fun hT v kk => ?_) ?_
    · refine sh_j0 (c := .lt) (off := (15)) (pc2 := 27) true rfl (sh_Bltt c) rfl ?_
      refine sh_w (i := (.aload_n 0)) (len := 1) (pc2 := 28) (lv2 := [(2, .int (m.I 75 (Int32.toNatClampNeg x1))), (0, .ref 67), (1, .int x1)]) (st2 := [.ref 67]) (h2 := (sh_rep m.T m.I m.J)) rfl rfl rfl ?_
      refine sh_w (i := (.aload_n 0)) (len := 1) (pc2 := 29) (lv2 := [(2, .int (m.I 75 (Int32.toNatClampNeg x1))), (0, .ref 67), (1, .int x1)]) (st2 := [.ref 67, .ref 67]) (h2 := (sh_rep m.T m.I m.J)) rfl rfl rfl ?_
      refine sh_gR1 (len := 3) (x := .ref 77) (pc2 := 32) rfl rfl (sh_s66 hT.st) rfl rfl ?_
      refine sh_w (i := (.iload_n 1)) (len := 1) (pc2 := 33) (lv2 := [(2, .int (m.I 75 (Int32.toNatClampNeg x1))), (0, .ref 67), (1, .int x1)]) (st2 := [.int x1, .ref 77, .ref 67]) (h2 := (sh_rep m.T m.I m.J)) rfl rfl rfl ?_
      exact kk
    obtain ⟨c, e⟩ := sh_gd e
    refine sh_Lk_lift (T := m.T) (I := m.I) (J := m.J) (s := m.s) (pc2 := 34) (lv2 := [(2, .int (m.I 75 (Int32.toNatClampNeg x1))), (0, .ref 67), (1, .int x1)]) (st2 := [.int (m.I 76 (Int32.toNatClampNeg x1)), .ref 67]) (I2 := m.I) (J2 := m.J) (fun hT v kk => ?_) ?_
    · refine sh_ia1 (x := m.I 76 (Int32.toNatClampNeg x1)) (pc2 := 34) rfl (sh_s76 hT.st) (sh_okb1 c) (sh_okb2 c) rfl rfl ?_
      exact kk
    obtain ⟨r2, e2, e⟩ := sh_bc_e e
    refine sh_Lk_cV (r := (some (.long r2))) (st2 := [.long r2]) (pc2 := 37) (k2 := 281) (a := 66) (as := [.ref 67, .int (m.I 76 (Int32.toNatClampNeg x1))]) (rest := []) rfl rfl rfl (fun hT => (sh_s66 hT.st)) rfl rfl ⟨Nat.le_of_ble_eq_true rfl, Nat.le_of_ble_eq_true rfl⟩ (sl_281 e2 ⟨rfl, rfl⟩) rfl rfl (show 8 + 1 ≤ d + 1 + 15 by omega) (show 8 + (5 + 11) + (200) ≤ 40 * (d + 1) + 385 by omega) ?_
    refine sh_Lk_lift (T := m.T) (I := m.I) (J := m.J) (s := m.s) (pc2 := 44) (lv2 := [(3, .long r2), (2, .int (m.I 75 (Int32.toNatClampNeg x1))), (0, .ref 67), (1, .int x1)]) (st2 := [.int x1, .ref 77, .ref 67]) (I2 := m.I) (J2 := m.J) (fun hT v kk => ?_) ?_
    · refine sh_w (i := (.lstore_n 3)) (len := 1) (pc2 := 38) (lv2 := [(3, .long r2), (2, .int (m.I 75 (Int32.toNatClampNeg x1))), (0, .ref 67), (1, .int x1)]) (st2 := []) (h2 := (sh_rep m.T m.I m.J)) rfl rfl rfl ?_
      refine sh_w (i := (.aload_n 0)) (len := 1) (pc2 := 39) (lv2 := [(3, .long r2), (2, .int (m.I 75 (Int32.toNatClampNeg x1))), (0, .ref 67), (1, .int x1)]) (st2 := [.ref 67]) (h2 := (sh_rep m.T m.I m.J)) rfl rfl rfl ?_
      refine sh_w (i := (.aload_n 0)) (len := 1) (pc2 := 40) (lv2 := [(3, .long r2), (2, .int (m.I 75 (Int32.toNatClampNeg x1))), (0, .ref 67), (1, .int x1)]) (st2 := [.ref 67, .ref 67]) (h2 := (sh_rep m.T m.I m.J)) rfl rfl rfl ?_
      refine sh_gR1 (len := 3) (x := .ref 77) (pc2 := 43) rfl rfl (sh_s66 hT.st) rfl rfl ?_
      refine sh_w (i := (.iload_n 1)) (len := 1) (pc2 := 44) (lv2 := [(3, .long r2), (2, .int (m.I 75 (Int32.toNatClampNeg x1))), (0, .ref 67), (1, .int x1)]) (st2 := [.int x1, .ref 77, .ref 67]) (h2 := (sh_rep m.T m.I m.J)) rfl rfl rfl ?_
      exact kk
    obtain ⟨c, e⟩ := sh_gd e
    refine sh_Lk_lift (T := m.T) (I := m.I) (J := m.J) (s := m.s) (pc2 := 47) (lv2 := [(3, .long r2), (2, .int (m.I 75 (Int32.toNatClampNeg x1))), (0, .ref 67), (1, .int x1)]) (st2 := [.int ((m.I 76 (Int32.toNatClampNeg x1)) + 2), .ref 67]) (I2 := m.I) (J2 := m.J) (fun hT v kk => ?_) ?_
    · refine sh_ia1 (x := m.I 76 (Int32.toNatClampNeg x1)) (pc2 := 45) rfl (sh_s76 hT.st) (sh_okb1 c) (sh_okb2 c) rfl rfl ?_
      refine sh_w (i := (.iconst 2)) (len := 1) (pc2 := 46) (lv2 := [(3, .long r2), (2, .int (m.I 75 (Int32.toNatClampNeg x1))), (0, .ref 67), (1, .int x1)]) (st2 := [.int 2, .int (m.I 76 (Int32.toNatClampNeg x1)), .ref 67]) (h2 := (sh_rep m.T m.I m.J)) rfl rfl rfl ?_
      refine sh_w (i := .iadd) (len := 1) (pc2 := 47) (lv2 := [(3, .long r2), (2, .int (m.I 75 (Int32.toNatClampNeg x1))), (0, .ref 67), (1, .int x1)]) (st2 := [.int ((m.I 76 (Int32.toNatClampNeg x1)) + 2), .ref 67]) (h2 := (sh_rep m.T m.I m.J)) rfl rfl rfl ?_
      exact kk
    obtain ⟨r3, e3, e⟩ := sh_bc_e e
    refine sh_Lk_cV (r := (some (.long r3))) (st2 := [.long r3]) (pc2 := 50) (k2 := 281) (a := 66) (as := [.ref 67, .int ((m.I 76 (Int32.toNatClampNeg x1)) + 2)]) (rest := []) rfl rfl rfl (fun hT => (sh_s66 hT.st)) rfl rfl ⟨Nat.le_of_ble_eq_true rfl, Nat.le_of_ble_eq_true rfl⟩ (sl_281 e3 ⟨rfl, rfl⟩) rfl rfl (show 8 + 1 ≤ d + 1 + 15 by omega) (show 8 + (5 + 11) + (200) ≤ 40 * (d + 1) + 385 by omega) ?_
    refine sh_Lk_lift (T := m.T) (I := m.I) (J := m.J) (s := m.s) (pc2 := 60) (lv2 := [(5, .long r3), (3, .long r2), (2, .int (m.I 75 (Int32.toNatClampNeg x1))), (0, .ref 67), (1, .int x1)]) (st2 := [.int (lg_cmp (r3 - r2) 256)]) (I2 := m.I) (J2 := m.J) (fun hT v kk => ?_) ?_
    · refine sh_w (i := (.lstore 5)) (len := 2) (pc2 := 52) (lv2 := [(5, .long r3), (3, .long r2), (2, .int (m.I 75 (Int32.toNatClampNeg x1))), (0, .ref 67), (1, .int x1)]) (st2 := []) (h2 := (sh_rep m.T m.I m.J)) rfl rfl rfl ?_
      refine sh_w (i := (.lload 5)) (len := 2) (pc2 := 54) (lv2 := [(5, .long r3), (3, .long r2), (2, .int (m.I 75 (Int32.toNatClampNeg x1))), (0, .ref 67), (1, .int x1)]) (st2 := [.long r3]) (h2 := (sh_rep m.T m.I m.J)) rfl rfl rfl ?_
      refine sh_w (i := (.lload_n 3)) (len := 1) (pc2 := 55) (lv2 := [(5, .long r3), (3, .long r2), (2, .int (m.I 75 (Int32.toNatClampNeg x1))), (0, .ref 67), (1, .int x1)]) (st2 := [.long r2, .long r3]) (h2 := (sh_rep m.T m.I m.J)) rfl rfl rfl ?_
      refine sh_w (i := .lsub) (len := 1) (pc2 := 56) (lv2 := [(5, .long r3), (3, .long r2), (2, .int (m.I 75 (Int32.toNatClampNeg x1))), (0, .ref 67), (1, .int x1)]) (st2 := [.long (r3 - r2)]) (h2 := (sh_rep m.T m.I m.J)) rfl rfl rfl ?_
      refine sh_w (i := (.ldc2_w 539)) (len := 3) (pc2 := 59) (lv2 := [(5, .long r3), (3, .long r2), (2, .int (m.I 75 (Int32.toNatClampNeg x1))), (0, .ref 67), (1, .int x1)]) (st2 := [.long 256, .long (r3 - r2)]) (h2 := (sh_rep m.T m.I m.J)) rfl rfl rfl ?_
      refine sh_w (i := .lcmp) (len := 1) (pc2 := 60) (lv2 := [(5, .long r3), (3, .long r2), (2, .int (m.I 75 (Int32.toNatClampNeg x1))), (0, .ref 67), (1, .int x1)]) (st2 := [.int (lg_cmp (r3 - r2) 256)]) (h2 := (sh_rep m.T m.I m.J)) rfl rfl rfl ?_
      exact kk
    rcases sh_ite e with ⟨c, e⟩ | ⟨c, e⟩
    · refine sh_Lk_lift (T := m.T) (I := m.I) (J := m.J) (s := m.s) (pc2 := 70) (lv2 := [(5, .long r3), (3, .long r2), (2, .int (m.I 75 (Int32.toNatClampNeg x1))), (0, .ref 67), (1, .int x1)]) (st2 := [.int (m.I 75 (Int32.toNatClampNeg x1)), .ref 70, .int 4, .ref 67]) (I2 := m.I) (J2 := m.J) (fun hT v kk => ?_) ?_
      · refine sh_j0 (c := .le) (off := (15)) (pc2 := 63) false rfl (sh_Clef c) rfl ?_
        refine sh_w (i := (.aload_n 0)) (len := 1) (pc2 := 64) (lv2 := [(5, .long r3), (3, .long r2), (2, .int (m.I 75 (Int32.toNatClampNeg x1))), (0, .ref 67), (1, .int x1)]) (st2 := [.ref 67]) (h2 := (sh_rep m.T m.I m.J)) rfl rfl rfl ?_
        refine sh_w (i := (.iconst 4)) (len := 1) (pc2 := 65) (lv2 := [(5, .long r3), (3, .long r2), (2, .int (m.I 75 (Int32.toNatClampNeg x1))), (0, .ref 67), (1, .int x1)]) (st2 := [.int 4, .ref 67]) (h2 := (sh_rep m.T m.I m.J)) rfl rfl rfl ?_
        refine sh_w (i := (.aload_n 0)) (len := 1) (pc2 := 66) (lv2 := [(5, .long r3), (3, .long r2), (2, .int (m.I 75 (Int32.toNatClampNeg x1))), (0, .ref 67), (1, .int x1)]) (st2 := [.ref 67, .int 4, .ref 67]) (h2 := (sh_rep m.T m.I m.J)) rfl rfl rfl ?_
        refine sh_gR1 (len := 3) (x := .ref 70) (pc2 := 69) rfl rfl (sh_s66 hT.st) rfl rfl ?_
        refine sh_w (i := (.iload_n 2)) (len := 1) (pc2 := 70) (lv2 := [(5, .long r3), (3, .long r2), (2, .int (m.I 75 (Int32.toNatClampNeg x1))), (0, .ref 67), (1, .int x1)]) (st2 := [.int (m.I 75 (Int32.toNatClampNeg x1)), .ref 70, .int 4, .ref 67]) (h2 := (sh_rep m.T m.I m.J)) rfl rfl rfl ?_
        exact kk
      obtain ⟨c, e⟩ := sh_gd e
      refine sh_Lk_lift (T := m.T) (I := m.I) (J := m.J) (s := m.s) (pc2 := 71) (lv2 := [(5, .long r3), (3, .long r2), (2, .int (m.I 75 (Int32.toNatClampNeg x1))), (0, .ref 67), (1, .int x1)]) (st2 := [.int (m.I 69 (Int32.toNatClampNeg (m.I 75 (Int32.toNatClampNeg x1)))), .int 4, .ref 67]) (I2 := m.I) (J2 := m.J) (fun hT v kk => ?_) ?_
      · refine sh_ia1 (x := m.I 69 (Int32.toNatClampNeg (m.I 75 (Int32.toNatClampNeg x1)))) (pc2 := 71) rfl (sh_s69 hT.st) (sh_okb1 c) (sh_okb2 c) rfl rfl ?_
        exact kk
      obtain ⟨r4, m14, e4, e⟩ := sh_bn_e e
      refine sh_Lk_cV (r := (some (.int (sh_b2 r4)))) (st2 := [.int (sh_b2 r4)]) (pc2 := 74) (k2 := 252) (a := 66) (as := [.ref 67, .int 4, .int (m.I 69 (Int32.toNatClampNeg (m.I 75 (Int32.toNatClampNeg x1))))]) (rest := []) rfl rfl rfl (fun hT => (sh_s66 hT.st)) rfl rfl ⟨Nat.le_of_ble_eq_true rfl, Nat.le_of_ble_eq_true rfl⟩ (sl_252 e4 ⟨rfl, rfl⟩) rfl rfl (show 8 + 1 ≤ d + 1 + 15 by omega) (show 8 + (3 + 11) + (200) ≤ 40 * (d + 1) + 385 by omega) ?_
      obtain rfl := Option.some.inj e
      obtain ⟨rfl, rfl⟩ := tg
      exact sh_Lk_ret (i := .ireturn) rfl rfl (sh_rb rfl _) (by omega) (by omega)
    · refine sh_Lk_lift (T := m.T) (I := m.I) (J := m.J) (s := m.s) (pc2 := 78) (lv2 := [(7, .long r2), (5, .long r3), (3, .long r2), (2, .int (m.I 75 (Int32.toNatClampNeg x1))), (0, .ref 67), (1, .int x1)]) (st2 := []) (I2 := m.I) (J2 := m.J) (fun hT v kk => ?_) ?_
      · refine sh_j0 (c := .le) (off := (15)) (pc2 := 75) true rfl (sh_Clet c) rfl ?_
        refine sh_w (i := (.lload_n 3)) (len := 1) (pc2 := 76) (lv2 := [(5, .long r3), (3, .long r2), (2, .int (m.I 75 (Int32.toNatClampNeg x1))), (0, .ref 67), (1, .int x1)]) (st2 := [.long r2]) (h2 := (sh_rep m.T m.I m.J)) rfl rfl rfl ?_
        refine sh_w (i := (.lstore 7)) (len := 2) (pc2 := 78) (lv2 := [(7, .long r2), (5, .long r3), (3, .long r2), (2, .int (m.I 75 (Int32.toNatClampNeg x1))), (0, .ref 67), (1, .int x1)]) (st2 := []) (h2 := (sh_rep m.T m.I m.J)) rfl rfl rfl ?_
        exact kk
      exact sh_Lk_sub (sh_sub_c rfl (sh_sub_c rfl (sh_sub_c rfl (sh_sub_c rfl (sh_sub_c rfl (sh_sub_n)))))) (sl_321_78 hQ e tg)
  · refine sh_Lk_lift (T := m.T) (I := m.I) (J := m.J) (s := m.s) (pc2 := 22) (lv2 := [(2, .int (m.I 75 (Int32.toNatClampNeg x1))), (0, .ref 67), (1, .int x1)]) (st2 := [.int (m.I 75 (Int32.toNatClampNeg x1)), .ref 70, .int 3, .ref 67]) (I2 := m.I) (J2 := m.J) (fun hT v kk => ?_) ?_
    · refine sh_j0 (c := .lt) (off := (15)) (pc2 := 15) false rfl (sh_Bltf c) rfl ?_
      refine sh_w (i := (.aload_n 0)) (len := 1) (pc2 := 16) (lv2 := [(2, .int (m.I 75 (Int32.toNatClampNeg x1))), (0, .ref 67), (1, .int x1)]) (st2 := [.ref 67]) (h2 := (sh_rep m.T m.I m.J)) rfl rfl rfl ?_
      refine sh_w (i := (.iconst 3)) (len := 1) (pc2 := 17) (lv2 := [(2, .int (m.I 75 (Int32.toNatClampNeg x1))), (0, .ref 67), (1, .int x1)]) (st2 := [.int 3, .ref 67]) (h2 := (sh_rep m.T m.I m.J)) rfl rfl rfl ?_
      refine sh_w (i := (.aload_n 0)) (len := 1) (pc2 := 18) (lv2 := [(2, .int (m.I 75 (Int32.toNatClampNeg x1))), (0, .ref 67), (1, .int x1)]) (st2 := [.ref 67, .int 3, .ref 67]) (h2 := (sh_rep m.T m.I m.J)) rfl rfl rfl ?_
      refine sh_gR1 (len := 3) (x := .ref 70) (pc2 := 21) rfl rfl (sh_s66 hT.st) rfl rfl ?_
      refine sh_w (i := (.iload_n 2)) (len := 1) (pc2 := 22) (lv2 := [(2, .int (m.I 75 (Int32.toNatClampNeg x1))), (0, .ref 67), (1, .int x1)]) (st2 := [.int (m.I 75 (Int32.toNatClampNeg x1)), .ref 70, .int 3, .ref 67]) (h2 := (sh_rep m.T m.I m.J)) rfl rfl rfl ?_
      exact kk
    obtain ⟨c, e⟩ := sh_gd e
    refine sh_Lk_lift (T := m.T) (I := m.I) (J := m.J) (s := m.s) (pc2 := 23) (lv2 := [(2, .int (m.I 75 (Int32.toNatClampNeg x1))), (0, .ref 67), (1, .int x1)]) (st2 := [.int (m.I 69 (Int32.toNatClampNeg (m.I 75 (Int32.toNatClampNeg x1)))), .int 3, .ref 67]) (I2 := m.I) (J2 := m.J) (fun hT v kk => ?_) ?_
    · refine sh_ia1 (x := m.I 69 (Int32.toNatClampNeg (m.I 75 (Int32.toNatClampNeg x1)))) (pc2 := 23) rfl (sh_s69 hT.st) (sh_okb1 c) (sh_okb2 c) rfl rfl ?_
      exact kk
    obtain ⟨r5, m15, e5, e⟩ := sh_bn_e e
    refine sh_Lk_cV (r := (some (.int (sh_b2 r5)))) (st2 := [.int (sh_b2 r5)]) (pc2 := 26) (k2 := 252) (a := 66) (as := [.ref 67, .int 3, .int (m.I 69 (Int32.toNatClampNeg (m.I 75 (Int32.toNatClampNeg x1))))]) (rest := []) rfl rfl rfl (fun hT => (sh_s66 hT.st)) rfl rfl ⟨Nat.le_of_ble_eq_true rfl, Nat.le_of_ble_eq_true rfl⟩ (sl_252 e5 ⟨rfl, rfl⟩) rfl rfl (show 8 + 1 ≤ d + 1 + 15 by omega) (show 8 + (3 + 11) + (200) ≤ 40 * (d + 1) + 385 by omega) ?_
    obtain rfl := Option.some.inj e
    obtain ⟨rfl, rfl⟩ := tg
    exact sh_Lk_ret (i := .ireturn) rfl rfl (sh_rb rfl _) (by omega) (by omega)
theorem sl_322_14 {Q : sh_Q279} {d : Nat} {x1 : Int32} {m m2 : sh_X} {o : Outcome} {z : (Bool × sh_X)} (hQ : sh_QL279 Q d) (e : sf_322_14 Q x1 m = some z) (tg : (sh_tZ o m2) z) : sh_Lk 322 14 [(0, .ref 67), (1, .int x1)] [] m o m2 (d + 1 + 15) (40 * (d + 1) + 385) := by
  unfold sf_322_14 at e
  refine sh_Lk_lift (T := m.T) (I := m.I) (J := m.J) (s := m.s) (pc2 := 25) (lv2 := [(0, .ref 67), (1, .int x1)]) (st2 := [.int x1, .ref 74, .ref 70, .int 4, .ref 67]) (I2 := m.I) (J2 := m.J) (fun hT v kk => ?_) ?_
  · refine sh_w (i := (.aload_n 0)) (len := 1) (pc2 := 15) (lv2 := [(0, .ref 67), (1, .int x1)]) (st2 := [.ref 67]) (h2 := (sh_rep m.T m.I m.J)) rfl rfl rfl ?_
    refine sh_w (i := (.iconst 4)) (len := 1) (pc2 := 16) (lv2 := [(0, .ref 67), (1, .int x1)]) (st2 := [.int 4, .ref 67]) (h2 := (sh_rep m.T m.I m.J)) rfl rfl rfl ?_
    refine sh_w (i := (.aload_n 0)) (len := 1) (pc2 := 17) (lv2 := [(0, .ref 67), (1, .int x1)]) (st2 := [.ref 67, .int 4, .ref 67]) (h2 := (sh_rep m.T m.I m.J)) rfl rfl rfl ?_
    refine sh_gR1 (len := 3) (x := .ref 70) (pc2 := 20) rfl rfl (sh_s66 hT.st) rfl rfl ?_
    refine sh_w (i := (.aload_n 0)) (len := 1) (pc2 := 21) (lv2 := [(0, .ref 67), (1, .int x1)]) (st2 := [.ref 67, .ref 70, .int 4, .ref 67]) (h2 := (sh_rep m.T m.I m.J)) rfl rfl rfl ?_
    refine sh_gR1 (len := 3) (x := .ref 74) (pc2 := 24) rfl rfl (sh_s66 hT.st) rfl rfl ?_
    refine sh_w (i := (.iload_n 1)) (len := 1) (pc2 := 25) (lv2 := [(0, .ref 67), (1, .int x1)]) (st2 := [.int x1, .ref 74, .ref 70, .int 4, .ref 67]) (h2 := (sh_rep m.T m.I m.J)) rfl rfl rfl ?_
    exact kk
  obtain ⟨c, e⟩ := sh_gd e
  refine sh_Lk_lift (T := m.T) (I := m.I) (J := m.J) (s := m.s) (pc2 := 26) (lv2 := [(0, .ref 67), (1, .int x1)]) (st2 := [.int (m.I 73 (Int32.toNatClampNeg x1)), .ref 70, .int 4, .ref 67]) (I2 := m.I) (J2 := m.J) (fun hT v kk => ?_) ?_
  · refine sh_ia1 (x := m.I 73 (Int32.toNatClampNeg x1)) (pc2 := 26) rfl (sh_s73 hT.st) (sh_okb1 c) (sh_okb2 c) rfl rfl ?_
    exact kk
  obtain ⟨c, e⟩ := sh_gd e
  refine sh_Lk_lift (T := m.T) (I := m.I) (J := m.J) (s := m.s) (pc2 := 27) (lv2 := [(0, .ref 67), (1, .int x1)]) (st2 := [.int (m.I 69 (Int32.toNatClampNeg (m.I 73 (Int32.toNatClampNeg x1)))), .int 4, .ref 67]) (I2 := m.I) (J2 := m.J) (fun hT v kk => ?_) ?_
  · refine sh_ia1 (x := m.I 69 (Int32.toNatClampNeg (m.I 73 (Int32.toNatClampNeg x1)))) (pc2 := 27) rfl (sh_s69 hT.st) (sh_okb1 c) (sh_okb2 c) rfl rfl ?_
    exact kk
  obtain ⟨r1, m11, e1, e⟩ := sh_bn_e e
  refine sh_Lk_cV (r := (some (.int (sh_b2 r1)))) (st2 := [.int (sh_b2 r1)]) (pc2 := 30) (k2 := 252) (a := 66) (as := [.ref 67, .int 4, .int (m.I 69 (Int32.toNatClampNeg (m.I 73 (Int32.toNatClampNeg x1))))]) (rest := []) rfl rfl rfl (fun hT => (sh_s66 hT.st)) rfl rfl ⟨Nat.le_of_ble_eq_true rfl, Nat.le_of_ble_eq_true rfl⟩ (sl_252 e1 ⟨rfl, rfl⟩) rfl rfl (show 8 + 1 ≤ d + 1 + 15 by omega) (show 8 + (3 + 11) + (200) ≤ 40 * (d + 1) + 385 by omega) ?_
  obtain rfl := Option.some.inj e
  obtain ⟨rfl, rfl⟩ := tg
  exact sh_Lk_ret (i := .ireturn) rfl rfl (sh_rb rfl _) (by omega) (by omega)
theorem sl_322_167 {Q : sh_Q279} {d : Nat} {x2 : Int32} {y1 : Int32} {y2 : Int64} {m m2 : sh_X} {o : Outcome} {z : ((Int32 × sh_X) ⊕ (Bool × sh_X))} (hQ : sh_QL279 Q d) (e : sf_322_167 Q x2 y1 y2 m = some z) (tg : (sh_el (fun q => sh_Lk 322 95 [(0, .ref 67), (2, .int q.1)] [] q.2 o m2 (d + 1 + 15) (40 * (d + 1) + 385)) (sh_tZ o m2)) z) : sh_Lk 322 167 [(0, .ref 67), (2, .int x2)] [.long y2, .int y1, .ref 105] m o m2 (d + 1 + 15) (40 * (d + 1) + 385) := by
  unfold sf_322_167 at e
  obtain ⟨c, e⟩ := sh_gd e
  refine sh_Lk_lift (T := m.T) (I := m.I) (J := m.J) (s := m.s) (pc2 := 178) (lv2 := [(0, .ref 67), (2, .int x2)]) (st2 := [.int (m.I 66 44), .int (m.I 66 43), .int 2, .ref 67]) (I2 := m.I) (J2 := sh_u2 m.J 104 (Int32.toNatClampNeg y1) y2) (fun hT v kk => ?_) ?_
  · refine sh_ls1 (x := y2) (i := y1) (pc2 := 168) rfl (sh_s104 hT.st) (sh_okb1 c) (sh_okb2 c) rfl ?_
    refine sh_w (i := (.aload_n 0)) (len := 1) (pc2 := 169) (lv2 := [(0, .ref 67), (2, .int x2)]) (st2 := [.ref 67]) (h2 := (sh_rep m.T m.I (sh_u2 m.J 104 (Int32.toNatClampNeg y1) y2))) rfl rfl rfl ?_
    refine sh_w (i := (.iconst 2)) (len := 1) (pc2 := 170) (lv2 := [(0, .ref 67), (2, .int x2)]) (st2 := [.int 2, .ref 67]) (h2 := (sh_rep m.T m.I (sh_u2 m.J 104 (Int32.toNatClampNeg y1) y2))) rfl rfl rfl ?_
    refine sh_w (i := (.aload_n 0)) (len := 1) (pc2 := 171) (lv2 := [(0, .ref 67), (2, .int x2)]) (st2 := [.ref 67, .int 2, .ref 67]) (h2 := (sh_rep m.T m.I (sh_u2 m.J 104 (Int32.toNatClampNeg y1) y2))) rfl rfl rfl ?_
    refine sh_gI1 (len := 3) (x := m.I 66 43) (pc2 := 174) rfl rfl (sh_s66 hT.st) rfl rfl rfl ?_
    refine sh_w (i := (.aload_n 0)) (len := 1) (pc2 := 175) (lv2 := [(0, .ref 67), (2, .int x2)]) (st2 := [.ref 67, .int (m.I 66 43), .int 2, .ref 67]) (h2 := (sh_rep m.T m.I (sh_u2 m.J 104 (Int32.toNatClampNeg y1) y2))) rfl rfl rfl ?_
    refine sh_gI1 (len := 3) (x := m.I 66 44) (pc2 := 178) rfl rfl (sh_s66 hT.st) rfl rfl rfl ?_
    exact kk
  obtain ⟨r1, m11, e1, e⟩ := sh_bn_e e
  refine sh_Lk_cV (r := none) (st2 := []) (pc2 := 181) (k2 := 289) (a := 66) (as := [.ref 67, .int 2, .int (m.I 66 43), .int (m.I 66 44)]) (rest := []) rfl rfl rfl (fun hT => (sh_s66 hT.st)) rfl rfl ⟨Nat.le_of_ble_eq_true rfl, Nat.le_of_ble_eq_true rfl⟩ (sl_289 e1 ⟨rfl, rfl⟩) rfl rfl (show 8 + 1 ≤ d + 1 + 15 by omega) (show 8 + (4 + 11) + (200) ≤ 40 * (d + 1) + 385 by omega) ?_
  refine sh_Lk_lift (T := m11.T) (I := m11.I) (J := m11.J) (s := m11.s) (pc2 := 95) (lv2 := [(2, .int (x2 + 1)), (0, .ref 67)]) (st2 := []) (I2 := m11.I) (J2 := m11.J) (fun hT v kk => ?_) ?_
  · refine sh_w (i := (.iinc 2 1)) (len := 3) (pc2 := 184) (lv2 := [(2, .int (x2 + 1)), (0, .ref 67)]) (st2 := []) (h2 := (sh_rep m11.T m11.I m11.J)) rfl rfl rfl ?_
    refine sh_w (i := (.goto (-89))) (len := 3) (pc2 := 95) (lv2 := [(2, .int (x2 + 1)), (0, .ref 67)]) (st2 := []) (h2 := (sh_rep m11.T m11.I m11.J)) rfl rfl rfl ?_
    exact kk
  obtain rfl := Option.some.inj e
  exact sh_Lk_sub (sh_sub_c rfl (sh_sub_c rfl (sh_sub_n))) tg
theorem sl_322_133 {Q : sh_Q279} {d : Nat} {x2 : Int32} {y0 : Int64} {m m2 : sh_X} {o : Outcome} {z : ((Int32 × sh_X) ⊕ (Bool × sh_X))} (hQ : sh_QL279 Q d) (e : sf_322_133 Q x2 y0 m = some z) (tg : (sh_el (fun q => sh_Lk 322 95 [(0, .ref 67), (2, .int q.1)] [] q.2 o m2 (d + 1 + 15) (40 * (d + 1) + 385)) (sh_tZ o m2)) z) : sh_Lk 322 133 [(0, .ref 67), (2, .int x2)] [.long y0] m o m2 (d + 1 + 15) (40 * (d + 1) + 385) := by
  unfold sf_322_133 at e
  refine sh_Lk_lift (T := m.T) (I := m.I) (J := m.J) (s := m.s) (pc2 := 150) (lv2 := [(3, .long y0), (0, .ref 67), (2, .int x2)]) (st2 := [.int 64, .int (m.I 66 44), .int (m.I 99 2), .ref 105]) (I2 := m.I) (J2 := m.J) (fun hT v kk => ?_) ?_
  · refine sh_w (i := (.lstore_n 3)) (len := 1) (pc2 := 134) (lv2 := [(3, .long y0), (0, .ref 67), (2, .int x2)]) (st2 := []) (h2 := (sh_rep m.T m.I m.J)) rfl rfl rfl ?_
    refine sh_w (i := (.aload_n 0)) (len := 1) (pc2 := 135) (lv2 := [(3, .long y0), (0, .ref 67), (2, .int x2)]) (st2 := [.ref 67]) (h2 := (sh_rep m.T m.I m.J)) rfl rfl rfl ?_
    refine sh_gR1 (len := 3) (x := .ref 105) (pc2 := 138) rfl rfl (sh_s66 hT.st) rfl rfl ?_
    refine sh_w (i := (.aload_n 0)) (len := 1) (pc2 := 139) (lv2 := [(3, .long y0), (0, .ref 67), (2, .int x2)]) (st2 := [.ref 67, .ref 105]) (h2 := (sh_rep m.T m.I m.J)) rfl rfl rfl ?_
    refine sh_gR1 (len := 3) (x := .ref 100) (pc2 := 142) rfl rfl (sh_s66 hT.st) rfl rfl ?_
    refine sh_w (i := (.iconst 2)) (len := 1) (pc2 := 143) (lv2 := [(3, .long y0), (0, .ref 67), (2, .int x2)]) (st2 := [.int 2, .ref 100, .ref 105]) (h2 := (sh_rep m.T m.I m.J)) rfl rfl rfl ?_
    refine sh_ia1 (x := m.I 99 2) (pc2 := 144) rfl (sh_s99 hT.st) (by decide) (by decide) rfl rfl ?_
    refine sh_w (i := (.aload_n 0)) (len := 1) (pc2 := 145) (lv2 := [(3, .long y0), (0, .ref 67), (2, .int x2)]) (st2 := [.ref 67, .int (m.I 99 2), .ref 105]) (h2 := (sh_rep m.T m.I m.J)) rfl rfl rfl ?_
    refine sh_gI1 (len := 3) (x := m.I 66 44) (pc2 := 148) rfl rfl (sh_s66 hT.st) rfl rfl rfl ?_
    refine sh_w (i := (.bipush 64)) (len := 2) (pc2 := 150) (lv2 := [(3, .long y0), (0, .ref 67), (2, .int x2)]) (st2 := [.int 64, .int (m.I 66 44), .int (m.I 99 2), .ref 105]) (h2 := (sh_rep m.T m.I m.J)) rfl rfl rfl ?_
    exact kk
  rcases sh_ite e with ⟨c, e⟩ | ⟨c, e⟩
  · refine sh_Lk_lift (T := m.T) (I := m.I) (J := m.J) (s := m.s) (pc2 := 167) (lv2 := [(3, .long y0), (0, .ref 67), (2, .int x2)]) (st2 := [.long y0, .int (m.I 99 2), .ref 105]) (I2 := m.I) (J2 := m.J) (fun hT v kk => ?_) ?_
    · refine sh_jc (c := .ne) (off := (7)) (pc2 := 153) false rfl (sh_Bnef c) rfl ?_
      refine sh_w (i := (.lload_n 3)) (len := 1) (pc2 := 154) (lv2 := [(3, .long y0), (0, .ref 67), (2, .int x2)]) (st2 := [.long y0, .int (m.I 99 2), .ref 105]) (h2 := (sh_rep m.T m.I m.J)) rfl rfl rfl ?_
      refine sh_w (i := (.goto 13)) (len := 3) (pc2 := 167) (lv2 := [(3, .long y0), (0, .ref 67), (2, .int x2)]) (st2 := [.long y0, .int (m.I 99 2), .ref 105]) (h2 := (sh_rep m.T m.I m.J)) rfl rfl rfl ?_
      exact kk
    exact sh_Lk_sub (sh_sub_c rfl (sh_sub_c rfl (sh_sub_n))) (sl_322_167 hQ e tg)
  · refine sh_Lk_lift (T := m.T) (I := m.I) (J := m.J) (s := m.s) (pc2 := 167) (lv2 := [(3, .long y0), (0, .ref 67), (2, .int x2)]) (st2 := [.long (y0 &&& (((1 : Int64) <<< (Int32.toInt64 (m.I 66 44) &&& 63)) - (1 : Int64))), .int (m.I 99 2), .ref 105]) (I2 := m.I) (J2 := m.J) (fun hT v kk => ?_) ?_
    · refine sh_jc (c := .ne) (off := (7)) (pc2 := 157) true rfl (sh_Bnet c) rfl ?_
      refine sh_w (i := (.lload_n 3)) (len := 1) (pc2 := 158) (lv2 := [(3, .long y0), (0, .ref 67), (2, .int x2)]) (st2 := [.long y0, .int (m.I 99 2), .ref 105]) (h2 := (sh_rep m.T m.I m.J)) rfl rfl rfl ?_
      refine sh_w (i := (.lconst 1)) (len := 1) (pc2 := 159) (lv2 := [(3, .long y0), (0, .ref 67), (2, .int x2)]) (st2 := [.long 1, .long y0, .int (m.I 99 2), .ref 105]) (h2 := (sh_rep m.T m.I m.J)) rfl rfl rfl ?_
      refine sh_w (i := (.aload_n 0)) (len := 1) (pc2 := 160) (lv2 := [(3, .long y0), (0, .ref 67), (2, .int x2)]) (st2 := [.ref 67, .long 1, .long y0, .int (m.I 99 2), .ref 105]) (h2 := (sh_rep m.T m.I m.J)) rfl rfl rfl ?_
      refine sh_gI1 (len := 3) (x := m.I 66 44) (pc2 := 163) rfl rfl (sh_s66 hT.st) rfl rfl rfl ?_
      refine sh_w (i := .lshl) (len := 1) (pc2 := 164) (lv2 := [(3, .long y0), (0, .ref 67), (2, .int x2)]) (st2 := [.long ((1 : Int64) <<< (Int32.toInt64 (m.I 66 44) &&& 63)), .long y0, .int (m.I 99 2), .ref 105]) (h2 := (sh_rep m.T m.I m.J)) rfl rfl rfl ?_
      refine sh_w (i := (.lconst 1)) (len := 1) (pc2 := 165) (lv2 := [(3, .long y0), (0, .ref 67), (2, .int x2)]) (st2 := [.long 1, .long ((1 : Int64) <<< (Int32.toInt64 (m.I 66 44) &&& 63)), .long y0, .int (m.I 99 2), .ref 105]) (h2 := (sh_rep m.T m.I m.J)) rfl rfl rfl ?_
      refine sh_w (i := .lsub) (len := 1) (pc2 := 166) (lv2 := [(3, .long y0), (0, .ref 67), (2, .int x2)]) (st2 := [.long (((1 : Int64) <<< (Int32.toInt64 (m.I 66 44) &&& 63)) - (1 : Int64)), .long y0, .int (m.I 99 2), .ref 105]) (h2 := (sh_rep m.T m.I m.J)) rfl rfl rfl ?_
      refine sh_w (i := .land) (len := 1) (pc2 := 167) (lv2 := [(3, .long y0), (0, .ref 67), (2, .int x2)]) (st2 := [.long (y0 &&& (((1 : Int64) <<< (Int32.toInt64 (m.I 66 44) &&& 63)) - (1 : Int64))), .int (m.I 99 2), .ref 105]) (h2 := (sh_rep m.T m.I m.J)) rfl rfl rfl ?_
      exact kk
    exact sh_Lk_sub (sh_sub_c rfl (sh_sub_c rfl (sh_sub_n))) (sl_322_167 hQ e tg)
theorem sl_322_107 {Q : sh_Q279} {d : Nat} {x2 : Int32} {m m2 : sh_X} {o : Outcome} {z : ((Int32 × sh_X) ⊕ (Bool × sh_X))} (hQ : sh_QL279 Q d) (e : sf_322_107 Q x2 m = some z) (tg : (sh_el (fun q => sh_Lk 322 95 [(0, .ref 67), (2, .int q.1)] [] q.2 o m2 (d + 1 + 15) (40 * (d + 1) + 385)) (sh_tZ o m2)) z) : sh_Lk 322 107 [(0, .ref 67), (2, .int x2)] [] m o m2 (d + 1 + 15) (40 * (d + 1) + 385) := by
  unfold sf_322_107 at e
  refine sh_Lk_lift (T := m.T) (I := m.I) (J := m.J) (s := m.s) (pc2 := 111) (lv2 := [(0, .ref 67), (2, .int x2)]) (st2 := [.int (m.I 66 45)]) (I2 := m.I) (J2 := m.J) (fun hT v kk => ?_) ?_
  · refine sh_w (i := (.aload_n 0)) (len := 1) (pc2 := 108) (lv2 := [(0, .ref 67), (2, .int x2)]) (st2 := [.ref 67]) (h2 := (sh_rep m.T m.I m.J)) rfl rfl rfl ?_
    refine sh_gI1 (len := 3) (x := m.I 66 45) (pc2 := 111) rfl rfl (sh_s66 hT.st) rfl rfl rfl ?_
    exact kk
  rcases sh_ite e with ⟨c, e⟩ | ⟨c, e⟩
  · refine sh_Lk_lift (T := m.T) (I := m.I) (J := m.J) (s := m.s) (pc2 := 133) (lv2 := [(0, .ref 67), (2, .int x2)]) (st2 := [.long (m.J 66 46)]) (I2 := m.I) (J2 := m.J) (fun hT v kk => ?_) ?_
    · refine sh_j0 (c := .ne) (off := (10)) (pc2 := 114) false rfl (sh_Bnef c) rfl ?_
      refine sh_w (i := (.aload_n 0)) (len := 1) (pc2 := 115) (lv2 := [(0, .ref 67), (2, .int x2)]) (st2 := [.ref 67]) (h2 := (sh_rep m.T m.I m.J)) rfl rfl rfl ?_
      refine sh_gJ1 (len := 3) (x := m.J 66 46) (pc2 := 118) rfl rfl (sh_s66 hT.st) rfl rfl rfl ?_
      refine sh_w (i := (.goto 15)) (len := 3) (pc2 := 133) (lv2 := [(0, .ref 67), (2, .int x2)]) (st2 := [.long (m.J 66 46)]) (h2 := (sh_rep m.T m.I m.J)) rfl rfl rfl ?_
      exact kk
    exact sh_Lk_sub (sh_sub_c rfl (sh_sub_c rfl (sh_sub_n))) (sl_322_133 hQ e tg)
  · refine sh_Lk_lift (T := m.T) (I := m.I) (J := m.J) (s := m.s) (pc2 := 132) (lv2 := [(0, .ref 67), (2, .int x2)]) (st2 := [.int ((Int64.toInt32 (m.J 66 46)) + x2), .ref 93]) (I2 := m.I) (J2 := m.J) (fun hT v kk => ?_) ?_
    · refine sh_j0 (c := .ne) (off := (10)) (pc2 := 121) true rfl (sh_Bnet c) rfl ?_
      refine sh_w (i := (.aload_n 0)) (len := 1) (pc2 := 122) (lv2 := [(0, .ref 67), (2, .int x2)]) (st2 := [.ref 67]) (h2 := (sh_rep m.T m.I m.J)) rfl rfl rfl ?_
      refine sh_gR1 (len := 3) (x := .ref 93) (pc2 := 125) rfl rfl (sh_s66 hT.st) rfl rfl ?_
      refine sh_w (i := (.aload_n 0)) (len := 1) (pc2 := 126) (lv2 := [(0, .ref 67), (2, .int x2)]) (st2 := [.ref 67, .ref 93]) (h2 := (sh_rep m.T m.I m.J)) rfl rfl rfl ?_
      refine sh_gJ1 (len := 3) (x := m.J 66 46) (pc2 := 129) rfl rfl (sh_s66 hT.st) rfl rfl rfl ?_
      refine sh_w (i := .l2i) (len := 1) (pc2 := 130) (lv2 := [(0, .ref 67), (2, .int x2)]) (st2 := [.int (Int64.toInt32 (m.J 66 46)), .ref 93]) (h2 := (sh_rep m.T m.I m.J)) rfl rfl rfl ?_
      refine sh_w (i := (.iload_n 2)) (len := 1) (pc2 := 131) (lv2 := [(0, .ref 67), (2, .int x2)]) (st2 := [.int x2, .int (Int64.toInt32 (m.J 66 46)), .ref 93]) (h2 := (sh_rep m.T m.I m.J)) rfl rfl rfl ?_
      refine sh_w (i := .iadd) (len := 1) (pc2 := 132) (lv2 := [(0, .ref 67), (2, .int x2)]) (st2 := [.int ((Int64.toInt32 (m.J 66 46)) + x2), .ref 93]) (h2 := (sh_rep m.T m.I m.J)) rfl rfl rfl ?_
      exact kk
    obtain ⟨c, e⟩ := sh_gd e
    refine sh_Lk_lift (T := m.T) (I := m.I) (J := m.J) (s := m.s) (pc2 := 133) (lv2 := [(0, .ref 67), (2, .int x2)]) (st2 := [.long (m.J 92 (Int32.toNatClampNeg ((Int64.toInt32 (m.J 66 46)) + x2)))]) (I2 := m.I) (J2 := m.J) (fun hT v kk => ?_) ?_
    · refine sh_la1 (x := m.J 92 (Int32.toNatClampNeg ((Int64.toInt32 (m.J 66 46)) + x2))) (pc2 := 133) rfl (sh_s92 hT.st) (sh_okb1 c) (sh_okb2 c) rfl rfl ?_
      exact kk
    exact sh_Lk_sub (sh_sub_c rfl (sh_sub_c rfl (sh_sub_n))) (sl_322_133 hQ e tg)
theorem sl_322_95s {Q : sh_Q279} {d : Nat} {x2 : Int32} {m m2 : sh_X} {o : Outcome} {z : ((Int32 × sh_X) ⊕ (Bool × sh_X))} (hQ : sh_QL279 Q d) (e : sf_322_95s Q x2 m = some z) (tg : (sh_el (fun q => sh_Lk 322 95 [(0, .ref 67), (2, .int q.1)] [] q.2 o m2 (d + 1 + 15) (40 * (d + 1) + 385)) (sh_tZ o m2)) z) : sh_Lk 322 95 [(0, .ref 67), (2, .int x2)] [] m o m2 (d + 1 + 15) (40 * (d + 1) + 385) := by
  unfold sf_322_95s at e
  refine sh_Lk_lift (T := m.T) (I := m.I) (J := m.J) (s := m.s) (pc2 := 96) (lv2 := [(0, .ref 67), (2, .int x2)]) (st2 := [.int x2]) (I2 := m.I) (J2 := m.J) (fun hT v kk => ?_) ?_
  · refine sh_w (i := (.iload_n 2)) (len := 1) (pc2 := 96) (lv2 := [(0, .ref 67), (2, .int x2)]) (st2 := [.int x2]) (h2 := (sh_rep m.T m.I m.J)) rfl rfl rfl ?_
    exact kk
  rcases sh_ite e with ⟨c, e⟩ | ⟨c, e⟩
  · refine sh_Lk_lift (T := m.T) (I := m.I) (J := m.J) (s := m.s) (pc2 := 107) (lv2 := [(0, .ref 67), (2, .int x2)]) (st2 := []) (I2 := m.I) (J2 := m.J) (fun hT v kk => ?_) ?_
    · refine sh_j0 (c := .eq) (off := (11)) (pc2 := 107) true rfl (sh_Beqt c) rfl ?_
      exact kk
    exact sh_Lk_sub (sh_sub_c rfl (sh_sub_c rfl (sh_sub_n))) (sl_322_107 hQ e tg)
  · refine sh_Lk_lift (T := m.T) (I := m.I) (J := m.J) (s := m.s) (pc2 := 104) (lv2 := [(0, .ref 67), (2, .int x2)]) (st2 := [.int (m.I 66 45), .int x2]) (I2 := m.I) (J2 := m.J) (fun hT v kk => ?_) ?_
    · refine sh_j0 (c := .eq) (off := (11)) (pc2 := 99) false rfl (sh_Beqf c) rfl ?_
      refine sh_w (i := (.iload_n 2)) (len := 1) (pc2 := 100) (lv2 := [(0, .ref 67), (2, .int x2)]) (st2 := [.int x2]) (h2 := (sh_rep m.T m.I m.J)) rfl rfl rfl ?_
      refine sh_w (i := (.aload_n 0)) (len := 1) (pc2 := 101) (lv2 := [(0, .ref 67), (2, .int x2)]) (st2 := [.ref 67, .int x2]) (h2 := (sh_rep m.T m.I m.J)) rfl rfl rfl ?_
      refine sh_gI1 (len := 3) (x := m.I 66 45) (pc2 := 104) rfl rfl (sh_s66 hT.st) rfl rfl rfl ?_
      exact kk
    rcases sh_ite e with ⟨c, e⟩ | ⟨c, e⟩
    · refine sh_Lk_lift (T := m.T) (I := m.I) (J := m.J) (s := m.s) (pc2 := 107) (lv2 := [(0, .ref 67), (2, .int x2)]) (st2 := []) (I2 := m.I) (J2 := m.J) (fun hT v kk => ?_) ?_
      · refine sh_jc (c := .ge) (off := (83)) (pc2 := 107) false rfl (sh_Bgef c) rfl ?_
        exact kk
      exact sh_Lk_sub (sh_sub_c rfl (sh_sub_c rfl (sh_sub_n))) (sl_322_107 hQ e tg)
    · refine sh_Lk_lift (T := m.T) (I := m.I) (J := m.J) (s := m.s) (pc2 := 188) (lv2 := [(0, .ref 67), (2, .int x2)]) (st2 := [.int 1]) (I2 := m.I) (J2 := m.J) (fun hT v kk => ?_) ?_
      · refine sh_jc (c := .ge) (off := (83)) (pc2 := 187) true rfl (sh_Bget c) rfl ?_
        refine sh_w (i := (.iconst 1)) (len := 1) (pc2 := 188) (lv2 := [(0, .ref 67), (2, .int x2)]) (st2 := [.int 1]) (h2 := (sh_rep m.T m.I m.J)) rfl rfl rfl ?_
        exact kk
      obtain rfl := Option.some.inj e
      obtain ⟨rfl, rfl⟩ := tg
      exact sh_Lk_ret (i := .ireturn) rfl rfl rfl (by omega) (by omega)
theorem sl_322_95 {Q : sh_Q279} {d : Nat} {x2 : Int32} {m m2 : sh_X} {o : Outcome} {z : (Bool × sh_X)} (hQ : sh_QL279 Q d) (e : sf_322_95 Q x2 m = some z) (tg : (sh_tZ o m2) z) : sh_Lk 322 95 [(0, .ref 67), (2, .int x2)] [] m o m2 (d + 1 + 15) (40 * (d + 1) + 385) := by
  unfold sf_322_95 at e
  exact sh_while_lk (P := fun q => sh_Lk 322 95 [(0, .ref 67), (2, .int q.1)] [] q.2 o m2 (d + 1 + 15) (40 * (d + 1) + 385)) (Q := (sh_tZ o m2)) (fun q z e tg => sl_322_95s (x2 := q.1) (m := q.2) hQ e tg) (s := (x2, m)) e tg
theorem sl_322 {Q : sh_Q279} {d : Nat} {x1 : Int32} {m m2 : sh_X} {o : Outcome} {z : (Bool × sh_X)} (hQ : sh_QL279 Q d) (e : sf_322 Q x1 m = some z) (tg : (sh_tZ o m2) z) : sh_Lk 322 0 [(0, .ref 67), (1, .int x1)] [] m o m2 (d + 1 + 15) (40 * (d + 1) + 385) := by
  unfold sf_322 at e
  refine sh_Lk_lift (T := m.T) (I := m.I) (J := m.J) (s := m.s) (pc2 := 4) (lv2 := [(0, .ref 67), (1, .int x1)]) (st2 := [.int (m.I 66 56)]) (I2 := m.I) (J2 := m.J) (fun hT v kk => ?_) ?_
  · refine sh_w (i := (.aload_n 0)) (len := 1) (pc2 := 1) (lv2 := [(0, .ref 67), (1, .int x1)]) (st2 := [.ref 67]) (h2 := (sh_rep m.T m.I m.J)) rfl rfl rfl ?_
    refine sh_gI1 (len := 3) (x := m.I 66 56) (pc2 := 4) rfl rfl (sh_s66 hT.st) rfl rfl rfl ?_
    exact kk
  rcases sh_ite e with ⟨c, e⟩ | ⟨c, e⟩
  · refine sh_Lk_lift (T := m.T) (I := m.I) (J := m.J) (s := m.s) (pc2 := 14) (lv2 := [(0, .ref 67), (1, .int x1)]) (st2 := []) (I2 := m.I) (J2 := m.J) (fun hT v kk => ?_) ?_
    · refine sh_j0 (c := .gt) (off := (10)) (pc2 := 14) true rfl (sh_Bgtt c) rfl ?_
      exact kk
    exact sh_Lk_sub (sh_sub_c rfl (sh_sub_c rfl (sh_sub_n))) (sl_322_14 hQ e tg)
  · refine sh_Lk_lift (T := m.T) (I := m.I) (J := m.J) (s := m.s) (pc2 := 11) (lv2 := [(0, .ref 67), (1, .int x1)]) (st2 := [.int (m.I 66 58)]) (I2 := m.I) (J2 := m.J) (fun hT v kk => ?_) ?_
    · refine sh_j0 (c := .gt) (off := (10)) (pc2 := 7) false rfl (sh_Bgtf c) rfl ?_
      refine sh_w (i := (.aload_n 0)) (len := 1) (pc2 := 8) (lv2 := [(0, .ref 67), (1, .int x1)]) (st2 := [.ref 67]) (h2 := (sh_rep m.T m.I m.J)) rfl rfl rfl ?_
      refine sh_gI1 (len := 3) (x := m.I 66 58) (pc2 := 11) rfl rfl (sh_s66 hT.st) rfl rfl rfl ?_
      exact kk
    rcases sh_ite e with ⟨c, e⟩ | ⟨c, e⟩
    · refine sh_Lk_lift (T := m.T) (I := m.I) (J := m.J) (s := m.s) (pc2 := 14) (lv2 := [(0, .ref 67), (1, .int x1)]) (st2 := []) (I2 := m.I) (J2 := m.J) (fun hT v kk => ?_) ?_
      · refine sh_j0 (c := .le) (off := (20)) (pc2 := 14) false rfl (sh_Blef c) rfl ?_
        exact kk
      exact sh_Lk_sub (sh_sub_c rfl (sh_sub_c rfl (sh_sub_n))) (sl_322_14 hQ e tg)
    · refine sh_Lk_lift (T := m.T) (I := m.I) (J := m.J) (s := m.s) (pc2 := 37) (lv2 := [(0, .ref 67), (1, .int x1)]) (st2 := [.int x1, .ref 75, .ref 67]) (I2 := m.I) (J2 := m.J) (fun hT v kk => ?_) ?_
      · refine sh_j0 (c := .le) (off := (20)) (pc2 := 31) true rfl (sh_Blet c) rfl ?_
        refine sh_w (i := (.aload_n 0)) (len := 1) (pc2 := 32) (lv2 := [(0, .ref 67), (1, .int x1)]) (st2 := [.ref 67]) (h2 := (sh_rep m.T m.I m.J)) rfl rfl rfl ?_
        refine sh_w (i := (.aload_n 0)) (len := 1) (pc2 := 33) (lv2 := [(0, .ref 67), (1, .int x1)]) (st2 := [.ref 67, .ref 67]) (h2 := (sh_rep m.T m.I m.J)) rfl rfl rfl ?_
        refine sh_gR1 (len := 3) (x := .ref 75) (pc2 := 36) rfl rfl (sh_s66 hT.st) rfl rfl ?_
        refine sh_w (i := (.iload_n 1)) (len := 1) (pc2 := 37) (lv2 := [(0, .ref 67), (1, .int x1)]) (st2 := [.int x1, .ref 75, .ref 67]) (h2 := (sh_rep m.T m.I m.J)) rfl rfl rfl ?_
        exact kk
      obtain ⟨c, e⟩ := sh_gd e
      refine sh_Lk_lift (T := m.T) (I := m.I) (J := m.J) (s := m.s) (pc2 := 38) (lv2 := [(0, .ref 67), (1, .int x1)]) (st2 := [.int (m.I 74 (Int32.toNatClampNeg x1)), .ref 67]) (I2 := m.I) (J2 := m.J) (fun hT v kk => ?_) ?_
      · refine sh_ia1 (x := m.I 74 (Int32.toNatClampNeg x1)) (pc2 := 38) rfl (sh_s74 hT.st) (sh_okb1 c) (sh_okb2 c) rfl rfl ?_
        exact kk
      obtain ⟨r1, m11, e1, e⟩ := sh_bn_e e
      refine sh_Lk_cV (r := (some (.int (sh_b2 r1)))) (st2 := [.int (sh_b2 r1)]) (pc2 := 41) (k2 := 294) (a := 66) (as := [.ref 67, .int (m.I 74 (Int32.toNatClampNeg x1))]) (rest := []) rfl rfl rfl (fun hT => (sh_s66 hT.st)) rfl rfl ⟨Nat.le_of_ble_eq_true rfl, Nat.le_of_ble_eq_true rfl⟩ (hQ.f294 e1 ⟨rfl, rfl⟩) rfl rfl (show d + 15 + 1 ≤ d + 1 + 15 by omega) (show 8 + (5 + 11) + (40 * d + 385) ≤ 40 * (d + 1) + 385 by omega) ?_
      rcases sh_ite e with ⟨c, e⟩ | ⟨c, e⟩
      · refine sh_Lk_lift (T := m11.T) (I := m11.I) (J := m11.J) (s := m11.s) (pc2 := 50) (lv2 := [(0, .ref 67), (1, .int x1)]) (st2 := [.int x1, .ref 75, .ref 67]) (I2 := m11.I) (J2 := m11.J) (fun hT v kk => ?_) ?_
        · refine sh_j0 (c := .eq) (off := (16)) (pc2 := 44) false rfl (sh_Zeqf c) rfl ?_
          refine sh_w (i := (.aload_n 0)) (len := 1) (pc2 := 45) (lv2 := [(0, .ref 67), (1, .int x1)]) (st2 := [.ref 67]) (h2 := (sh_rep m11.T m11.I m11.J)) rfl rfl rfl ?_
          refine sh_w (i := (.aload_n 0)) (len := 1) (pc2 := 46) (lv2 := [(0, .ref 67), (1, .int x1)]) (st2 := [.ref 67, .ref 67]) (h2 := (sh_rep m11.T m11.I m11.J)) rfl rfl rfl ?_
          refine sh_gR1 (len := 3) (x := .ref 75) (pc2 := 49) rfl rfl (sh_s66 hT.st) rfl rfl ?_
          refine sh_w (i := (.iload_n 1)) (len := 1) (pc2 := 50) (lv2 := [(0, .ref 67), (1, .int x1)]) (st2 := [.int x1, .ref 75, .ref 67]) (h2 := (sh_rep m11.T m11.I m11.J)) rfl rfl rfl ?_
          exact kk
        obtain ⟨c, e⟩ := sh_gd e
        refine sh_Lk_lift (T := m11.T) (I := m11.I) (J := m11.J) (s := m11.s) (pc2 := 51) (lv2 := [(0, .ref 67), (1, .int x1)]) (st2 := [.int (m11.I 74 (Int32.toNatClampNeg x1)), .ref 67]) (I2 := m11.I) (J2 := m11.J) (fun hT v kk => ?_) ?_
        · refine sh_ia1 (x := m11.I 74 (Int32.toNatClampNeg x1)) (pc2 := 51) rfl (sh_s74 hT.st) (sh_okb1 c) (sh_okb2 c) rfl rfl ?_
          exact kk
        obtain ⟨r2, m12, e2, e⟩ := sh_bn_e e
        refine sh_Lk_cV (r := (some (.int (sh_b2 r2)))) (st2 := [.int (sh_b2 r2)]) (pc2 := 54) (k2 := 298) (a := 66) (as := [.ref 67, .int (m11.I 74 (Int32.toNatClampNeg x1))]) (rest := []) rfl rfl rfl (fun hT => (sh_s66 hT.st)) rfl rfl ⟨Nat.le_of_ble_eq_true rfl, Nat.le_of_ble_eq_true rfl⟩ (sl_298 e2 ⟨rfl, rfl⟩) rfl rfl (show 11 + 1 ≤ d + 1 + 15 by omega) (show 8 + (2 + 11) + (268) ≤ 40 * (d + 1) + 385 by omega) ?_
        rcases sh_ite e with ⟨c, e⟩ | ⟨c, e⟩
        · refine sh_Lk_lift (T := m12.T) (I := m12.I) (J := m12.J) (s := m12.s) (pc2 := 69) (lv2 := [(0, .ref 67), (1, .int x1)]) (st2 := [.int (m12.I 66 45), .int (m12.I 66 44), .int 2, .ref 67]) (I2 := m12.I) (J2 := m12.J) (fun hT v kk => ?_) ?_
          · refine sh_j0 (c := .ne) (off := (5)) (pc2 := 59) true rfl (sh_Znet c) rfl ?_
            refine sh_w (i := (.aload_n 0)) (len := 1) (pc2 := 60) (lv2 := [(0, .ref 67), (1, .int x1)]) (st2 := [.ref 67]) (h2 := (sh_rep m12.T m12.I m12.J)) rfl rfl rfl ?_
            refine sh_w (i := (.iconst 2)) (len := 1) (pc2 := 61) (lv2 := [(0, .ref 67), (1, .int x1)]) (st2 := [.int 2, .ref 67]) (h2 := (sh_rep m12.T m12.I m12.J)) rfl rfl rfl ?_
            refine sh_w (i := (.aload_n 0)) (len := 1) (pc2 := 62) (lv2 := [(0, .ref 67), (1, .int x1)]) (st2 := [.ref 67, .int 2, .ref 67]) (h2 := (sh_rep m12.T m12.I m12.J)) rfl rfl rfl ?_
            refine sh_gI1 (len := 3) (x := m12.I 66 44) (pc2 := 65) rfl rfl (sh_s66 hT.st) rfl rfl rfl ?_
            refine sh_w (i := (.aload_n 0)) (len := 1) (pc2 := 66) (lv2 := [(0, .ref 67), (1, .int x1)]) (st2 := [.ref 67, .int (m12.I 66 44), .int 2, .ref 67]) (h2 := (sh_rep m12.T m12.I m12.J)) rfl rfl rfl ?_
            refine sh_gI1 (len := 3) (x := m12.I 66 45) (pc2 := 69) rfl rfl (sh_s66 hT.st) rfl rfl rfl ?_
            exact kk
          obtain ⟨r3, e3, e⟩ := sh_bc_e e
          refine sh_Lk_cV (r := (some (.int (sh_b2 r3)))) (st2 := [.int (sh_b2 r3)]) (pc2 := 72) (k2 := 287) (a := 66) (as := [.ref 67, .int 2, .int (m12.I 66 44), .int (m12.I 66 45)]) (rest := []) rfl rfl rfl (fun hT => (sh_s66 hT.st)) rfl rfl ⟨Nat.le_of_ble_eq_true rfl, Nat.le_of_ble_eq_true rfl⟩ (sl_287 e3 ⟨rfl, rfl⟩) rfl rfl (show 8 + 1 ≤ d + 1 + 15 by omega) (show 8 + (5 + 11) + (200) ≤ 40 * (d + 1) + 385 by omega) ?_
          rcases sh_ite e with ⟨c, e⟩ | ⟨c, e⟩
          · refine sh_Lk_lift (T := m12.T) (I := m12.I) (J := m12.J) (s := m12.s) (pc2 := 87) (lv2 := [(0, .ref 67), (1, .int x1)]) (st2 := [.int x1, .ref 74, .ref 70, .int 6, .ref 67]) (I2 := m12.I) (J2 := m12.J) (fun hT v kk => ?_) ?_
            · refine sh_j0 (c := .eq) (off := (21)) (pc2 := 75) false rfl (sh_Zeqf c) rfl ?_
              refine sh_w (i := (.aload_n 0)) (len := 1) (pc2 := 76) (lv2 := [(0, .ref 67), (1, .int x1)]) (st2 := [.ref 67]) (h2 := (sh_rep m12.T m12.I m12.J)) rfl rfl rfl ?_
              refine sh_w (i := (.bipush 6)) (len := 2) (pc2 := 78) (lv2 := [(0, .ref 67), (1, .int x1)]) (st2 := [.int 6, .ref 67]) (h2 := (sh_rep m12.T m12.I m12.J)) rfl rfl rfl ?_
              refine sh_w (i := (.aload_n 0)) (len := 1) (pc2 := 79) (lv2 := [(0, .ref 67), (1, .int x1)]) (st2 := [.ref 67, .int 6, .ref 67]) (h2 := (sh_rep m12.T m12.I m12.J)) rfl rfl rfl ?_
              refine sh_gR1 (len := 3) (x := .ref 70) (pc2 := 82) rfl rfl (sh_s66 hT.st) rfl rfl ?_
              refine sh_w (i := (.aload_n 0)) (len := 1) (pc2 := 83) (lv2 := [(0, .ref 67), (1, .int x1)]) (st2 := [.ref 67, .ref 70, .int 6, .ref 67]) (h2 := (sh_rep m12.T m12.I m12.J)) rfl rfl rfl ?_
              refine sh_gR1 (len := 3) (x := .ref 74) (pc2 := 86) rfl rfl (sh_s66 hT.st) rfl rfl ?_
              refine sh_w (i := (.iload_n 1)) (len := 1) (pc2 := 87) (lv2 := [(0, .ref 67), (1, .int x1)]) (st2 := [.int x1, .ref 74, .ref 70, .int 6, .ref 67]) (h2 := (sh_rep m12.T m12.I m12.J)) rfl rfl rfl ?_
              exact kk
            obtain ⟨c, e⟩ := sh_gd e
            refine sh_Lk_lift (T := m12.T) (I := m12.I) (J := m12.J) (s := m12.s) (pc2 := 88) (lv2 := [(0, .ref 67), (1, .int x1)]) (st2 := [.int (m12.I 73 (Int32.toNatClampNeg x1)), .ref 70, .int 6, .ref 67]) (I2 := m12.I) (J2 := m12.J) (fun hT v kk => ?_) ?_
            · refine sh_ia1 (x := m12.I 73 (Int32.toNatClampNeg x1)) (pc2 := 88) rfl (sh_s73 hT.st) (sh_okb1 c) (sh_okb2 c) rfl rfl ?_
              exact kk
            obtain ⟨c, e⟩ := sh_gd e
            refine sh_Lk_lift (T := m12.T) (I := m12.I) (J := m12.J) (s := m12.s) (pc2 := 89) (lv2 := [(0, .ref 67), (1, .int x1)]) (st2 := [.int (m12.I 69 (Int32.toNatClampNeg (m12.I 73 (Int32.toNatClampNeg x1)))), .int 6, .ref 67]) (I2 := m12.I) (J2 := m12.J) (fun hT v kk => ?_) ?_
            · refine sh_ia1 (x := m12.I 69 (Int32.toNatClampNeg (m12.I 73 (Int32.toNatClampNeg x1)))) (pc2 := 89) rfl (sh_s69 hT.st) (sh_okb1 c) (sh_okb2 c) rfl rfl ?_
              exact kk
            obtain ⟨r4, m14, e4, e⟩ := sh_bn_e e
            refine sh_Lk_cV (r := (some (.int (sh_b2 r4)))) (st2 := [.int (sh_b2 r4)]) (pc2 := 92) (k2 := 252) (a := 66) (as := [.ref 67, .int 6, .int (m12.I 69 (Int32.toNatClampNeg (m12.I 73 (Int32.toNatClampNeg x1))))]) (rest := []) rfl rfl rfl (fun hT => (sh_s66 hT.st)) rfl rfl ⟨Nat.le_of_ble_eq_true rfl, Nat.le_of_ble_eq_true rfl⟩ (sl_252 e4 ⟨rfl, rfl⟩) rfl rfl (show 8 + 1 ≤ d + 1 + 15 by omega) (show 8 + (3 + 11) + (200) ≤ 40 * (d + 1) + 385 by omega) ?_
            obtain rfl := Option.some.inj e
            obtain ⟨rfl, rfl⟩ := tg
            exact sh_Lk_ret (i := .ireturn) rfl rfl (sh_rb rfl _) (by omega) (by omega)
          · refine sh_Lk_lift (T := m12.T) (I := m12.I) (J := m12.J) (s := m12.s) (pc2 := 95) (lv2 := [(2, .int 0), (0, .ref 67), (1, .int x1)]) (st2 := []) (I2 := m12.I) (J2 := m12.J) (fun hT v kk => ?_) ?_
            · refine sh_j0 (c := .eq) (off := (21)) (pc2 := 93) true rfl (sh_Zeqt c) rfl ?_
              refine sh_w (i := (.iconst 0)) (len := 1) (pc2 := 94) (lv2 := [(0, .ref 67), (1, .int x1)]) (st2 := [.int 0]) (h2 := (sh_rep m12.T m12.I m12.J)) rfl rfl rfl ?_
              refine sh_w (i := (.istore_n 2)) (len := 1) (pc2 := 95) (lv2 := [(2, .int 0), (0, .ref 67), (1, .int x1)]) (st2 := []) (h2 := (sh_rep m12.T m12.I m12.J)) rfl rfl rfl ?_
              exact kk
            exact sh_Lk_sub (sh_sub_c rfl (sh_sub_c rfl (sh_sub_n))) (sl_322_95 hQ e tg)
        · refine sh_Lk_lift (T := m12.T) (I := m12.I) (J := m12.J) (s := m12.s) (pc2 := 58) (lv2 := [(0, .ref 67), (1, .int x1)]) (st2 := [.int 0]) (I2 := m12.I) (J2 := m12.J) (fun hT v kk => ?_) ?_
          · refine sh_j0 (c := .ne) (off := (5)) (pc2 := 57) false rfl (sh_Znef c) rfl ?_
            refine sh_w (i := (.iconst 0)) (len := 1) (pc2 := 58) (lv2 := [(0, .ref 67), (1, .int x1)]) (st2 := [.int 0]) (h2 := (sh_rep m12.T m12.I m12.J)) rfl rfl rfl ?_
            exact kk
          obtain rfl := Option.some.inj e
          obtain ⟨rfl, rfl⟩ := tg
          exact sh_Lk_ret (i := .ireturn) rfl rfl rfl (by omega) (by omega)
      · refine sh_Lk_lift (T := m11.T) (I := m11.I) (J := m11.J) (s := m11.s) (pc2 := 58) (lv2 := [(0, .ref 67), (1, .int x1)]) (st2 := [.int 0]) (I2 := m11.I) (J2 := m11.J) (fun hT v kk => ?_) ?_
        · refine sh_j0 (c := .eq) (off := (16)) (pc2 := 57) true rfl (sh_Zeqt c) rfl ?_
          refine sh_w (i := (.iconst 0)) (len := 1) (pc2 := 58) (lv2 := [(0, .ref 67), (1, .int x1)]) (st2 := [.int 0]) (h2 := (sh_rep m11.T m11.I m11.J)) rfl rfl rfl ?_
          exact kk
        obtain rfl := Option.some.inj e
        obtain ⟨rfl, rfl⟩ := tg
        exact sh_Lk_ret (i := .ireturn) rfl rfl rfl (by omega) (by omega)
theorem sq_279_l : ∀ d, sh_QL279 (sq_279 d) d
  | 0 => ⟨(fun h _ => by cases h), (fun h _ => by cases h), (fun h _ => by cases h), (fun h _ => by cases h), (fun h _ => by cases h), (fun h _ => by cases h), (fun h _ => by cases h), (fun h _ => by cases h), (fun h _ => by cases h), (fun h _ => by cases h)⟩
  | d + 1 => ⟨(fun h t => sl_290 (sq_279_l d) h t), (fun h t => sl_291 (sq_279_l d) h t), (fun h t => sl_293 (sq_279_l d) h t), (fun h t => sl_294 (sq_279_l d) h t), (fun h t => sl_313 (sq_279_l d) h t), (fun h t => sl_315 (sq_279_l d) h t), (fun h t => sl_319 (sq_279_l d) h t), (fun h t => sl_320 (sq_279_l d) h t), (fun h t => sl_321 (sq_279_l d) h t), (fun h t => sl_322 (sq_279_l d) h t)⟩
theorem sl_282_87s {x1 : Int32} {m m2 : sh_X} {o : Outcome} {z : ((Int32 × sh_X) ⊕ (Bool × sh_X))} (e : sf_282_87s x1 m = some z) (tg : (sh_el (fun q => sh_Lk 282 87 [(0, .ref 67), (1, .int q.1)] [] q.2 o m2 1016 40407) (sh_tZ o m2)) z) : sh_Lk 282 87 [(0, .ref 67), (1, .int x1)] [] m o m2 1016 40407 := by
  unfold sf_282_87s at e
  refine sh_Lk_lift (T := m.T) (I := m.I) (J := m.J) (s := m.s) (pc2 := 92) (lv2 := [(0, .ref 67), (1, .int x1)]) (st2 := [.int (m.I 66 36), .int x1]) (I2 := m.I) (J2 := m.J) (fun hT v kk => ?_) ?_
  · refine sh_w (i := (.iload_n 1)) (len := 1) (pc2 := 88) (lv2 := [(0, .ref 67), (1, .int x1)]) (st2 := [.int x1]) (h2 := (sh_rep m.T m.I m.J)) rfl rfl rfl ?_
    refine sh_w (i := (.aload_n 0)) (len := 1) (pc2 := 89) (lv2 := [(0, .ref 67), (1, .int x1)]) (st2 := [.ref 67, .int x1]) (h2 := (sh_rep m.T m.I m.J)) rfl rfl rfl ?_
    refine sh_gI1 (len := 3) (x := m.I 66 36) (pc2 := 92) rfl rfl (sh_s66 hT.st) rfl rfl rfl ?_
    exact kk
  rcases sh_ite e with ⟨c, e⟩ | ⟨c, e⟩
  · refine sh_Lk_lift (T := m.T) (I := m.I) (J := m.J) (s := m.s) (pc2 := 97) (lv2 := [(0, .ref 67), (1, .int x1)]) (st2 := [.int x1, .ref 67]) (I2 := m.I) (J2 := m.J) (fun hT v kk => ?_) ?_
    · refine sh_jc (c := .ge) (off := (19)) (pc2 := 95) false rfl (sh_Bgef c) rfl ?_
      refine sh_w (i := (.aload_n 0)) (len := 1) (pc2 := 96) (lv2 := [(0, .ref 67), (1, .int x1)]) (st2 := [.ref 67]) (h2 := (sh_rep m.T m.I m.J)) rfl rfl rfl ?_
      refine sh_w (i := (.iload_n 1)) (len := 1) (pc2 := 97) (lv2 := [(0, .ref 67), (1, .int x1)]) (st2 := [.int x1, .ref 67]) (h2 := (sh_rep m.T m.I m.J)) rfl rfl rfl ?_
      exact kk
    obtain ⟨r1, m11, e1, e⟩ := sh_bn_e e
    refine sh_Lk_cV (r := (some (.int (sh_b2 r1)))) (st2 := [.int (sh_b2 r1)]) (pc2 := 100) (k2 := 283) (a := 66) (as := [.ref 67, .int x1]) (rest := []) rfl rfl rfl (fun hT => (sh_s66 hT.st)) rfl rfl ⟨Nat.le_of_ble_eq_true rfl, Nat.le_of_ble_eq_true rfl⟩ (sl_283 e1 ⟨rfl, rfl⟩) rfl rfl (Nat.le_of_ble_eq_true rfl) (Nat.le_of_ble_eq_true rfl) ?_
    rcases sh_ite e with ⟨c, e⟩ | ⟨c, e⟩
    · refine sh_Lk_lift (T := m11.T) (I := m11.I) (J := m11.J) (s := m11.s) (pc2 := 87) (lv2 := [(1, .int (x1 + 1)), (0, .ref 67)]) (st2 := []) (I2 := m11.I) (J2 := m11.J) (fun hT v kk => ?_) ?_
      · refine sh_j0 (c := .ne) (off := (5)) (pc2 := 105) true rfl (sh_Znet c) rfl ?_
        refine sh_w (i := (.iinc 1 1)) (len := 3) (pc2 := 108) (lv2 := [(1, .int (x1 + 1)), (0, .ref 67)]) (st2 := []) (h2 := (sh_rep m11.T m11.I m11.J)) rfl rfl rfl ?_
        refine sh_w (i := (.goto (-21))) (len := 3) (pc2 := 87) (lv2 := [(1, .int (x1 + 1)), (0, .ref 67)]) (st2 := []) (h2 := (sh_rep m11.T m11.I m11.J)) rfl rfl rfl ?_
        exact kk
      obtain rfl := Option.some.inj e
      exact sh_Lk_sub (sh_sub_c rfl (sh_sub_c rfl (sh_sub_n))) tg
    · refine sh_Lk_lift (T := m11.T) (I := m11.I) (J := m11.J) (s := m11.s) (pc2 := 104) (lv2 := [(0, .ref 67), (1, .int x1)]) (st2 := [.int 0]) (I2 := m11.I) (J2 := m11.J) (fun hT v kk => ?_) ?_
      · refine sh_j0 (c := .ne) (off := (5)) (pc2 := 103) false rfl (sh_Znef c) rfl ?_
        refine sh_w (i := (.iconst 0)) (len := 1) (pc2 := 104) (lv2 := [(0, .ref 67), (1, .int x1)]) (st2 := [.int 0]) (h2 := (sh_rep m11.T m11.I m11.J)) rfl rfl rfl ?_
        exact kk
      obtain rfl := Option.some.inj e
      obtain ⟨rfl, rfl⟩ := tg
      exact sh_Lk_ret (i := .ireturn) rfl rfl rfl (Nat.le_of_ble_eq_true rfl) (Nat.le_of_ble_eq_true rfl)
  · refine sh_Lk_lift (T := m.T) (I := m.I) (J := m.J) (s := m.s) (pc2 := 116) (lv2 := [(0, .ref 67), (1, .int x1)]) (st2 := [.int (m.I 66 37), .ref 67]) (I2 := m.I) (J2 := m.J) (fun hT v kk => ?_) ?_
    · refine sh_jc (c := .ge) (off := (19)) (pc2 := 111) true rfl (sh_Bget c) rfl ?_
      refine sh_w (i := (.aload_n 0)) (len := 1) (pc2 := 112) (lv2 := [(0, .ref 67), (1, .int x1)]) (st2 := [.ref 67]) (h2 := (sh_rep m.T m.I m.J)) rfl rfl rfl ?_
      refine sh_w (i := (.aload_n 0)) (len := 1) (pc2 := 113) (lv2 := [(0, .ref 67), (1, .int x1)]) (st2 := [.ref 67, .ref 67]) (h2 := (sh_rep m.T m.I m.J)) rfl rfl rfl ?_
      refine sh_gI1 (len := 3) (x := m.I 66 37) (pc2 := 116) rfl rfl (sh_s66 hT.st) rfl rfl rfl ?_
      exact kk
    obtain ⟨r2, m12, e2, e⟩ := sh_bn_e e
    refine sh_Lk_cV (r := (some (.int (sh_b2 r2)))) (st2 := [.int (sh_b2 r2)]) (pc2 := 119) (k2 := 290) (a := 66) (as := [.ref 67, .int (m.I 66 37)]) (rest := []) rfl rfl rfl (fun hT => (sh_s66 hT.st)) rfl rfl ⟨Nat.le_of_ble_eq_true rfl, Nat.le_of_ble_eq_true rfl⟩ ((sq_279_l sh_dp).f290 e2 ⟨rfl, rfl⟩) rfl rfl (Nat.le_of_ble_eq_true rfl) (Nat.le_of_ble_eq_true rfl) ?_
    obtain rfl := Option.some.inj e
    obtain ⟨rfl, rfl⟩ := tg
    exact sh_Lk_ret (i := .ireturn) rfl rfl (sh_rb rfl _) (Nat.le_of_ble_eq_true rfl) (Nat.le_of_ble_eq_true rfl)
theorem sl_282_87 {x1 : Int32} {m m2 : sh_X} {o : Outcome} {z : (Bool × sh_X)} (e : sf_282_87 x1 m = some z) (tg : (sh_tZ o m2) z) : sh_Lk 282 87 [(0, .ref 67), (1, .int x1)] [] m o m2 1016 40407 := by
  unfold sf_282_87 at e
  exact sh_while_lk (P := fun q => sh_Lk 282 87 [(0, .ref 67), (1, .int q.1)] [] q.2 o m2 1016 40407) (Q := (sh_tZ o m2)) (fun q z e tg => sl_282_87s (x1 := q.1) (m := q.2) e tg) (s := (x1, m)) e tg
theorem sl_282_60s {x1 : Int32} {m m2 : sh_X} {o : Outcome} {z : ((Int32 × sh_X) ⊕ (Bool × sh_X))} (e : sf_282_60s x1 m = some z) (tg : (sh_el (fun q => sh_Lk 282 60 [(0, .ref 67), (1, .int q.1)] [] q.2 o m2 1016 40407) (sh_tZ o m2)) z) : sh_Lk 282 60 [(0, .ref 67), (1, .int x1)] [] m o m2 1016 40407 := by
  unfold sf_282_60s at e
  refine sh_Lk_lift (T := m.T) (I := m.I) (J := m.J) (s := m.s) (pc2 := 62) (lv2 := [(0, .ref 67), (1, .int x1)]) (st2 := [.int 3, .int x1]) (I2 := m.I) (J2 := m.J) (fun hT v kk => ?_) ?_
  · refine sh_w (i := (.iload_n 1)) (len := 1) (pc2 := 61) (lv2 := [(0, .ref 67), (1, .int x1)]) (st2 := [.int x1]) (h2 := (sh_rep m.T m.I m.J)) rfl rfl rfl ?_
    refine sh_w (i := (.iconst 3)) (len := 1) (pc2 := 62) (lv2 := [(0, .ref 67), (1, .int x1)]) (st2 := [.int 3, .int x1]) (h2 := (sh_rep m.T m.I m.J)) rfl rfl rfl ?_
    exact kk
  rcases sh_ite e with ⟨c, e⟩ | ⟨c, e⟩
  · refine sh_Lk_lift (T := m.T) (I := m.I) (J := m.J) (s := m.s) (pc2 := 71) (lv2 := [(0, .ref 67), (1, .int x1)]) (st2 := [.int 0, .int x1, .ref 100]) (I2 := m.I) (J2 := m.J) (fun hT v kk => ?_) ?_
    · refine sh_jc (c := .ge) (off := (23)) (pc2 := 65) false rfl (sh_Bgef c) rfl ?_
      refine sh_w (i := (.aload_n 0)) (len := 1) (pc2 := 66) (lv2 := [(0, .ref 67), (1, .int x1)]) (st2 := [.ref 67]) (h2 := (sh_rep m.T m.I m.J)) rfl rfl rfl ?_
      refine sh_gR1 (len := 3) (x := .ref 100) (pc2 := 69) rfl rfl (sh_s66 hT.st) rfl rfl ?_
      refine sh_w (i := (.iload_n 1)) (len := 1) (pc2 := 70) (lv2 := [(0, .ref 67), (1, .int x1)]) (st2 := [.int x1, .ref 100]) (h2 := (sh_rep m.T m.I m.J)) rfl rfl rfl ?_
      refine sh_w (i := (.iconst 0)) (len := 1) (pc2 := 71) (lv2 := [(0, .ref 67), (1, .int x1)]) (st2 := [.int 0, .int x1, .ref 100]) (h2 := (sh_rep m.T m.I m.J)) rfl rfl rfl ?_
      exact kk
    obtain ⟨c, e⟩ := sh_gd e
    refine sh_Lk_lift (T := m.T) (I := m.I) (J := m.J) (s := m.s) (pc2 := 78) (lv2 := [(0, .ref 67), (1, .int x1)]) (st2 := [.int 0, .int x1, .ref 103]) (I2 := sh_u2 m.I 99 (Int32.toNatClampNeg x1) 0) (J2 := m.J) (fun hT v kk => ?_) ?_
    · refine sh_is1 (x := 0) (i := x1) (pc2 := 72) rfl (sh_s99 hT.st) (sh_okb1 c) (sh_okb2 c) rfl ?_
      refine sh_w (i := (.aload_n 0)) (len := 1) (pc2 := 73) (lv2 := [(0, .ref 67), (1, .int x1)]) (st2 := [.ref 67]) (h2 := (sh_rep m.T (sh_u2 m.I 99 (Int32.toNatClampNeg x1) 0) m.J)) rfl rfl rfl ?_
      refine sh_gR1 (len := 3) (x := .ref 103) (pc2 := 76) rfl rfl (sh_s66 hT.st) rfl rfl ?_
      refine sh_w (i := (.iload_n 1)) (len := 1) (pc2 := 77) (lv2 := [(0, .ref 67), (1, .int x1)]) (st2 := [.int x1, .ref 103]) (h2 := (sh_rep m.T (sh_u2 m.I 99 (Int32.toNatClampNeg x1) 0) m.J)) rfl rfl rfl ?_
      refine sh_w (i := (.iconst 0)) (len := 1) (pc2 := 78) (lv2 := [(0, .ref 67), (1, .int x1)]) (st2 := [.int 0, .int x1, .ref 103]) (h2 := (sh_rep m.T (sh_u2 m.I 99 (Int32.toNatClampNeg x1) 0) m.J)) rfl rfl rfl ?_
      exact kk
    obtain ⟨c, e⟩ := sh_gd e
    refine sh_Lk_lift (T := m.T) (I := sh_u2 m.I 99 (Int32.toNatClampNeg x1) 0) (J := m.J) (s := m.s) (pc2 := 60) (lv2 := [(1, .int (x1 + 1)), (0, .ref 67)]) (st2 := []) (I2 := sh_u2 (sh_u2 m.I 99 (Int32.toNatClampNeg x1) 0) 102 (Int32.toNatClampNeg x1) 0) (J2 := m.J) (fun hT v kk => ?_) ?_
    · refine sh_is1 (x := 0) (i := x1) (pc2 := 79) rfl (sh_s102 hT.st) (sh_okb1 c) (sh_okb2 c) rfl ?_
      refine sh_w (i := (.iinc 1 1)) (len := 3) (pc2 := 82) (lv2 := [(1, .int (x1 + 1)), (0, .ref 67)]) (st2 := []) (h2 := (sh_rep m.T (sh_u2 (sh_u2 m.I 99 (Int32.toNatClampNeg x1) 0) 102 (Int32.toNatClampNeg x1) 0) m.J)) rfl rfl rfl ?_
      refine sh_w (i := (.goto (-22))) (len := 3) (pc2 := 60) (lv2 := [(1, .int (x1 + 1)), (0, .ref 67)]) (st2 := []) (h2 := (sh_rep m.T (sh_u2 (sh_u2 m.I 99 (Int32.toNatClampNeg x1) 0) 102 (Int32.toNatClampNeg x1) 0) m.J)) rfl rfl rfl ?_
      exact kk
    obtain rfl := Option.some.inj e
    exact sh_Lk_sub (sh_sub_c rfl (sh_sub_c rfl (sh_sub_n))) tg
  · refine sh_Lk_lift (T := m.T) (I := m.I) (J := m.J) (s := m.s) (pc2 := 87) (lv2 := [(1, .int 0), (0, .ref 67)]) (st2 := []) (I2 := m.I) (J2 := m.J) (fun hT v kk => ?_) ?_
    · refine sh_jc (c := .ge) (off := (23)) (pc2 := 85) true rfl (sh_Bget c) rfl ?_
      refine sh_w (i := (.iconst 0)) (len := 1) (pc2 := 86) (lv2 := [(0, .ref 67), (1, .int x1)]) (st2 := [.int 0]) (h2 := (sh_rep m.T m.I m.J)) rfl rfl rfl ?_
      refine sh_w (i := (.istore_n 1)) (len := 1) (pc2 := 87) (lv2 := [(1, .int 0), (0, .ref 67)]) (st2 := []) (h2 := (sh_rep m.T m.I m.J)) rfl rfl rfl ?_
      exact kk
    obtain ⟨_, eu, rfl⟩ := sh_up_e e
    exact sh_Lk_sub (sh_sub_c rfl (sh_sub_c rfl (sh_sub_n))) (sl_282_87 eu tg)
theorem sl_282_60 {x1 : Int32} {m m2 : sh_X} {o : Outcome} {z : (Bool × sh_X)} (e : sf_282_60 x1 m = some z) (tg : (sh_tZ o m2) z) : sh_Lk 282 60 [(0, .ref 67), (1, .int x1)] [] m o m2 1016 40407 := by
  unfold sf_282_60 at e
  exact sh_while_lk (P := fun q => sh_Lk 282 60 [(0, .ref 67), (1, .int q.1)] [] q.2 o m2 1016 40407) (Q := (sh_tZ o m2)) (fun q z e tg => sl_282_60s (x1 := q.1) (m := q.2) e tg) (s := (x1, m)) e tg
theorem sl_282 {m m2 : sh_X} {o : Outcome} {z : (Bool × sh_X)} (e : sf_282 m = some z) (tg : (sh_tZ o m2) z) : sh_Lk 282 0 [(0, .ref 67)] [] m o m2 1016 40407 := by
  unfold sf_282 at e
  refine sh_Lk_lift (T := m.T) (I := m.I) (J := m.J) (s := m.s) (pc2 := 60) (lv2 := [(1, .int 0), (0, .ref 67)]) (st2 := []) (I2 := sh_u2 (sh_u2 (sh_u2 (sh_u2 (sh_u2 (sh_u2 (sh_u2 (sh_u2 (sh_u2 (sh_u2 (sh_u2 m.I 66 41 0) 66 42 0) 66 53 0) 66 54 0) 66 55 (m.I 66 31)) 66 56 0) 66 57 1) 66 58 0) 66 59 0) 66 73 0) 66 79 0) (J2 := m.J) (fun hT v kk => ?_) ?_
  · refine sh_w (i := (.aload_n 0)) (len := 1) (pc2 := 1) (lv2 := [(0, .ref 67)]) (st2 := [.ref 67]) (h2 := (sh_rep m.T m.I m.J)) rfl rfl rfl ?_
    refine sh_w (i := (.iconst 0)) (len := 1) (pc2 := 2) (lv2 := [(0, .ref 67)]) (st2 := [.int 0, .ref 67]) (h2 := (sh_rep m.T m.I m.J)) rfl rfl rfl ?_
    refine sh_pI1 (x := 0) (pc2 := 5) rfl rfl (sh_s66 hT.st) rfl rfl rfl rfl ?_
    refine sh_w (i := (.aload_n 0)) (len := 1) (pc2 := 6) (lv2 := [(0, .ref 67)]) (st2 := [.ref 67]) (h2 := (sh_rep m.T (sh_u2 m.I 66 41 0) m.J)) rfl rfl rfl ?_
    refine sh_w (i := (.iconst 0)) (len := 1) (pc2 := 7) (lv2 := [(0, .ref 67)]) (st2 := [.int 0, .ref 67]) (h2 := (sh_rep m.T (sh_u2 m.I 66 41 0) m.J)) rfl rfl rfl ?_
    refine sh_pI1 (x := 0) (pc2 := 10) rfl rfl (sh_s66 hT.st) rfl rfl rfl rfl ?_
    refine sh_w (i := (.aload_n 0)) (len := 1) (pc2 := 11) (lv2 := [(0, .ref 67)]) (st2 := [.ref 67]) (h2 := (sh_rep m.T (sh_u2 (sh_u2 m.I 66 41 0) 66 42 0) m.J)) rfl rfl rfl ?_
    refine sh_w (i := (.iconst 0)) (len := 1) (pc2 := 12) (lv2 := [(0, .ref 67)]) (st2 := [.int 0, .ref 67]) (h2 := (sh_rep m.T (sh_u2 (sh_u2 m.I 66 41 0) 66 42 0) m.J)) rfl rfl rfl ?_
    refine sh_pI1 (x := 0) (pc2 := 15) rfl rfl (sh_s66 hT.st) rfl rfl rfl rfl ?_
    refine sh_w (i := (.aload_n 0)) (len := 1) (pc2 := 16) (lv2 := [(0, .ref 67)]) (st2 := [.ref 67]) (h2 := (sh_rep m.T (sh_u2 (sh_u2 (sh_u2 m.I 66 41 0) 66 42 0) 66 53 0) m.J)) rfl rfl rfl ?_
    refine sh_w (i := (.iconst 0)) (len := 1) (pc2 := 17) (lv2 := [(0, .ref 67)]) (st2 := [.int 0, .ref 67]) (h2 := (sh_rep m.T (sh_u2 (sh_u2 (sh_u2 m.I 66 41 0) 66 42 0) 66 53 0) m.J)) rfl rfl rfl ?_
    refine sh_pI1 (x := 0) (pc2 := 20) rfl rfl (sh_s66 hT.st) rfl rfl rfl rfl ?_
    refine sh_w (i := (.aload_n 0)) (len := 1) (pc2 := 21) (lv2 := [(0, .ref 67)]) (st2 := [.ref 67]) (h2 := (sh_rep m.T (sh_u2 (sh_u2 (sh_u2 (sh_u2 m.I 66 41 0) 66 42 0) 66 53 0) 66 54 0) m.J)) rfl rfl rfl ?_
    refine sh_w (i := (.aload_n 0)) (len := 1) (pc2 := 22) (lv2 := [(0, .ref 67)]) (st2 := [.ref 67, .ref 67]) (h2 := (sh_rep m.T (sh_u2 (sh_u2 (sh_u2 (sh_u2 m.I 66 41 0) 66 42 0) 66 53 0) 66 54 0) m.J)) rfl rfl rfl ?_
    refine sh_gI1 (len := 3) (x := m.I 66 31) (pc2 := 25) rfl rfl (sh_s66 hT.st) rfl rfl rfl ?_
    refine sh_pI1 (x := m.I 66 31) (pc2 := 28) rfl rfl (sh_s66 hT.st) rfl rfl rfl rfl ?_
    refine sh_w (i := (.aload_n 0)) (len := 1) (pc2 := 29) (lv2 := [(0, .ref 67)]) (st2 := [.ref 67]) (h2 := (sh_rep m.T (sh_u2 (sh_u2 (sh_u2 (sh_u2 (sh_u2 m.I 66 41 0) 66 42 0) 66 53 0) 66 54 0) 66 55 (m.I 66 31)) m.J)) rfl rfl rfl ?_
    refine sh_w (i := (.iconst 0)) (len := 1) (pc2 := 30) (lv2 := [(0, .ref 67)]) (st2 := [.int 0, .ref 67]) (h2 := (sh_rep m.T (sh_u2 (sh_u2 (sh_u2 (sh_u2 (sh_u2 m.I 66 41 0) 66 42 0) 66 53 0) 66 54 0) 66 55 (m.I 66 31)) m.J)) rfl rfl rfl ?_
    refine sh_pI1 (x := 0) (pc2 := 33) rfl rfl (sh_s66 hT.st) rfl rfl rfl rfl ?_
    refine sh_w (i := (.aload_n 0)) (len := 1) (pc2 := 34) (lv2 := [(0, .ref 67)]) (st2 := [.ref 67]) (h2 := (sh_rep m.T (sh_u2 (sh_u2 (sh_u2 (sh_u2 (sh_u2 (sh_u2 m.I 66 41 0) 66 42 0) 66 53 0) 66 54 0) 66 55 (m.I 66 31)) 66 56 0) m.J)) rfl rfl rfl ?_
    refine sh_w (i := (.iconst 1)) (len := 1) (pc2 := 35) (lv2 := [(0, .ref 67)]) (st2 := [.int 1, .ref 67]) (h2 := (sh_rep m.T (sh_u2 (sh_u2 (sh_u2 (sh_u2 (sh_u2 (sh_u2 m.I 66 41 0) 66 42 0) 66 53 0) 66 54 0) 66 55 (m.I 66 31)) 66 56 0) m.J)) rfl rfl rfl ?_
    refine sh_pI1 (x := 1) (pc2 := 38) rfl rfl (sh_s66 hT.st) rfl rfl rfl rfl ?_
    refine sh_w (i := (.aload_n 0)) (len := 1) (pc2 := 39) (lv2 := [(0, .ref 67)]) (st2 := [.ref 67]) (h2 := (sh_rep m.T (sh_u2 (sh_u2 (sh_u2 (sh_u2 (sh_u2 (sh_u2 (sh_u2 m.I 66 41 0) 66 42 0) 66 53 0) 66 54 0) 66 55 (m.I 66 31)) 66 56 0) 66 57 1) m.J)) rfl rfl rfl ?_
    refine sh_w (i := (.iconst 0)) (len := 1) (pc2 := 40) (lv2 := [(0, .ref 67)]) (st2 := [.int 0, .ref 67]) (h2 := (sh_rep m.T (sh_u2 (sh_u2 (sh_u2 (sh_u2 (sh_u2 (sh_u2 (sh_u2 m.I 66 41 0) 66 42 0) 66 53 0) 66 54 0) 66 55 (m.I 66 31)) 66 56 0) 66 57 1) m.J)) rfl rfl rfl ?_
    refine sh_pI1 (x := 0) (pc2 := 43) rfl rfl (sh_s66 hT.st) rfl rfl rfl rfl ?_
    refine sh_w (i := (.aload_n 0)) (len := 1) (pc2 := 44) (lv2 := [(0, .ref 67)]) (st2 := [.ref 67]) (h2 := (sh_rep m.T (sh_u2 (sh_u2 (sh_u2 (sh_u2 (sh_u2 (sh_u2 (sh_u2 (sh_u2 m.I 66 41 0) 66 42 0) 66 53 0) 66 54 0) 66 55 (m.I 66 31)) 66 56 0) 66 57 1) 66 58 0) m.J)) rfl rfl rfl ?_
    refine sh_w (i := (.iconst 0)) (len := 1) (pc2 := 45) (lv2 := [(0, .ref 67)]) (st2 := [.int 0, .ref 67]) (h2 := (sh_rep m.T (sh_u2 (sh_u2 (sh_u2 (sh_u2 (sh_u2 (sh_u2 (sh_u2 (sh_u2 m.I 66 41 0) 66 42 0) 66 53 0) 66 54 0) 66 55 (m.I 66 31)) 66 56 0) 66 57 1) 66 58 0) m.J)) rfl rfl rfl ?_
    refine sh_pI1 (x := 0) (pc2 := 48) rfl rfl (sh_s66 hT.st) rfl rfl rfl rfl ?_
    refine sh_w (i := (.aload_n 0)) (len := 1) (pc2 := 49) (lv2 := [(0, .ref 67)]) (st2 := [.ref 67]) (h2 := (sh_rep m.T (sh_u2 (sh_u2 (sh_u2 (sh_u2 (sh_u2 (sh_u2 (sh_u2 (sh_u2 (sh_u2 m.I 66 41 0) 66 42 0) 66 53 0) 66 54 0) 66 55 (m.I 66 31)) 66 56 0) 66 57 1) 66 58 0) 66 59 0) m.J)) rfl rfl rfl ?_
    refine sh_w (i := (.iconst 0)) (len := 1) (pc2 := 50) (lv2 := [(0, .ref 67)]) (st2 := [.int 0, .ref 67]) (h2 := (sh_rep m.T (sh_u2 (sh_u2 (sh_u2 (sh_u2 (sh_u2 (sh_u2 (sh_u2 (sh_u2 (sh_u2 m.I 66 41 0) 66 42 0) 66 53 0) 66 54 0) 66 55 (m.I 66 31)) 66 56 0) 66 57 1) 66 58 0) 66 59 0) m.J)) rfl rfl rfl ?_
    refine sh_pI1 (x := 0) (pc2 := 53) rfl rfl (sh_s66 hT.st) rfl rfl rfl rfl ?_
    refine sh_w (i := (.aload_n 0)) (len := 1) (pc2 := 54) (lv2 := [(0, .ref 67)]) (st2 := [.ref 67]) (h2 := (sh_rep m.T (sh_u2 (sh_u2 (sh_u2 (sh_u2 (sh_u2 (sh_u2 (sh_u2 (sh_u2 (sh_u2 (sh_u2 m.I 66 41 0) 66 42 0) 66 53 0) 66 54 0) 66 55 (m.I 66 31)) 66 56 0) 66 57 1) 66 58 0) 66 59 0) 66 73 0) m.J)) rfl rfl rfl ?_
    refine sh_w (i := (.iconst 0)) (len := 1) (pc2 := 55) (lv2 := [(0, .ref 67)]) (st2 := [.int 0, .ref 67]) (h2 := (sh_rep m.T (sh_u2 (sh_u2 (sh_u2 (sh_u2 (sh_u2 (sh_u2 (sh_u2 (sh_u2 (sh_u2 (sh_u2 m.I 66 41 0) 66 42 0) 66 53 0) 66 54 0) 66 55 (m.I 66 31)) 66 56 0) 66 57 1) 66 58 0) 66 59 0) 66 73 0) m.J)) rfl rfl rfl ?_
    refine sh_pI1 (x := 0) (pc2 := 58) rfl rfl (sh_s66 hT.st) rfl rfl rfl rfl ?_
    refine sh_w (i := (.iconst 0)) (len := 1) (pc2 := 59) (lv2 := [(0, .ref 67)]) (st2 := [.int 0]) (h2 := (sh_rep m.T (sh_u2 (sh_u2 (sh_u2 (sh_u2 (sh_u2 (sh_u2 (sh_u2 (sh_u2 (sh_u2 (sh_u2 (sh_u2 m.I 66 41 0) 66 42 0) 66 53 0) 66 54 0) 66 55 (m.I 66 31)) 66 56 0) 66 57 1) 66 58 0) 66 59 0) 66 73 0) 66 79 0) m.J)) rfl rfl rfl ?_
    refine sh_w (i := (.istore_n 1)) (len := 1) (pc2 := 60) (lv2 := [(1, .int 0), (0, .ref 67)]) (st2 := []) (h2 := (sh_rep m.T (sh_u2 (sh_u2 (sh_u2 (sh_u2 (sh_u2 (sh_u2 (sh_u2 (sh_u2 (sh_u2 (sh_u2 (sh_u2 m.I 66 41 0) 66 42 0) 66 53 0) 66 54 0) 66 55 (m.I 66 31)) 66 56 0) 66 57 1) 66 58 0) 66 59 0) 66 73 0) 66 79 0) m.J)) rfl rfl rfl ?_
    exact kk
  exact sh_Lk_sub (sh_sub_c rfl (sh_sub_c rfl (sh_sub_n))) (sl_282_60 e tg)
theorem sl_246_111 {m m2 : sh_X} {o : Outcome} {z : (Int32 × sh_X)} (e : sf_246_111 m = some z) (tg : (sh_tI o m2) z) : sh_Lk 246 111 [(0, .ref 67)] [] m o m2 2037 80756 := by
  unfold sf_246_111 at e
  refine sh_Lk_lift (T := m.T) (I := m.I) (J := m.J) (s := m.s) (pc2 := 115) (lv2 := [(0, .ref 67)]) (st2 := [.int (m.I 66 6)]) (I2 := m.I) (J2 := m.J) (fun hT v kk => ?_) ?_
  · refine sh_w (i := (.aload_n 0)) (len := 1) (pc2 := 112) (lv2 := [(0, .ref 67)]) (st2 := [.ref 67]) (h2 := (sh_rep m.T m.I m.J)) rfl rfl rfl ?_
    refine sh_gI1 (len := 3) (x := m.I 66 6) (pc2 := 115) rfl rfl (sh_s66 hT.st) rfl rfl rfl ?_
    exact kk
  obtain rfl := Option.some.inj e
  obtain ⟨rfl, rfl⟩ := tg
  exact sh_Lk_ret (i := .ireturn) rfl rfl rfl (Nat.le_of_ble_eq_true rfl) (Nat.le_of_ble_eq_true rfl)
theorem sl_246_99 {x1 : Bool} {y1 : Bool} {m m2 : sh_X} {o : Outcome} {z : (Int32 × sh_X)} (e : sf_246_99 x1 y1 m = some z) (tg : (sh_tI o m2) z) : sh_Lk 246 99 [(0, .ref 67), (1, .int (sh_b2 x1))] [.int (sh_b2 y1), .ref 67] m o m2 2037 80756 := by
  unfold sf_246_99 at e
  refine sh_Lk_lift (T := m.T) (I := m.I) (J := m.J) (s := m.s) (pc2 := 103) (lv2 := [(0, .ref 67), (1, .int (sh_b2 x1))]) (st2 := [.int (sh_b2 x1)]) (I2 := sh_u2 m.I 66 4 (sh_b2 y1)) (J2 := m.J) (fun hT v kk => ?_) ?_
  · refine sh_pI1 (x := sh_b2 y1) (pc2 := 102) rfl rfl (sh_s66 hT.st) rfl rfl rfl rfl ?_
    refine sh_w (i := (.iload_n 1)) (len := 1) (pc2 := 103) (lv2 := [(0, .ref 67), (1, .int (sh_b2 x1))]) (st2 := [.int (sh_b2 x1)]) (h2 := (sh_rep m.T (sh_u2 m.I 66 4 (sh_b2 y1)) m.J)) rfl rfl rfl ?_
    exact kk
  rcases sh_ite e with ⟨c, e⟩ | ⟨c, e⟩
  · refine sh_Lk_lift (T := m.T) (I := sh_u2 m.I 66 4 (sh_b2 y1)) (J := m.J) (s := m.s) (pc2 := 111) (lv2 := [(0, .ref 67), (1, .int (sh_b2 x1))]) (st2 := []) (I2 := sh_u2 (sh_u2 m.I 66 4 (sh_b2 y1)) 66 7 (-1)) (J2 := m.J) (fun hT v kk => ?_) ?_
    · refine sh_j0 (c := .eq) (off := (8)) (pc2 := 106) false rfl (sh_Zeqf c) rfl ?_
      refine sh_w (i := (.aload_n 0)) (len := 1) (pc2 := 107) (lv2 := [(0, .ref 67), (1, .int (sh_b2 x1))]) (st2 := [.ref 67]) (h2 := (sh_rep m.T (sh_u2 m.I 66 4 (sh_b2 y1)) m.J)) rfl rfl rfl ?_
      refine sh_w (i := (.iconst (-1))) (len := 1) (pc2 := 108) (lv2 := [(0, .ref 67), (1, .int (sh_b2 x1))]) (st2 := [.int (-1), .ref 67]) (h2 := (sh_rep m.T (sh_u2 m.I 66 4 (sh_b2 y1)) m.J)) rfl rfl rfl ?_
      refine sh_pI1 (x := (-1)) (pc2 := 111) rfl rfl (sh_s66 hT.st) rfl rfl rfl rfl ?_
      exact kk
    exact sh_Lk_sub (sh_sub_c rfl (sh_sub_n)) (sl_246_111 e tg)
  · refine sh_Lk_lift (T := m.T) (I := sh_u2 m.I 66 4 (sh_b2 y1)) (J := m.J) (s := m.s) (pc2 := 111) (lv2 := [(0, .ref 67), (1, .int (sh_b2 x1))]) (st2 := []) (I2 := sh_u2 m.I 66 4 (sh_b2 y1)) (J2 := m.J) (fun hT v kk => ?_) ?_
    · refine sh_j0 (c := .eq) (off := (8)) (pc2 := 111) true rfl (sh_Zeqt c) rfl ?_
      exact kk
    exact sh_Lk_sub (sh_sub_c rfl (sh_sub_n)) (sl_246_111 e tg)
theorem sl_246_89 {x1 : Bool} {m m2 : sh_X} {o : Outcome} {z : (Int32 × sh_X)} (e : sf_246_89 x1 m = some z) (tg : (sh_tI o m2) z) : sh_Lk 246 89 [(0, .ref 67), (1, .int (sh_b2 x1))] [] m o m2 2037 80756 := by
  unfold sf_246_89 at e
  refine sh_Lk_lift (T := m.T) (I := m.I) (J := m.J) (s := m.s) (pc2 := 91) (lv2 := [(0, .ref 67), (1, .int (sh_b2 x1))]) (st2 := [.int (sh_b2 x1), .ref 67]) (I2 := m.I) (J2 := m.J) (fun hT v kk => ?_) ?_
  · refine sh_w (i := (.aload_n 0)) (len := 1) (pc2 := 90) (lv2 := [(0, .ref 67), (1, .int (sh_b2 x1))]) (st2 := [.ref 67]) (h2 := (sh_rep m.T m.I m.J)) rfl rfl rfl ?_
    refine sh_w (i := (.iload_n 1)) (len := 1) (pc2 := 91) (lv2 := [(0, .ref 67), (1, .int (sh_b2 x1))]) (st2 := [.int (sh_b2 x1), .ref 67]) (h2 := (sh_rep m.T m.I m.J)) rfl rfl rfl ?_
    exact kk
  rcases sh_ite e with ⟨c, e⟩ | ⟨c, e⟩
  · refine sh_Lk_lift (T := m.T) (I := m.I) (J := m.J) (s := m.s) (pc2 := 99) (lv2 := [(0, .ref 67), (1, .int (sh_b2 x1))]) (st2 := [.int 1, .ref 67]) (I2 := m.I) (J2 := m.J) (fun hT v kk => ?_) ?_
    · refine sh_j0 (c := .eq) (off := (7)) (pc2 := 94) false rfl (sh_Zeqf c) rfl ?_
      refine sh_w (i := (.iconst 1)) (len := 1) (pc2 := 95) (lv2 := [(0, .ref 67), (1, .int (sh_b2 x1))]) (st2 := [.int 1, .ref 67]) (h2 := (sh_rep m.T m.I m.J)) rfl rfl rfl ?_
      refine sh_w (i := (.goto 4)) (len := 3) (pc2 := 99) (lv2 := [(0, .ref 67), (1, .int (sh_b2 x1))]) (st2 := [.int 1, .ref 67]) (h2 := (sh_rep m.T m.I m.J)) rfl rfl rfl ?_
      exact kk
    exact sh_Lk_sub (sh_sub_c rfl (sh_sub_c rfl (sh_sub_n))) (sl_246_99 e tg)
  · refine sh_Lk_lift (T := m.T) (I := m.I) (J := m.J) (s := m.s) (pc2 := 99) (lv2 := [(0, .ref 67), (1, .int (sh_b2 x1))]) (st2 := [.int 0, .ref 67]) (I2 := m.I) (J2 := m.J) (fun hT v kk => ?_) ?_
    · refine sh_j0 (c := .eq) (off := (7)) (pc2 := 98) true rfl (sh_Zeqt c) rfl ?_
      refine sh_w (i := (.iconst 0)) (len := 1) (pc2 := 99) (lv2 := [(0, .ref 67), (1, .int (sh_b2 x1))]) (st2 := [.int 0, .ref 67]) (h2 := (sh_rep m.T m.I m.J)) rfl rfl rfl ?_
      exact kk
    exact sh_Lk_sub (sh_sub_c rfl (sh_sub_c rfl (sh_sub_n))) (sl_246_99 e tg)
theorem sl_246_88 {y0 : Bool} {m m2 : sh_X} {o : Outcome} {z : (Int32 × sh_X)} (e : sf_246_88 y0 m = some z) (tg : (sh_tI o m2) z) : sh_Lk 246 88 [(0, .ref 67)] [.int (sh_b2 y0)] m o m2 2037 80756 := by
  unfold sf_246_88 at e
  refine sh_Lk_lift (T := m.T) (I := m.I) (J := m.J) (s := m.s) (pc2 := 89) (lv2 := [(1, .int (sh_b2 y0)), (0, .ref 67)]) (st2 := []) (I2 := m.I) (J2 := m.J) (fun hT v kk => ?_) ?_
  · refine sh_w (i := (.istore_n 1)) (len := 1) (pc2 := 89) (lv2 := [(1, .int (sh_b2 y0)), (0, .ref 67)]) (st2 := []) (h2 := (sh_rep m.T m.I m.J)) rfl rfl rfl ?_
    exact kk
  exact sh_Lk_sub (sh_sub_c rfl (sh_sub_c rfl (sh_sub_n))) (sl_246_89 e tg)
theorem sl_246_87 {m m2 : sh_X} {o : Outcome} {z : (Int32 × sh_X)} (e : sf_246_87 m = some z) (tg : (sh_tI o m2) z) : sh_Lk 246 87 [(0, .ref 67)] [] m o m2 2037 80756 := by
  unfold sf_246_87 at e
  refine sh_Lk_lift (T := m.T) (I := m.I) (J := m.J) (s := m.s) (pc2 := 88) (lv2 := [(0, .ref 67)]) (st2 := [.int 0]) (I2 := m.I) (J2 := m.J) (fun hT v kk => ?_) ?_
  · refine sh_w (i := (.iconst 0)) (len := 1) (pc2 := 88) (lv2 := [(0, .ref 67)]) (st2 := [.int 0]) (h2 := (sh_rep m.T m.I m.J)) rfl rfl rfl ?_
    exact kk
  exact sh_Lk_sub (sh_sub_c rfl (sh_sub_n)) (sl_246_88 e tg)
theorem sl_246_36s {x2 : Int32} {m m2 : sh_X} {o : Outcome} {z : ((Int32 × sh_X) ⊕ (Int32 × sh_X))} (e : sf_246_36s x2 m = some z) (tg : (sh_el (fun q => sh_Lk 246 36 [(0, .ref 67), (2, .int q.1)] [] q.2 o m2 2037 80756) (sh_tI o m2)) z) : sh_Lk 246 36 [(0, .ref 67), (2, .int x2)] [] m o m2 2037 80756 := by
  unfold sf_246_36s at e
  refine sh_Lk_lift (T := m.T) (I := m.I) (J := m.J) (s := m.s) (pc2 := 41) (lv2 := [(0, .ref 67), (2, .int x2)]) (st2 := [.int (m.I 66 3), .int x2]) (I2 := m.I) (J2 := m.J) (fun hT v kk => ?_) ?_
  · refine sh_w (i := (.iload_n 2)) (len := 1) (pc2 := 37) (lv2 := [(0, .ref 67), (2, .int x2)]) (st2 := [.int x2]) (h2 := (sh_rep m.T m.I m.J)) rfl rfl rfl ?_
    refine sh_w (i := (.aload_n 0)) (len := 1) (pc2 := 38) (lv2 := [(0, .ref 67), (2, .int x2)]) (st2 := [.ref 67, .int x2]) (h2 := (sh_rep m.T m.I m.J)) rfl rfl rfl ?_
    refine sh_gI1 (len := 3) (x := m.I 66 3) (pc2 := 41) rfl rfl (sh_s66 hT.st) rfl rfl rfl ?_
    exact kk
  rcases sh_ite e with ⟨c, e⟩ | ⟨c, e⟩
  · refine sh_Lk_lift (T := m.T) (I := m.I) (J := m.J) (s := m.s) (pc2 := 54) (lv2 := [(0, .ref 67), (2, .int x2)]) (st2 := [.int x2, .ref 68, .int x2, .ref 72]) (I2 := m.I) (J2 := m.J) (fun hT v kk => ?_) ?_
    · refine sh_jc (c := .ge) (off := (21)) (pc2 := 44) false rfl (sh_Bgef c) rfl ?_
      refine sh_w (i := (.aload_n 0)) (len := 1) (pc2 := 45) (lv2 := [(0, .ref 67), (2, .int x2)]) (st2 := [.ref 67]) (h2 := (sh_rep m.T m.I m.J)) rfl rfl rfl ?_
      refine sh_gR1 (len := 3) (x := .ref 72) (pc2 := 48) rfl rfl (sh_s66 hT.st) rfl rfl ?_
      refine sh_w (i := (.iload_n 2)) (len := 1) (pc2 := 49) (lv2 := [(0, .ref 67), (2, .int x2)]) (st2 := [.int x2, .ref 72]) (h2 := (sh_rep m.T m.I m.J)) rfl rfl rfl ?_
      refine sh_w (i := (.aload_n 0)) (len := 1) (pc2 := 50) (lv2 := [(0, .ref 67), (2, .int x2)]) (st2 := [.ref 67, .int x2, .ref 72]) (h2 := (sh_rep m.T m.I m.J)) rfl rfl rfl ?_
      refine sh_gR1 (len := 3) (x := .ref 68) (pc2 := 53) rfl rfl (sh_s66 hT.st) rfl rfl ?_
      refine sh_w (i := (.iload_n 2)) (len := 1) (pc2 := 54) (lv2 := [(0, .ref 67), (2, .int x2)]) (st2 := [.int x2, .ref 68, .int x2, .ref 72]) (h2 := (sh_rep m.T m.I m.J)) rfl rfl rfl ?_
      exact kk
    obtain ⟨c, e⟩ := sh_gd e
    refine sh_Lk_lift (T := m.T) (I := m.I) (J := m.J) (s := m.s) (pc2 := 55) (lv2 := [(0, .ref 67), (2, .int x2)]) (st2 := [.int (m.I 67 (Int32.toNatClampNeg x2)), .int x2, .ref 72]) (I2 := m.I) (J2 := m.J) (fun hT v kk => ?_) ?_
    · refine sh_ba1 (x := m.I 67 (Int32.toNatClampNeg x2)) (pc2 := 55) rfl (sh_s67 hT.st) (Or.inl rfl) (sh_okb1 c) (sh_okb2 c) rfl rfl ?_
      exact kk
    obtain ⟨c, e⟩ := sh_gd e
    refine sh_Lk_lift (T := m.T) (I := m.I) (J := m.J) (s := m.s) (pc2 := 36) (lv2 := [(2, .int (x2 + 1)), (0, .ref 67)]) (st2 := []) (I2 := sh_u2 m.I 71 (Int32.toNatClampNeg x2) (vp_nar .byte (m.I 67 (Int32.toNatClampNeg x2)))) (J2 := m.J) (fun hT v kk => ?_) ?_
    · refine sh_bs1 (x := m.I 67 (Int32.toNatClampNeg x2)) (y := vp_nar .byte (m.I 67 (Int32.toNatClampNeg x2))) (i := x2) (pc2 := 56) rfl (sh_s71 hT.st) (sh_okb1 c) (sh_okb2 c) rfl rfl ?_
      refine sh_w (i := (.iinc 2 1)) (len := 3) (pc2 := 59) (lv2 := [(2, .int (x2 + 1)), (0, .ref 67)]) (st2 := []) (h2 := (sh_rep m.T (sh_u2 m.I 71 (Int32.toNatClampNeg x2) (vp_nar .byte (m.I 67 (Int32.toNatClampNeg x2)))) m.J)) rfl rfl rfl ?_
      refine sh_w (i := (.goto (-23))) (len := 3) (pc2 := 36) (lv2 := [(2, .int (x2 + 1)), (0, .ref 67)]) (st2 := []) (h2 := (sh_rep m.T (sh_u2 m.I 71 (Int32.toNatClampNeg x2) (vp_nar .byte (m.I 67 (Int32.toNatClampNeg x2)))) m.J)) rfl rfl rfl ?_
      exact kk
    obtain rfl := Option.some.inj e
    exact sh_Lk_sub (sh_sub_c rfl (sh_sub_c rfl (sh_sub_n))) tg
  · refine sh_Lk_lift (T := m.T) (I := m.I) (J := m.J) (s := m.s) (pc2 := 63) (lv2 := [(0, .ref 67), (2, .int x2)]) (st2 := [.ref 67]) (I2 := m.I) (J2 := m.J) (fun hT v kk => ?_) ?_
    · refine sh_jc (c := .ge) (off := (21)) (pc2 := 62) true rfl (sh_Bget c) rfl ?_
      refine sh_w (i := (.aload_n 0)) (len := 1) (pc2 := 63) (lv2 := [(0, .ref 67), (2, .int x2)]) (st2 := [.ref 67]) (h2 := (sh_rep m.T m.I m.J)) rfl rfl rfl ?_
      exact kk
    obtain ⟨r1, m11, e1, e⟩ := sh_bn_e e
    refine sh_Lk_cV (r := (some (.int (sh_b2 r1)))) (st2 := [.int (sh_b2 r1)]) (pc2 := 66) (k2 := 255) (a := 66) (as := [.ref 67]) (rest := []) rfl rfl rfl (fun hT => (sh_s66 hT.st)) rfl rfl ⟨Nat.le_of_ble_eq_true rfl, Nat.le_of_ble_eq_true rfl⟩ (sl_255 e1 ⟨rfl, rfl⟩) rfl rfl (Nat.le_of_ble_eq_true rfl) (Nat.le_of_ble_eq_true rfl) ?_
    rcases sh_ite e with ⟨c, e⟩ | ⟨c, e⟩
    · refine sh_Lk_lift (T := m11.T) (I := m11.I) (J := m11.J) (s := m11.s) (pc2 := 70) (lv2 := [(0, .ref 67), (2, .int x2)]) (st2 := [.ref 67]) (I2 := m11.I) (J2 := m11.J) (fun hT v kk => ?_) ?_
      · refine sh_j0 (c := .eq) (off := (21)) (pc2 := 69) false rfl (sh_Zeqf c) rfl ?_
        refine sh_w (i := (.aload_n 0)) (len := 1) (pc2 := 70) (lv2 := [(0, .ref 67), (2, .int x2)]) (st2 := [.ref 67]) (h2 := (sh_rep m11.T m11.I m11.J)) rfl rfl rfl ?_
        exact kk
      obtain ⟨r2, m12, e2, e⟩ := sh_bn_e e
      refine sh_Lk_cV (r := (some (.int (sh_b2 r2)))) (st2 := [.int (sh_b2 r2)]) (pc2 := 73) (k2 := 278) (a := 66) (as := [.ref 67]) (rest := []) rfl rfl rfl (fun hT => (sh_s66 hT.st)) rfl rfl ⟨Nat.le_of_ble_eq_true rfl, Nat.le_of_ble_eq_true rfl⟩ (sl_278 e2 ⟨rfl, rfl⟩) rfl rfl (Nat.le_of_ble_eq_true rfl) (Nat.le_of_ble_eq_true rfl) ?_
      rcases sh_ite e with ⟨c, e⟩ | ⟨c, e⟩
      · refine sh_Lk_lift (T := m12.T) (I := m12.I) (J := m12.J) (s := m12.s) (pc2 := 77) (lv2 := [(0, .ref 67), (2, .int x2)]) (st2 := [.ref 67]) (I2 := m12.I) (J2 := m12.J) (fun hT v kk => ?_) ?_
        · refine sh_j0 (c := .eq) (off := (14)) (pc2 := 76) false rfl (sh_Zeqf c) rfl ?_
          refine sh_w (i := (.aload_n 0)) (len := 1) (pc2 := 77) (lv2 := [(0, .ref 67), (2, .int x2)]) (st2 := [.ref 67]) (h2 := (sh_rep m12.T m12.I m12.J)) rfl rfl rfl ?_
          exact kk
        obtain ⟨r3, m13, e3, e⟩ := sh_bn_e e
        refine sh_Lk_cV (r := (some (.int (sh_b2 r3)))) (st2 := [.int (sh_b2 r3)]) (pc2 := 80) (k2 := 282) (a := 66) (as := [.ref 67]) (rest := []) rfl rfl rfl (fun hT => (sh_s66 hT.st)) rfl rfl ⟨Nat.le_of_ble_eq_true rfl, Nat.le_of_ble_eq_true rfl⟩ (sl_282 e3 ⟨rfl, rfl⟩) rfl rfl (Nat.le_of_ble_eq_true rfl) (Nat.le_of_ble_eq_true rfl) ?_
        rcases sh_ite e with ⟨c, e⟩ | ⟨c, e⟩
        · refine sh_Lk_lift (T := m13.T) (I := m13.I) (J := m13.J) (s := m13.s) (pc2 := 88) (lv2 := [(0, .ref 67), (2, .int x2)]) (st2 := [.int 1]) (I2 := m13.I) (J2 := m13.J) (fun hT v kk => ?_) ?_
          · refine sh_j0 (c := .eq) (off := (7)) (pc2 := 83) false rfl (sh_Zeqf c) rfl ?_
            refine sh_w (i := (.iconst 1)) (len := 1) (pc2 := 84) (lv2 := [(0, .ref 67), (2, .int x2)]) (st2 := [.int 1]) (h2 := (sh_rep m13.T m13.I m13.J)) rfl rfl rfl ?_
            refine sh_w (i := (.goto 4)) (len := 3) (pc2 := 88) (lv2 := [(0, .ref 67), (2, .int x2)]) (st2 := [.int 1]) (h2 := (sh_rep m13.T m13.I m13.J)) rfl rfl rfl ?_
            exact kk
          obtain ⟨_, eu, rfl⟩ := sh_up_e e
          exact sh_Lk_sub (sh_sub_c rfl (sh_sub_n)) (sl_246_88 eu tg)
        · refine sh_Lk_lift (T := m13.T) (I := m13.I) (J := m13.J) (s := m13.s) (pc2 := 87) (lv2 := [(0, .ref 67), (2, .int x2)]) (st2 := []) (I2 := m13.I) (J2 := m13.J) (fun hT v kk => ?_) ?_
          · refine sh_j0 (c := .eq) (off := (7)) (pc2 := 87) true rfl (sh_Zeqt c) rfl ?_
            exact kk
          obtain ⟨_, eu, rfl⟩ := sh_up_e e
          exact sh_Lk_sub (sh_sub_c rfl (sh_sub_n)) (sl_246_87 eu tg)
      · refine sh_Lk_lift (T := m12.T) (I := m12.I) (J := m12.J) (s := m12.s) (pc2 := 87) (lv2 := [(0, .ref 67), (2, .int x2)]) (st2 := []) (I2 := m12.I) (J2 := m12.J) (fun hT v kk => ?_) ?_
        · refine sh_j0 (c := .eq) (off := (14)) (pc2 := 87) true rfl (sh_Zeqt c) rfl ?_
          exact kk
        obtain ⟨_, eu, rfl⟩ := sh_up_e e
        exact sh_Lk_sub (sh_sub_c rfl (sh_sub_n)) (sl_246_87 eu tg)
    · refine sh_Lk_lift (T := m11.T) (I := m11.I) (J := m11.J) (s := m11.s) (pc2 := 87) (lv2 := [(0, .ref 67), (2, .int x2)]) (st2 := []) (I2 := m11.I) (J2 := m11.J) (fun hT v kk => ?_) ?_
      · refine sh_j0 (c := .eq) (off := (21)) (pc2 := 87) true rfl (sh_Zeqt c) rfl ?_
        exact kk
      obtain ⟨_, eu, rfl⟩ := sh_up_e e
      exact sh_Lk_sub (sh_sub_c rfl (sh_sub_n)) (sl_246_87 eu tg)
theorem sl_246_36 {x2 : Int32} {m m2 : sh_X} {o : Outcome} {z : (Int32 × sh_X)} (e : sf_246_36 x2 m = some z) (tg : (sh_tI o m2) z) : sh_Lk 246 36 [(0, .ref 67), (2, .int x2)] [] m o m2 2037 80756 := by
  unfold sf_246_36 at e
  exact sh_while_lk (P := fun q => sh_Lk 246 36 [(0, .ref 67), (2, .int q.1)] [] q.2 o m2 2037 80756) (Q := (sh_tI o m2)) (fun q z e tg => sl_246_36s (x2 := q.1) (m := q.2) e tg) (s := (x2, m)) e tg
theorem sl_246 {m m2 : sh_X} {o : Outcome} {z : (Int32 × sh_X)} (e : sf_246 m = some z) (tg : (sh_tI o m2) z) : sh_Lk 246 0 [(0, .ref 67)] [] m o m2 2037 80756 := by
  unfold sf_246 at e
  refine sh_Lk_lift (T := m.T) (I := m.I) (J := m.J) (s := m.s) (pc2 := 11) (lv2 := [(0, .ref 67)]) (st2 := [.int 24, .int (m.I 66 80)]) (I2 := sh_u2 m.I 66 0 0) (J2 := m.J) (fun hT v kk => ?_) ?_
  · refine sh_w (i := (.aload_n 0)) (len := 1) (pc2 := 1) (lv2 := [(0, .ref 67)]) (st2 := [.ref 67]) (h2 := (sh_rep m.T m.I m.J)) rfl rfl rfl ?_
    refine sh_w (i := (.iconst 0)) (len := 1) (pc2 := 2) (lv2 := [(0, .ref 67)]) (st2 := [.int 0, .ref 67]) (h2 := (sh_rep m.T m.I m.J)) rfl rfl rfl ?_
    refine sh_pI1 (x := 0) (pc2 := 5) rfl rfl (sh_s66 hT.st) rfl rfl rfl rfl ?_
    refine sh_w (i := (.aload_n 0)) (len := 1) (pc2 := 6) (lv2 := [(0, .ref 67)]) (st2 := [.ref 67]) (h2 := (sh_rep m.T (sh_u2 m.I 66 0 0) m.J)) rfl rfl rfl ?_
    refine sh_gI1 (len := 3) (x := m.I 66 80) (pc2 := 9) rfl rfl (sh_s66 hT.st) rfl rfl rfl ?_
    refine sh_w (i := (.bipush 24)) (len := 2) (pc2 := 11) (lv2 := [(0, .ref 67)]) (st2 := [.int 24, .int (m.I 66 80)]) (h2 := (sh_rep m.T (sh_u2 m.I 66 0 0) m.J)) rfl rfl rfl ?_
    exact kk
  rcases sh_ite e with ⟨c, e⟩ | ⟨c, e⟩
  · refine sh_Lk_lift (T := m.T) (I := sh_u2 m.I 66 0 0) (J := m.J) (s := m.s) (pc2 := 15) (lv2 := [(0, .ref 67)]) (st2 := [.int (-1)]) (I2 := sh_u2 m.I 66 0 0) (J2 := m.J) (fun hT v kk => ?_) ?_
    · refine sh_jc (c := .ne) (off := (5)) (pc2 := 14) false rfl (sh_Bnef c) rfl ?_
      refine sh_w (i := (.iconst (-1))) (len := 1) (pc2 := 15) (lv2 := [(0, .ref 67)]) (st2 := [.int (-1)]) (h2 := (sh_rep m.T (sh_u2 m.I 66 0 0) m.J)) rfl rfl rfl ?_
      exact kk
    obtain rfl := Option.some.inj e
    obtain ⟨rfl, rfl⟩ := tg
    exact sh_Lk_ret (i := .ireturn) rfl rfl rfl (Nat.le_of_ble_eq_true rfl) (Nat.le_of_ble_eq_true rfl)
  · refine sh_Lk_lift (T := m.T) (I := sh_u2 m.I 66 0 0) (J := m.J) (s := m.s) (pc2 := 17) (lv2 := [(0, .ref 67)]) (st2 := [.ref 67]) (I2 := sh_u2 m.I 66 0 0) (J2 := m.J) (fun hT v kk => ?_) ?_
    · refine sh_jc (c := .ne) (off := (5)) (pc2 := 16) true rfl (sh_Bnet c) rfl ?_
      refine sh_w (i := (.aload_n 0)) (len := 1) (pc2 := 17) (lv2 := [(0, .ref 67)]) (st2 := [.ref 67]) (h2 := (sh_rep m.T (sh_u2 m.I 66 0 0) m.J)) rfl rfl rfl ?_
      exact kk
    obtain ⟨r1, m11, e1, e⟩ := sh_bn_e e
    refine sh_Lk_cV (r := none) (st2 := []) (pc2 := 20) (k2 := 247) (a := 66) (as := [.ref 67]) (rest := []) rfl rfl rfl (fun hT => (sh_s66 hT.st)) rfl rfl ⟨Nat.le_of_ble_eq_true rfl, Nat.le_of_ble_eq_true rfl⟩ (sl_247 e1 ⟨rfl, rfl⟩) rfl rfl (Nat.le_of_ble_eq_true rfl) (Nat.le_of_ble_eq_true rfl) ?_
    refine sh_Lk_lift (T := m11.T) (I := m11.I) (J := m11.J) (s := m11.s) (pc2 := 26) (lv2 := [(0, .ref 67)]) (st2 := [.ref 67]) (I2 := sh_u2 m11.I 66 6 0) (J2 := m11.J) (fun hT v kk => ?_) ?_
    · refine sh_w (i := (.aload_n 0)) (len := 1) (pc2 := 21) (lv2 := [(0, .ref 67)]) (st2 := [.ref 67]) (h2 := (sh_rep m11.T m11.I m11.J)) rfl rfl rfl ?_
      refine sh_w (i := (.iconst 0)) (len := 1) (pc2 := 22) (lv2 := [(0, .ref 67)]) (st2 := [.int 0, .ref 67]) (h2 := (sh_rep m11.T m11.I m11.J)) rfl rfl rfl ?_
      refine sh_pI1 (x := 0) (pc2 := 25) rfl rfl (sh_s66 hT.st) rfl rfl rfl rfl ?_
      refine sh_w (i := (.aload_n 0)) (len := 1) (pc2 := 26) (lv2 := [(0, .ref 67)]) (st2 := [.ref 67]) (h2 := (sh_rep m11.T (sh_u2 m11.I 66 6 0) m11.J)) rfl rfl rfl ?_
      exact kk
    obtain ⟨r2, m12, e2, e⟩ := sh_bn_e e
    refine sh_Lk_cV (r := (some (.int (sh_b2 r2)))) (st2 := [.int (sh_b2 r2)]) (pc2 := 29) (k2 := 248) (a := 66) (as := [.ref 67]) (rest := []) rfl rfl rfl (fun hT => (sh_s66 hT.st)) rfl rfl ⟨Nat.le_of_ble_eq_true rfl, Nat.le_of_ble_eq_true rfl⟩ (sl_248 e2 ⟨rfl, rfl⟩) rfl rfl (Nat.le_of_ble_eq_true rfl) (Nat.le_of_ble_eq_true rfl) ?_
    refine sh_Lk_lift (T := m12.T) (I := m12.I) (J := m12.J) (s := m12.s) (pc2 := 31) (lv2 := [(1, .int (sh_b2 r2)), (0, .ref 67)]) (st2 := [.int (sh_b2 r2)]) (I2 := m12.I) (J2 := m12.J) (fun hT v kk => ?_) ?_
    · refine sh_w (i := (.istore_n 1)) (len := 1) (pc2 := 30) (lv2 := [(1, .int (sh_b2 r2)), (0, .ref 67)]) (st2 := []) (h2 := (sh_rep m12.T m12.I m12.J)) rfl rfl rfl ?_
      refine sh_w (i := (.iload_n 1)) (len := 1) (pc2 := 31) (lv2 := [(1, .int (sh_b2 r2)), (0, .ref 67)]) (st2 := [.int (sh_b2 r2)]) (h2 := (sh_rep m12.T m12.I m12.J)) rfl rfl rfl ?_
      exact kk
    rcases sh_ite e with ⟨c, e⟩ | ⟨c, e⟩
    · refine sh_Lk_lift (T := m12.T) (I := m12.I) (J := m12.J) (s := m12.s) (pc2 := 36) (lv2 := [(2, .int 0), (1, .int (sh_b2 r2)), (0, .ref 67)]) (st2 := []) (I2 := m12.I) (J2 := m12.J) (fun hT v kk => ?_) ?_
      · refine sh_j0 (c := .eq) (off := (58)) (pc2 := 34) false rfl (sh_Zeqf c) rfl ?_
        refine sh_w (i := (.iconst 0)) (len := 1) (pc2 := 35) (lv2 := [(1, .int (sh_b2 r2)), (0, .ref 67)]) (st2 := [.int 0]) (h2 := (sh_rep m12.T m12.I m12.J)) rfl rfl rfl ?_
        refine sh_w (i := (.istore_n 2)) (len := 1) (pc2 := 36) (lv2 := [(2, .int 0), (1, .int (sh_b2 r2)), (0, .ref 67)]) (st2 := []) (h2 := (sh_rep m12.T m12.I m12.J)) rfl rfl rfl ?_
        exact kk
      exact sh_Lk_sub (sh_sub_c rfl (sh_sub_c rfl (sh_sub_n))) (sl_246_36 e tg)
    · refine sh_Lk_lift (T := m12.T) (I := m12.I) (J := m12.J) (s := m12.s) (pc2 := 89) (lv2 := [(1, .int (sh_b2 r2)), (0, .ref 67)]) (st2 := []) (I2 := m12.I) (J2 := m12.J) (fun hT v kk => ?_) ?_
      · refine sh_j0 (c := .eq) (off := (58)) (pc2 := 89) true rfl (sh_Zeqt c) rfl ?_
        exact kk
      exact sh_Lk_sub (sh_sub_c rfl (sh_sub_c rfl (sh_sub_n))) (sl_246_89 e tg)
theorem sl_326_71 {m m2 : sh_X} {o : Outcome} {z : (Bool × sh_X)} (e : sf_326_71 m = some z) (tg : (sh_tZ o m2) z) : sh_Lk 326 71 [(0, .ref 67)] [] m o m2 9 222 := by
  unfold sf_326_71 at e
  refine sh_Lk_lift (T := m.T) (I := m.I) (J := m.J) (s := m.s) (pc2 := 77) (lv2 := [(0, .ref 67)]) (st2 := [.int (m.I 66 91), .int 2, .ref 67]) (I2 := m.I) (J2 := m.J) (fun hT v kk => ?_) ?_
  · refine sh_w (i := (.aload_n 0)) (len := 1) (pc2 := 72) (lv2 := [(0, .ref 67)]) (st2 := [.ref 67]) (h2 := (sh_rep m.T m.I m.J)) rfl rfl rfl ?_
    refine sh_w (i := (.iconst 2)) (len := 1) (pc2 := 73) (lv2 := [(0, .ref 67)]) (st2 := [.int 2, .ref 67]) (h2 := (sh_rep m.T m.I m.J)) rfl rfl rfl ?_
    refine sh_w (i := (.aload_n 0)) (len := 1) (pc2 := 74) (lv2 := [(0, .ref 67)]) (st2 := [.ref 67, .int 2, .ref 67]) (h2 := (sh_rep m.T m.I m.J)) rfl rfl rfl ?_
    refine sh_gI1 (len := 3) (x := m.I 66 91) (pc2 := 77) rfl rfl (sh_s66 hT.st) rfl rfl rfl ?_
    exact kk
  obtain ⟨r1, m11, e1, e⟩ := sh_bn_e e
  refine sh_Lk_cV (r := (some (.int (sh_b2 r1)))) (st2 := [.int (sh_b2 r1)]) (pc2 := 80) (k2 := 252) (a := 66) (as := [.ref 67, .int 2, .int (m.I 66 91)]) (rest := []) rfl rfl rfl (fun hT => (sh_s66 hT.st)) rfl rfl ⟨Nat.le_of_ble_eq_true rfl, Nat.le_of_ble_eq_true rfl⟩ (sl_252 e1 ⟨rfl, rfl⟩) rfl rfl (Nat.le_of_ble_eq_true rfl) (Nat.le_of_ble_eq_true rfl) ?_
  obtain rfl := Option.some.inj e
  obtain ⟨rfl, rfl⟩ := tg
  exact sh_Lk_ret (i := .ireturn) rfl rfl (sh_rb rfl _) (Nat.le_of_ble_eq_true rfl) (Nat.le_of_ble_eq_true rfl)
theorem sl_326_81 {x1 : Int32} {x2 : Int32} {x3 : Int32} {m m2 : sh_X} {o : Outcome} {z : ((Int32 × sh_X) ⊕ (Bool × sh_X))} (e : sf_326_81 x1 x2 x3 m = some z) (tg : (sh_el (fun q => sh_Lk 326 39 [(0, .ref 67), (1, .int x1), (2, .int x2), (3, .int q.1)] [] q.2 o m2 9 222) (sh_tZ o m2)) z) : sh_Lk 326 81 [(0, .ref 67), (1, .int x1), (2, .int x2), (3, .int x3)] [] m o m2 9 222 := by
  unfold sf_326_81 at e
  refine sh_Lk_lift (T := m.T) (I := m.I) (J := m.J) (s := m.s) (pc2 := 94) (lv2 := [(0, .ref 67), (1, .int x1), (2, .int x2), (3, .int x3)]) (st2 := [.int (m.I 66 91), .ref 67, .int (10 * (m.I 66 92)), .ref 67]) (I2 := m.I) (J2 := m.J) (fun hT v kk => ?_) ?_
  · refine sh_w (i := (.aload_n 0)) (len := 1) (pc2 := 82) (lv2 := [(0, .ref 67), (1, .int x1), (2, .int x2), (3, .int x3)]) (st2 := [.ref 67]) (h2 := (sh_rep m.T m.I m.J)) rfl rfl rfl ?_
    refine sh_w (i := (.bipush 10)) (len := 2) (pc2 := 84) (lv2 := [(0, .ref 67), (1, .int x1), (2, .int x2), (3, .int x3)]) (st2 := [.int 10, .ref 67]) (h2 := (sh_rep m.T m.I m.J)) rfl rfl rfl ?_
    refine sh_w (i := (.aload_n 0)) (len := 1) (pc2 := 85) (lv2 := [(0, .ref 67), (1, .int x1), (2, .int x2), (3, .int x3)]) (st2 := [.ref 67, .int 10, .ref 67]) (h2 := (sh_rep m.T m.I m.J)) rfl rfl rfl ?_
    refine sh_gI1 (len := 3) (x := m.I 66 92) (pc2 := 88) rfl rfl (sh_s66 hT.st) rfl rfl rfl ?_
    refine sh_w (i := .imul) (len := 1) (pc2 := 89) (lv2 := [(0, .ref 67), (1, .int x1), (2, .int x2), (3, .int x3)]) (st2 := [.int (10 * (m.I 66 92)), .ref 67]) (h2 := (sh_rep m.T m.I m.J)) rfl rfl rfl ?_
    refine sh_w (i := (.aload_n 0)) (len := 1) (pc2 := 90) (lv2 := [(0, .ref 67), (1, .int x1), (2, .int x2), (3, .int x3)]) (st2 := [.ref 67, .int (10 * (m.I 66 92)), .ref 67]) (h2 := (sh_rep m.T m.I m.J)) rfl rfl rfl ?_
    refine sh_w (i := (.aload_n 0)) (len := 1) (pc2 := 91) (lv2 := [(0, .ref 67), (1, .int x1), (2, .int x2), (3, .int x3)]) (st2 := [.ref 67, .ref 67, .int (10 * (m.I 66 92)), .ref 67]) (h2 := (sh_rep m.T m.I m.J)) rfl rfl rfl ?_
    refine sh_gI1 (len := 3) (x := m.I 66 91) (pc2 := 94) rfl rfl (sh_s66 hT.st) rfl rfl rfl ?_
    exact kk
  obtain ⟨r1, e1, e⟩ := sh_bc_e e
  refine sh_Lk_cV (r := (some (.int r1))) (st2 := [.int r1, .int (10 * (m.I 66 92)), .ref 67]) (pc2 := 97) (k2 := 249) (a := 66) (as := [.ref 67, .int (m.I 66 91)]) (rest := [.int (10 * (m.I 66 92)), .ref 67]) rfl rfl rfl (fun hT => (sh_s66 hT.st)) rfl rfl ⟨Nat.le_of_ble_eq_true rfl, Nat.le_of_ble_eq_true rfl⟩ (sl_249 e1 ⟨rfl, rfl⟩) rfl rfl (Nat.le_of_ble_eq_true rfl) (Nat.le_of_ble_eq_true rfl) ?_
  refine sh_Lk_lift (T := m.T) (I := m.I) (J := m.J) (s := m.s) (pc2 := 39) (lv2 := [(3, .int (x3 + 1)), (0, .ref 67), (1, .int x1), (2, .int x2)]) (st2 := []) (I2 := sh_u2 (sh_u2 m.I 66 92 (((10 * (m.I 66 92)) + r1) - 48)) 66 91 ((m.I 66 91) + 1)) (J2 := m.J) (fun hT v kk => ?_) ?_
  · refine sh_w (i := .iadd) (len := 1) (pc2 := 98) (lv2 := [(0, .ref 67), (1, .int x1), (2, .int x2), (3, .int x3)]) (st2 := [.int ((10 * (m.I 66 92)) + r1), .ref 67]) (h2 := (sh_rep m.T m.I m.J)) rfl rfl rfl ?_
    refine sh_w (i := (.bipush 48)) (len := 2) (pc2 := 100) (lv2 := [(0, .ref 67), (1, .int x1), (2, .int x2), (3, .int x3)]) (st2 := [.int 48, .int ((10 * (m.I 66 92)) + r1), .ref 67]) (h2 := (sh_rep m.T m.I m.J)) rfl rfl rfl ?_
    refine sh_w (i := .isub) (len := 1) (pc2 := 101) (lv2 := [(0, .ref 67), (1, .int x1), (2, .int x2), (3, .int x3)]) (st2 := [.int (((10 * (m.I 66 92)) + r1) - 48), .ref 67]) (h2 := (sh_rep m.T m.I m.J)) rfl rfl rfl ?_
    refine sh_pI1 (x := ((10 * (m.I 66 92)) + r1) - 48) (pc2 := 104) rfl rfl (sh_s66 hT.st) rfl rfl rfl rfl ?_
    refine sh_w (i := (.iinc 3 1)) (len := 3) (pc2 := 107) (lv2 := [(3, .int (x3 + 1)), (0, .ref 67), (1, .int x1), (2, .int x2)]) (st2 := []) (h2 := (sh_rep m.T (sh_u2 m.I 66 92 (((10 * (m.I 66 92)) + r1) - 48)) m.J)) rfl rfl rfl ?_
    refine sh_w (i := (.aload_n 0)) (len := 1) (pc2 := 108) (lv2 := [(3, .int (x3 + 1)), (0, .ref 67), (1, .int x1), (2, .int x2)]) (st2 := [.ref 67]) (h2 := (sh_rep m.T (sh_u2 m.I 66 92 (((10 * (m.I 66 92)) + r1) - 48)) m.J)) rfl rfl rfl ?_
    refine sh_w (i := .dup) (len := 1) (pc2 := 109) (lv2 := [(3, .int (x3 + 1)), (0, .ref 67), (1, .int x1), (2, .int x2)]) (st2 := [.ref 67, .ref 67]) (h2 := (sh_rep m.T (sh_u2 m.I 66 92 (((10 * (m.I 66 92)) + r1) - 48)) m.J)) rfl rfl rfl ?_
    refine sh_gI1 (len := 3) (x := m.I 66 91) (pc2 := 112) rfl rfl (sh_s66 hT.st) rfl rfl rfl ?_
    refine sh_w (i := (.iconst 1)) (len := 1) (pc2 := 113) (lv2 := [(3, .int (x3 + 1)), (0, .ref 67), (1, .int x1), (2, .int x2)]) (st2 := [.int 1, .int (m.I 66 91), .ref 67]) (h2 := (sh_rep m.T (sh_u2 m.I 66 92 (((10 * (m.I 66 92)) + r1) - 48)) m.J)) rfl rfl rfl ?_
    refine sh_w (i := .iadd) (len := 1) (pc2 := 114) (lv2 := [(3, .int (x3 + 1)), (0, .ref 67), (1, .int x1), (2, .int x2)]) (st2 := [.int ((m.I 66 91) + 1), .ref 67]) (h2 := (sh_rep m.T (sh_u2 m.I 66 92 (((10 * (m.I 66 92)) + r1) - 48)) m.J)) rfl rfl rfl ?_
    refine sh_pI1 (x := (m.I 66 91) + 1) (pc2 := 117) rfl rfl (sh_s66 hT.st) rfl rfl rfl rfl ?_
    refine sh_w (i := (.goto (-78))) (len := 3) (pc2 := 39) (lv2 := [(3, .int (x3 + 1)), (0, .ref 67), (1, .int x1), (2, .int x2)]) (st2 := []) (h2 := (sh_rep m.T (sh_u2 (sh_u2 m.I 66 92 (((10 * (m.I 66 92)) + r1) - 48)) 66 91 ((m.I 66 91) + 1)) m.J)) rfl rfl rfl ?_
    exact kk
  obtain rfl := Option.some.inj e
  exact sh_Lk_sub (sh_sub_c rfl (sh_sub_c rfl (sh_sub_c rfl (sh_sub_c rfl (sh_sub_n))))) tg
theorem sl_326_148 {m m2 : sh_X} {o : Outcome} {z : (Bool × sh_X)} (e : sf_326_148 m = some z) (tg : (sh_tZ o m2) z) : sh_Lk 326 148 [] [] m o m2 9 222 := by
  unfold sf_326_148 at e
  refine sh_Lk_lift (T := m.T) (I := m.I) (J := m.J) (s := m.s) (pc2 := 153) (lv2 := []) (st2 := [.int 1]) (I2 := m.I) (J2 := m.J) (fun hT v kk => ?_) ?_
  · refine sh_w (i := (.iconst 1)) (len := 1) (pc2 := 149) (lv2 := []) (st2 := [.int 1]) (h2 := (sh_rep m.T m.I m.J)) rfl rfl rfl ?_
    refine sh_w (i := (.goto 4)) (len := 3) (pc2 := 153) (lv2 := []) (st2 := [.int 1]) (h2 := (sh_rep m.T m.I m.J)) rfl rfl rfl ?_
    exact kk
  obtain rfl := Option.some.inj e
  obtain ⟨rfl, rfl⟩ := tg
  exact sh_Lk_ret (i := .ireturn) rfl rfl rfl (Nat.le_of_ble_eq_true rfl) (Nat.le_of_ble_eq_true rfl)
theorem sl_326_136 {m m2 : sh_X} {o : Outcome} {z : (Bool × sh_X)} (e : sf_326_136 m = some z) (tg : (sh_tZ o m2) z) : sh_Lk 326 136 [(0, .ref 67)] [] m o m2 9 222 := by
  unfold sf_326_136 at e
  refine sh_Lk_lift (T := m.T) (I := m.I) (J := m.J) (s := m.s) (pc2 := 142) (lv2 := [(0, .ref 67)]) (st2 := [.int (m.I 66 93), .int 2, .ref 67]) (I2 := m.I) (J2 := m.J) (fun hT v kk => ?_) ?_
  · refine sh_w (i := (.aload_n 0)) (len := 1) (pc2 := 137) (lv2 := [(0, .ref 67)]) (st2 := [.ref 67]) (h2 := (sh_rep m.T m.I m.J)) rfl rfl rfl ?_
    refine sh_w (i := (.iconst 2)) (len := 1) (pc2 := 138) (lv2 := [(0, .ref 67)]) (st2 := [.int 2, .ref 67]) (h2 := (sh_rep m.T m.I m.J)) rfl rfl rfl ?_
    refine sh_w (i := (.aload_n 0)) (len := 1) (pc2 := 139) (lv2 := [(0, .ref 67)]) (st2 := [.ref 67, .int 2, .ref 67]) (h2 := (sh_rep m.T m.I m.J)) rfl rfl rfl ?_
    refine sh_gI1 (len := 3) (x := m.I 66 93) (pc2 := 142) rfl rfl (sh_s66 hT.st) rfl rfl rfl ?_
    exact kk
  obtain ⟨r1, m11, e1, e⟩ := sh_bn_e e
  refine sh_Lk_cV (r := (some (.int (sh_b2 r1)))) (st2 := [.int (sh_b2 r1)]) (pc2 := 145) (k2 := 252) (a := 66) (as := [.ref 67, .int 2, .int (m.I 66 93)]) (rest := []) rfl rfl rfl (fun hT => (sh_s66 hT.st)) rfl rfl ⟨Nat.le_of_ble_eq_true rfl, Nat.le_of_ble_eq_true rfl⟩ (sl_252 e1 ⟨rfl, rfl⟩) rfl rfl (Nat.le_of_ble_eq_true rfl) (Nat.le_of_ble_eq_true rfl) ?_
  rcases sh_ite e with ⟨c, e⟩ | ⟨c, e⟩
  · refine sh_Lk_lift (T := m11.T) (I := m11.I) (J := m11.J) (s := m11.s) (pc2 := 148) (lv2 := [(0, .ref 67)]) (st2 := []) (I2 := m11.I) (J2 := m11.J) (fun hT v kk => ?_) ?_
    · refine sh_j0 (c := .eq) (off := (7)) (pc2 := 148) false rfl (sh_Zeqf c) rfl ?_
      exact kk
    exact sh_Lk_sub (sh_sub_n) (sl_326_148 e tg)
  · refine sh_Lk_lift (T := m11.T) (I := m11.I) (J := m11.J) (s := m11.s) (pc2 := 153) (lv2 := [(0, .ref 67)]) (st2 := [.int 0]) (I2 := m11.I) (J2 := m11.J) (fun hT v kk => ?_) ?_
    · refine sh_j0 (c := .eq) (off := (7)) (pc2 := 152) true rfl (sh_Zeqt c) rfl ?_
      refine sh_w (i := (.iconst 0)) (len := 1) (pc2 := 153) (lv2 := [(0, .ref 67)]) (st2 := [.int 0]) (h2 := (sh_rep m11.T m11.I m11.J)) rfl rfl rfl ?_
      exact kk
    obtain rfl := Option.some.inj e
    obtain ⟨rfl, rfl⟩ := tg
    exact sh_Lk_ret (i := .ireturn) rfl rfl rfl (Nat.le_of_ble_eq_true rfl) (Nat.le_of_ble_eq_true rfl)
theorem sl_326_39s {x1 : Int32} {x2 : Int32} {x3 : Int32} {m m2 : sh_X} {o : Outcome} {z : ((Int32 × sh_X) ⊕ (Bool × sh_X))} (e : sf_326_39s x1 x2 x3 m = some z) (tg : (sh_el (fun q => sh_Lk 326 39 [(0, .ref 67), (1, .int x1), (2, .int x2), (3, .int q.1)] [] q.2 o m2 9 222) (sh_tZ o m2)) z) : sh_Lk 326 39 [(0, .ref 67), (1, .int x1), (2, .int x2), (3, .int x3)] [] m o m2 9 222 := by
  unfold sf_326_39s at e
  refine sh_Lk_lift (T := m.T) (I := m.I) (J := m.J) (s := m.s) (pc2 := 44) (lv2 := [(0, .ref 67), (1, .int x1), (2, .int x2), (3, .int x3)]) (st2 := [.int (m.I 66 91), .ref 67]) (I2 := m.I) (J2 := m.J) (fun hT v kk => ?_) ?_
  · refine sh_w (i := (.aload_n 0)) (len := 1) (pc2 := 40) (lv2 := [(0, .ref 67), (1, .int x1), (2, .int x2), (3, .int x3)]) (st2 := [.ref 67]) (h2 := (sh_rep m.T m.I m.J)) rfl rfl rfl ?_
    refine sh_w (i := (.aload_n 0)) (len := 1) (pc2 := 41) (lv2 := [(0, .ref 67), (1, .int x1), (2, .int x2), (3, .int x3)]) (st2 := [.ref 67, .ref 67]) (h2 := (sh_rep m.T m.I m.J)) rfl rfl rfl ?_
    refine sh_gI1 (len := 3) (x := m.I 66 91) (pc2 := 44) rfl rfl (sh_s66 hT.st) rfl rfl rfl ?_
    exact kk
  obtain ⟨r1, e1, e⟩ := sh_bc_e e
  refine sh_Lk_cV (r := (some (.int r1))) (st2 := [.int r1]) (pc2 := 47) (k2 := 249) (a := 66) (as := [.ref 67, .int (m.I 66 91)]) (rest := []) rfl rfl rfl (fun hT => (sh_s66 hT.st)) rfl rfl ⟨Nat.le_of_ble_eq_true rfl, Nat.le_of_ble_eq_true rfl⟩ (sl_249 e1 ⟨rfl, rfl⟩) rfl rfl (Nat.le_of_ble_eq_true rfl) (Nat.le_of_ble_eq_true rfl) ?_
  refine sh_Lk_cS (r := (some (.int (sh_b2 (sf_251 r1))))) (st2 := [.int (sh_b2 (sf_251 r1))]) (pc2 := 50) (k2 := 251) (as := [.int r1]) (rest := []) rfl rfl (by decide) (Nat.le_of_ble_eq_true rfl) rfl rfl ⟨Nat.le_of_ble_eq_true rfl, Nat.le_of_ble_eq_true rfl⟩ (sl_251 (m := m) rfl ⟨rfl, rfl⟩) rfl rfl (Nat.le_of_ble_eq_true rfl) (Nat.le_of_ble_eq_true rfl) ?_
  rcases sh_ite e with ⟨c, e⟩ | ⟨c, e⟩
  · refine sh_Lk_lift (T := m.T) (I := m.I) (J := m.J) (s := m.s) (pc2 := 56) (lv2 := [(0, .ref 67), (1, .int x1), (2, .int x2), (3, .int x3)]) (st2 := [.int 9, .int x3]) (I2 := m.I) (J2 := m.J) (fun hT v kk => ?_) ?_
    · refine sh_j0 (c := .eq) (off := (70)) (pc2 := 53) false rfl (sh_Zeqf c) rfl ?_
      refine sh_w (i := (.iload_n 3)) (len := 1) (pc2 := 54) (lv2 := [(0, .ref 67), (1, .int x1), (2, .int x2), (3, .int x3)]) (st2 := [.int x3]) (h2 := (sh_rep m.T m.I m.J)) rfl rfl rfl ?_
      refine sh_w (i := (.bipush 9)) (len := 2) (pc2 := 56) (lv2 := [(0, .ref 67), (1, .int x1), (2, .int x2), (3, .int x3)]) (st2 := [.int 9, .int x3]) (h2 := (sh_rep m.T m.I m.J)) rfl rfl rfl ?_
      exact kk
    rcases sh_ite e with ⟨c, e⟩ | ⟨c, e⟩
    · refine sh_Lk_lift (T := m.T) (I := m.I) (J := m.J) (s := m.s) (pc2 := 71) (lv2 := [(0, .ref 67), (1, .int x1), (2, .int x2), (3, .int x3)]) (st2 := []) (I2 := m.I) (J2 := m.J) (fun hT v kk => ?_) ?_
      · refine sh_jc (c := .eq) (off := (15)) (pc2 := 71) true rfl (sh_Beqt c) rfl ?_
        exact kk
      obtain ⟨_, eu, rfl⟩ := sh_up_e e
      exact sh_Lk_sub (sh_sub_c rfl (sh_sub_n)) (sl_326_71 eu tg)
    · refine sh_Lk_lift (T := m.T) (I := m.I) (J := m.J) (s := m.s) (pc2 := 61) (lv2 := [(0, .ref 67), (1, .int x1), (2, .int x2), (3, .int x3)]) (st2 := [.int 1, .int x3]) (I2 := m.I) (J2 := m.J) (fun hT v kk => ?_) ?_
      · refine sh_jc (c := .eq) (off := (15)) (pc2 := 59) false rfl (sh_Beqf c) rfl ?_
        refine sh_w (i := (.iload_n 3)) (len := 1) (pc2 := 60) (lv2 := [(0, .ref 67), (1, .int x1), (2, .int x2), (3, .int x3)]) (st2 := [.int x3]) (h2 := (sh_rep m.T m.I m.J)) rfl rfl rfl ?_
        refine sh_w (i := (.iconst 1)) (len := 1) (pc2 := 61) (lv2 := [(0, .ref 67), (1, .int x1), (2, .int x2), (3, .int x3)]) (st2 := [.int 1, .int x3]) (h2 := (sh_rep m.T m.I m.J)) rfl rfl rfl ?_
        exact kk
      rcases sh_ite e with ⟨c, e⟩ | ⟨c, e⟩
      · refine sh_Lk_lift (T := m.T) (I := m.I) (J := m.J) (s := m.s) (pc2 := 68) (lv2 := [(0, .ref 67), (1, .int x1), (2, .int x2), (3, .int x3)]) (st2 := [.int (m.I 66 92)]) (I2 := m.I) (J2 := m.J) (fun hT v kk => ?_) ?_
        · refine sh_jc (c := .ne) (off := (20)) (pc2 := 64) false rfl (sh_Bnef c) rfl ?_
          refine sh_w (i := (.aload_n 0)) (len := 1) (pc2 := 65) (lv2 := [(0, .ref 67), (1, .int x1), (2, .int x2), (3, .int x3)]) (st2 := [.ref 67]) (h2 := (sh_rep m.T m.I m.J)) rfl rfl rfl ?_
          refine sh_gI1 (len := 3) (x := m.I 66 92) (pc2 := 68) rfl rfl (sh_s66 hT.st) rfl rfl rfl ?_
          exact kk
        rcases sh_ite e with ⟨c, e⟩ | ⟨c, e⟩
        · refine sh_Lk_lift (T := m.T) (I := m.I) (J := m.J) (s := m.s) (pc2 := 71) (lv2 := [(0, .ref 67), (1, .int x1), (2, .int x2), (3, .int x3)]) (st2 := []) (I2 := m.I) (J2 := m.J) (fun hT v kk => ?_) ?_
          · refine sh_j0 (c := .ne) (off := (13)) (pc2 := 71) false rfl (sh_Bnef c) rfl ?_
            exact kk
          obtain ⟨_, eu, rfl⟩ := sh_up_e e
          exact sh_Lk_sub (sh_sub_c rfl (sh_sub_n)) (sl_326_71 eu tg)
        · refine sh_Lk_lift (T := m.T) (I := m.I) (J := m.J) (s := m.s) (pc2 := 81) (lv2 := [(0, .ref 67), (1, .int x1), (2, .int x2), (3, .int x3)]) (st2 := []) (I2 := m.I) (J2 := m.J) (fun hT v kk => ?_) ?_
          · refine sh_j0 (c := .ne) (off := (13)) (pc2 := 81) true rfl (sh_Bnet c) rfl ?_
            exact kk
          exact sh_Lk_sub (sh_sub_c rfl (sh_sub_c rfl (sh_sub_c rfl (sh_sub_c rfl (sh_sub_n))))) (sl_326_81 e tg)
      · refine sh_Lk_lift (T := m.T) (I := m.I) (J := m.J) (s := m.s) (pc2 := 81) (lv2 := [(0, .ref 67), (1, .int x1), (2, .int x2), (3, .int x3)]) (st2 := []) (I2 := m.I) (J2 := m.J) (fun hT v kk => ?_) ?_
        · refine sh_jc (c := .ne) (off := (20)) (pc2 := 81) true rfl (sh_Bnet c) rfl ?_
          exact kk
        exact sh_Lk_sub (sh_sub_c rfl (sh_sub_c rfl (sh_sub_c rfl (sh_sub_c rfl (sh_sub_n))))) (sl_326_81 e tg)
  · refine sh_Lk_lift (T := m.T) (I := m.I) (J := m.J) (s := m.s) (pc2 := 125) (lv2 := [(0, .ref 67), (1, .int x1), (2, .int x2), (3, .int x3)]) (st2 := [.int x1, .int (m.I 66 92)]) (I2 := m.I) (J2 := m.J) (fun hT v kk => ?_) ?_
    · refine sh_j0 (c := .eq) (off := (70)) (pc2 := 120) true rfl (sh_Zeqt c) rfl ?_
      refine sh_w (i := (.aload_n 0)) (len := 1) (pc2 := 121) (lv2 := [(0, .ref 67), (1, .int x1), (2, .int x2), (3, .int x3)]) (st2 := [.ref 67]) (h2 := (sh_rep m.T m.I m.J)) rfl rfl rfl ?_
      refine sh_gI1 (len := 3) (x := m.I 66 92) (pc2 := 124) rfl rfl (sh_s66 hT.st) rfl rfl rfl ?_
      refine sh_w (i := (.iload_n 1)) (len := 1) (pc2 := 125) (lv2 := [(0, .ref 67), (1, .int x1), (2, .int x2), (3, .int x3)]) (st2 := [.int x1, .int (m.I 66 92)]) (h2 := (sh_rep m.T m.I m.J)) rfl rfl rfl ?_
      exact kk
    rcases sh_ite e with ⟨c, e⟩ | ⟨c, e⟩
    · refine sh_Lk_lift (T := m.T) (I := m.I) (J := m.J) (s := m.s) (pc2 := 136) (lv2 := [(0, .ref 67), (1, .int x1), (2, .int x2), (3, .int x3)]) (st2 := []) (I2 := m.I) (J2 := m.J) (fun hT v kk => ?_) ?_
      · refine sh_jc (c := .lt) (off := (11)) (pc2 := 136) true rfl (sh_Bltt c) rfl ?_
        exact kk
      obtain ⟨_, eu, rfl⟩ := sh_up_e e
      exact sh_Lk_sub (sh_sub_c rfl (sh_sub_n)) (sl_326_136 eu tg)
    · refine sh_Lk_lift (T := m.T) (I := m.I) (J := m.J) (s := m.s) (pc2 := 133) (lv2 := [(0, .ref 67), (1, .int x1), (2, .int x2), (3, .int x3)]) (st2 := [.int x2, .int (m.I 66 92)]) (I2 := m.I) (J2 := m.J) (fun hT v kk => ?_) ?_
      · refine sh_jc (c := .lt) (off := (11)) (pc2 := 128) false rfl (sh_Bltf c) rfl ?_
        refine sh_w (i := (.aload_n 0)) (len := 1) (pc2 := 129) (lv2 := [(0, .ref 67), (1, .int x1), (2, .int x2), (3, .int x3)]) (st2 := [.ref 67]) (h2 := (sh_rep m.T m.I m.J)) rfl rfl rfl ?_
        refine sh_gI1 (len := 3) (x := m.I 66 92) (pc2 := 132) rfl rfl (sh_s66 hT.st) rfl rfl rfl ?_
        refine sh_w (i := (.iload_n 2)) (len := 1) (pc2 := 133) (lv2 := [(0, .ref 67), (1, .int x1), (2, .int x2), (3, .int x3)]) (st2 := [.int x2, .int (m.I 66 92)]) (h2 := (sh_rep m.T m.I m.J)) rfl rfl rfl ?_
        exact kk
      rcases sh_ite e with ⟨c, e⟩ | ⟨c, e⟩
      · refine sh_Lk_lift (T := m.T) (I := m.I) (J := m.J) (s := m.s) (pc2 := 136) (lv2 := [(0, .ref 67), (1, .int x1), (2, .int x2), (3, .int x3)]) (st2 := []) (I2 := m.I) (J2 := m.J) (fun hT v kk => ?_) ?_
        · refine sh_jc (c := .le) (off := (15)) (pc2 := 136) false rfl (sh_Blef c) rfl ?_
          exact kk
        obtain ⟨_, eu, rfl⟩ := sh_up_e e
        exact sh_Lk_sub (sh_sub_c rfl (sh_sub_n)) (sl_326_136 eu tg)
      · refine sh_Lk_lift (T := m.T) (I := m.I) (J := m.J) (s := m.s) (pc2 := 148) (lv2 := [(0, .ref 67), (1, .int x1), (2, .int x2), (3, .int x3)]) (st2 := []) (I2 := m.I) (J2 := m.J) (fun hT v kk => ?_) ?_
        · refine sh_jc (c := .le) (off := (15)) (pc2 := 148) true rfl (sh_Blet c) rfl ?_
          exact kk
        obtain ⟨_, eu, rfl⟩ := sh_up_e e
        exact sh_Lk_sub (sh_sub_n) (sl_326_148 eu tg)
theorem sl_326_39 {x1 : Int32} {x2 : Int32} {x3 : Int32} {m m2 : sh_X} {o : Outcome} {z : (Bool × sh_X)} (e : sf_326_39 x1 x2 x3 m = some z) (tg : (sh_tZ o m2) z) : sh_Lk 326 39 [(0, .ref 67), (1, .int x1), (2, .int x2), (3, .int x3)] [] m o m2 9 222 := by
  unfold sf_326_39 at e
  exact sh_while_lk (P := fun q => sh_Lk 326 39 [(0, .ref 67), (1, .int x1), (2, .int x2), (3, .int q.1)] [] q.2 o m2 9 222) (Q := (sh_tZ o m2)) (fun q z e tg => sl_326_39s (x1 := x1) (x2 := x2) (x3 := q.1) (m := q.2) e tg) (s := (x3, m)) e tg
theorem sl_326 {x1 : Int32} {x2 : Int32} {m m2 : sh_X} {o : Outcome} {z : (Bool × sh_X)} (e : sf_326 x1 x2 m = some z) (tg : (sh_tZ o m2) z) : sh_Lk 326 0 [(0, .ref 67), (1, .int x1), (2, .int x2)] [] m o m2 9 222 := by
  unfold sf_326 at e
  refine sh_Lk_lift (T := m.T) (I := m.I) (J := m.J) (s := m.s) (pc2 := 18) (lv2 := [(0, .ref 67), (1, .int x1), (2, .int x2)]) (st2 := [.int (m.I 66 91), .ref 67]) (I2 := sh_u2 (sh_u2 m.I 66 93 (m.I 66 91)) 66 92 0) (J2 := m.J) (fun hT v kk => ?_) ?_
  · refine sh_w (i := (.aload_n 0)) (len := 1) (pc2 := 1) (lv2 := [(0, .ref 67), (1, .int x1), (2, .int x2)]) (st2 := [.ref 67]) (h2 := (sh_rep m.T m.I m.J)) rfl rfl rfl ?_
    refine sh_w (i := (.aload_n 0)) (len := 1) (pc2 := 2) (lv2 := [(0, .ref 67), (1, .int x1), (2, .int x2)]) (st2 := [.ref 67, .ref 67]) (h2 := (sh_rep m.T m.I m.J)) rfl rfl rfl ?_
    refine sh_gI1 (len := 3) (x := m.I 66 91) (pc2 := 5) rfl rfl (sh_s66 hT.st) rfl rfl rfl ?_
    refine sh_pI1 (x := m.I 66 91) (pc2 := 8) rfl rfl (sh_s66 hT.st) rfl rfl rfl rfl ?_
    refine sh_w (i := (.aload_n 0)) (len := 1) (pc2 := 9) (lv2 := [(0, .ref 67), (1, .int x1), (2, .int x2)]) (st2 := [.ref 67]) (h2 := (sh_rep m.T (sh_u2 m.I 66 93 (m.I 66 91)) m.J)) rfl rfl rfl ?_
    refine sh_w (i := (.iconst 0)) (len := 1) (pc2 := 10) (lv2 := [(0, .ref 67), (1, .int x1), (2, .int x2)]) (st2 := [.int 0, .ref 67]) (h2 := (sh_rep m.T (sh_u2 m.I 66 93 (m.I 66 91)) m.J)) rfl rfl rfl ?_
    refine sh_pI1 (x := 0) (pc2 := 13) rfl rfl (sh_s66 hT.st) rfl rfl rfl rfl ?_
    refine sh_w (i := (.aload_n 0)) (len := 1) (pc2 := 14) (lv2 := [(0, .ref 67), (1, .int x1), (2, .int x2)]) (st2 := [.ref 67]) (h2 := (sh_rep m.T (sh_u2 (sh_u2 m.I 66 93 (m.I 66 91)) 66 92 0) m.J)) rfl rfl rfl ?_
    refine sh_w (i := (.aload_n 0)) (len := 1) (pc2 := 15) (lv2 := [(0, .ref 67), (1, .int x1), (2, .int x2)]) (st2 := [.ref 67, .ref 67]) (h2 := (sh_rep m.T (sh_u2 (sh_u2 m.I 66 93 (m.I 66 91)) 66 92 0) m.J)) rfl rfl rfl ?_
    refine sh_gI1 (len := 3) (x := m.I 66 91) (pc2 := 18) rfl rfl (sh_s66 hT.st) rfl rfl rfl ?_
    exact kk
  obtain ⟨r1, e1, e⟩ := sh_bc_e e
  refine sh_Lk_cV (r := (some (.int r1))) (st2 := [.int r1]) (pc2 := 21) (k2 := 249) (a := 66) (as := [.ref 67, .int (m.I 66 91)]) (rest := []) rfl rfl rfl (fun hT => (sh_s66 hT.st)) rfl rfl ⟨Nat.le_of_ble_eq_true rfl, Nat.le_of_ble_eq_true rfl⟩ (sl_249 e1 ⟨rfl, rfl⟩) rfl rfl (Nat.le_of_ble_eq_true rfl) (Nat.le_of_ble_eq_true rfl) ?_
  refine sh_Lk_cS (r := (some (.int (sh_b2 (sf_251 r1))))) (st2 := [.int (sh_b2 (sf_251 r1))]) (pc2 := 24) (k2 := 251) (as := [.int r1]) (rest := []) rfl rfl (by decide) (Nat.le_of_ble_eq_true rfl) rfl rfl ⟨Nat.le_of_ble_eq_true rfl, Nat.le_of_ble_eq_true rfl⟩ (sl_251 (m := ⟨m.T, sh_u2 (sh_u2 m.I 66 93 (m.I 66 91)) 66 92 0, m.J, m.s⟩) rfl ⟨rfl, rfl⟩) rfl rfl (Nat.le_of_ble_eq_true rfl) (Nat.le_of_ble_eq_true rfl) ?_
  rcases sh_ite e with ⟨c, e⟩ | ⟨c, e⟩
  · refine sh_Lk_lift (T := m.T) (I := sh_u2 (sh_u2 m.I 66 93 (m.I 66 91)) 66 92 0) (J := m.J) (s := m.s) (pc2 := 39) (lv2 := [(3, .int 0), (0, .ref 67), (1, .int x1), (2, .int x2)]) (st2 := []) (I2 := sh_u2 (sh_u2 m.I 66 93 (m.I 66 91)) 66 92 0) (J2 := m.J) (fun hT v kk => ?_) ?_
    · refine sh_j0 (c := .ne) (off := (13)) (pc2 := 37) true rfl (sh_Znet c) rfl ?_
      refine sh_w (i := (.iconst 0)) (len := 1) (pc2 := 38) (lv2 := [(0, .ref 67), (1, .int x1), (2, .int x2)]) (st2 := [.int 0]) (h2 := (sh_rep m.T (sh_u2 (sh_u2 m.I 66 93 (m.I 66 91)) 66 92 0) m.J)) rfl rfl rfl ?_
      refine sh_w (i := (.istore_n 3)) (len := 1) (pc2 := 39) (lv2 := [(3, .int 0), (0, .ref 67), (1, .int x1), (2, .int x2)]) (st2 := []) (h2 := (sh_rep m.T (sh_u2 (sh_u2 m.I 66 93 (m.I 66 91)) 66 92 0) m.J)) rfl rfl rfl ?_
      exact kk
    exact sh_Lk_sub (sh_sub_c rfl (sh_sub_c rfl (sh_sub_c rfl (sh_sub_c rfl (sh_sub_n))))) (sl_326_39 e tg)
  · refine sh_Lk_lift (T := m.T) (I := sh_u2 (sh_u2 m.I 66 93 (m.I 66 91)) 66 92 0) (J := m.J) (s := m.s) (pc2 := 33) (lv2 := [(0, .ref 67), (1, .int x1), (2, .int x2)]) (st2 := [.int (m.I 66 91), .int 2, .ref 67]) (I2 := sh_u2 (sh_u2 m.I 66 93 (m.I 66 91)) 66 92 0) (J2 := m.J) (fun hT v kk => ?_) ?_
    · refine sh_j0 (c := .ne) (off := (13)) (pc2 := 27) false rfl (sh_Znef c) rfl ?_
      refine sh_w (i := (.aload_n 0)) (len := 1) (pc2 := 28) (lv2 := [(0, .ref 67), (1, .int x1), (2, .int x2)]) (st2 := [.ref 67]) (h2 := (sh_rep m.T (sh_u2 (sh_u2 m.I 66 93 (m.I 66 91)) 66 92 0) m.J)) rfl rfl rfl ?_
      refine sh_w (i := (.iconst 2)) (len := 1) (pc2 := 29) (lv2 := [(0, .ref 67), (1, .int x1), (2, .int x2)]) (st2 := [.int 2, .ref 67]) (h2 := (sh_rep m.T (sh_u2 (sh_u2 m.I 66 93 (m.I 66 91)) 66 92 0) m.J)) rfl rfl rfl ?_
      refine sh_w (i := (.aload_n 0)) (len := 1) (pc2 := 30) (lv2 := [(0, .ref 67), (1, .int x1), (2, .int x2)]) (st2 := [.ref 67, .int 2, .ref 67]) (h2 := (sh_rep m.T (sh_u2 (sh_u2 m.I 66 93 (m.I 66 91)) 66 92 0) m.J)) rfl rfl rfl ?_
      refine sh_gI1 (len := 3) (x := m.I 66 91) (pc2 := 33) rfl rfl (sh_s66 hT.st) rfl rfl rfl ?_
      exact kk
    obtain ⟨r3, m13, e3, e⟩ := sh_bn_e e
    refine sh_Lk_cV (r := (some (.int (sh_b2 r3)))) (st2 := [.int (sh_b2 r3)]) (pc2 := 36) (k2 := 252) (a := 66) (as := [.ref 67, .int 2, .int (m.I 66 91)]) (rest := []) rfl rfl rfl (fun hT => (sh_s66 hT.st)) rfl rfl ⟨Nat.le_of_ble_eq_true rfl, Nat.le_of_ble_eq_true rfl⟩ (sl_252 e3 ⟨rfl, rfl⟩) rfl rfl (Nat.le_of_ble_eq_true rfl) (Nat.le_of_ble_eq_true rfl) ?_
    obtain rfl := Option.some.inj e
    obtain ⟨rfl, rfl⟩ := tg
    exact sh_Lk_ret (i := .ireturn) rfl rfl (sh_rb rfl _) (Nat.le_of_ble_eq_true rfl) (Nat.le_of_ble_eq_true rfl)
