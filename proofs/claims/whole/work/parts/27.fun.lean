/-! THE FUNCTIONS of all methods, printed by gen27.py -/
noncomputable def sf_14_3s (x1 : Int32) (x2 : Int32) (m : sh_X) : Option ((Int32 × sh_X) ⊕ (Unit × sh_X)) :=
  if x2 < 0 then
    some (.inr (((), m)))
  else
    if (m.I 0 10) < 4000 then
      if sh_okb (m.I 0 10) 4000 = true then
        some (.inl (x2 + (-8), ⟨m.T, sh_u2 (sh_u2 m.I 1 (Int32.toNatClampNeg (m.I 0 10)) (vp_nar .byte ((Int32.toInt8 ((x1.toUInt32 >>> (Int32.toUInt32 x2 &&& Int32.toUInt32 31)).toInt32)).toInt32))) 0 10 ((m.I 0 10) + 1), m.J, m.s⟩))
      else none
    else
      some (.inr (((), m)))
noncomputable def sf_14_3 (x1 : Int32) (x2 : Int32) (m : sh_X) : Option (Unit × sh_X) := sh_while (fun q => sf_14_3s x1 q.1 q.2) (x2, m)
noncomputable def sf_14 (x1 : Int32) (m : sh_X) : Option (Unit × sh_X) :=
  sf_14_3 x1 24 m
noncomputable def sf_13 (x1 : Int32) (x2 : Int32) (x3 : Int32) (x4 : Int32) (x5 : Int32) (m : sh_X) : Option (Bool × sh_X) :=
  if 3980 < (m.I 0 10) then
    some ((false, m))
  else
    sh_bn (sf_14 x1 m) fun _ m11 =>
    sh_bn (sf_14 x2 m11) fun _ m12 =>
    sh_bn (sf_14 x3 m12) fun _ m13 =>
    sh_bn (sf_14 x4 m13) fun _ m14 =>
    sh_bn (sf_14 x5 m14) fun _ m15 =>
    some ((true, m15))
noncomputable def sf_15 (x1 : Int32) (m : sh_X) : Option (Bool × sh_X) :=
  if x1 < 0 then
    some ((false, m))
  else
    if (m.I 0 10) < x1 then
      some ((false, m))
    else
      some ((true, ⟨m.T, sh_u2 m.I 0 10 x1, m.J, m.s⟩))
noncomputable def sf_21 (x0 : Int32) (x1 : Int32) : Int32 :=
  if x1 < x0 then
    x1
  else
    x0
noncomputable def sf_18 (m : sh_X) : Option (Unit × sh_X) :=
  sh_bn (sf_19 0 0 0 ⟨m.T, sh_u2 m.I 9 3 0, m.J, m.s⟩) fun r1 m11 =>
  sh_bn (sf_19 0 0 0 m11) fun r2 m12 =>
  some (((), m12))
noncomputable def sf_23 (x0 : Nat) (m : sh_X) : Option (Unit × sh_X) :=
  some (((), ⟨m.T, sh_u2 (sh_u2 m.I x0 4 0) x0 5 0, m.J, m.s⟩))
noncomputable def sf_17 (m : sh_X) : Option (Unit × sh_X) :=
  sh_bn (sf_18 ⟨m.T, sh_u2 (sh_u2 (sh_u2 (sh_u2 m.I 0 11 ((m.I 0 11) + 1)) 0 13 0) 0 14 0) 0 12 (-1), m.J, m.s⟩) fun _ m11 =>
  sh_bn (sf_23 13 m11) fun _ m12 =>
  sh_bn (sf_23 18 m12) fun _ m13 =>
  sh_bn (sf_23 23 m13) fun _ m14 =>
  some (((), m14))
noncomputable def sf_26 (x1 : Int32) (m : sh_X) : Option Int32 :=
  if x1 < 0 then
    some ((-1))
  else
    if x1 < (m.I 2 6) then
      if x1 < (Int32.ofNat (sh_ln m.T (sh_rf m.T 2 5))) then
        if sh_okb x1 (sh_ln m.T (sh_rf m.T 2 5)) = true then
          some ((m.I (sh_rf m.T 2 5) (Int32.toNatClampNeg x1)) &&& 255)
        else none
      else
        some ((-1))
    else
      some ((-1))
noncomputable def sf_27_2s (x2 : Int32) (m : sh_X) : Option (Int32 ⊕ Int32) :=
  if x2 < (m.I 2 6) then
    sh_bc (sf_26 x2 m) fun r1 =>
    if r1 = 10 then
      some (.inr (x2))
    else
      some (.inl (x2 + 1))
  else
    some (.inr (x2))
noncomputable def sf_27_2 (x2 : Int32) (m : sh_X) : Option Int32 := sh_while (fun q => sf_27_2s q m) x2
noncomputable def sf_27 (x1 : Int32) (m : sh_X) : Option Int32 :=
  sf_27_2 x1 m
noncomputable def sf_28_24 : Bool :=
  true
noncomputable def sf_28_12 (x0 : Int32) : Bool :=
  if x0 < 65 then
    false
  else
    if 90 < x0 then
      false
    else
      sf_28_24 
noncomputable def sf_28 (x0 : Int32) : Bool :=
  if x0 < 97 then
    sf_28_12 x0
  else
    if 122 < x0 then
      sf_28_12 x0
    else
      sf_28_24 
noncomputable def sf_31 (x0 : Int32) : Bool :=
  if x0 < 48 then
    false
  else
    if 57 < x0 then
      false
    else
      true
noncomputable def sf_30_20 : Bool :=
  true
noncomputable def sf_30 (x0 : Int32) : Bool :=
  if (sf_28 x0) = true then
    sf_30_20 
  else
    if (sf_31 x0) = true then
      sf_30_20 
    else
      if x0 = 95 then
        sf_30_20 
      else
        false
noncomputable def sf_32 (x1 : Int32) (x2 : Int32) (m : sh_X) : Option (Option Unit × sh_X) :=
  if m.T.length < 1000000 then some ((none, ⟨m.T ++ [.inr (13, [])], sh_u2 (sh_u2 m.I 2 9 x1) 2 10 x2, m.J, m.s + 6⟩)) else none
noncomputable def sf_33_167 (x3 : Int32) (x4 : Int32) (m : sh_X) : Option Int32 :=
  if x3 = 105 then
    some (128 + x4)
  else
    some (x4)
noncomputable def sf_33_99s (x1 : Int32) (x2 : Int32) (x3 : Int32) (x4 : Int32) (x5 : Int32) (m : sh_X) : Option ((Int32 × Int32) ⊕ Int32) :=
  if x5 < x2 then
    sh_bc (sf_26 (x1 + x5) m) fun r1 =>
    if (sf_31 r1) = true then
      sh_bc (sf_26 (x1 + x5) m) fun r3 =>
      some (.inl (((10 * x4) + r3) - 48, x5 + 1))
    else
      some (.inr (0))
  else
    if 64 < x4 then
      some (.inr (0))
    else
      if x3 = 105 then
        if x4 < 2 then
          some (.inr (0))
        else
          sh_up (sf_33_167 x3 x4 m)
      else
        sh_up (sf_33_167 x3 x4 m)
noncomputable def sf_33_99 (x1 : Int32) (x2 : Int32) (x3 : Int32) (x4 : Int32) (x5 : Int32) (m : sh_X) : Option Int32 := sh_while (fun q => sf_33_99s x1 x2 x3 q.1 q.2 m) (x4, x5)
noncomputable def sf_33_69 (x1 : Int32) (x2 : Int32) (x3 : Int32) (m : sh_X) : Option Int32 :=
  if x2 < 2 then
    some (0)
  else
    if 3 < x2 then
      some (0)
    else
      sh_bc (sf_26 (x1 + 1) m) fun r1 =>
      if r1 = 48 then
        some (0)
      else
        sf_33_99 x1 x2 x3 0 1 m
noncomputable def sf_33_57 (x1 : Int32) (x2 : Int32) (x3 : Int32) (m : sh_X) : Option Int32 :=
  if x3 = 117 then
    sf_33_69 x1 x2 x3 m
  else
    if x3 = 105 then
      sf_33_69 x1 x2 x3 m
    else
      some (0)
noncomputable def sf_33 (x1 : Int32) (x2 : Int32) (m : sh_X) : Option Int32 :=
  sh_bc (sf_26 x1 m) fun r1 =>
  if x2 = 4 then
    if r1 = 98 then
      sh_bc (sf_26 (x1 + 1) m) fun r2 =>
      if r2 = 111 then
        sh_bc (sf_26 (x1 + 2) m) fun r3 =>
        if r3 = 111 then
          sh_bc (sf_26 (x1 + 3) m) fun r4 =>
          if r4 = 108 then
            some (257)
          else
            sf_33_57 x1 x2 r1 m
        else
          sf_33_57 x1 x2 r1 m
      else
        sf_33_57 x1 x2 r1 m
    else
      sf_33_57 x1 x2 r1 m
  else
    sf_33_57 x1 x2 r1 m
noncomputable def sf_35_3s (x1 : Int32) (x2 : Int32) (x3 : Int32) (x4 : Int32) (m : sh_X) : Option (Int32 ⊕ Bool) :=
  if x4 < x3 then
    if (x1 + x4) < (sh_txl 0) then
      if sh_okb (x1 + x4) (sh_txn 0) = true then
        sh_bc (sf_26 (x2 + x4) m) fun r1 =>
        if (sh_txc 0 (x1 + x4)) = r1 then
          some (.inl (x4 + 1))
        else
          some (.inr (false))
      else none
    else
      some (.inr (true))
  else
    some (.inr (true))
noncomputable def sf_35_3 (x1 : Int32) (x2 : Int32) (x3 : Int32) (x4 : Int32) (m : sh_X) : Option Bool := sh_while (fun q => sf_35_3s x1 x2 x3 q m) x4
noncomputable def sf_35 (x1 : Int32) (x2 : Int32) (x3 : Int32) (m : sh_X) : Option Bool :=
  sf_35_3 x1 x2 x3 0 m
noncomputable def sf_34_61 (x1 : Int32) (x2 : Int32) (x3 : Int32) (x4 : Int32) (x5 : Int32) (m : sh_X) : Option ((Int32 × Int32 × Int32) ⊕ Int32) :=
  some (.inl (x3, x4, x5 + 1))
noncomputable def sf_34_52 (x1 : Int32) (x2 : Int32) (x3 : Int32) (x5 : Int32) (m : sh_X) : Option ((Int32 × Int32 × Int32) ⊕ Int32) :=
  sf_34_61 x1 x2 (x3 + 1) (x5 + 1) x5 m
noncomputable def sf_34_8s (x1 : Int32) (x2 : Int32) (x3 : Int32) (x4 : Int32) (x5 : Int32) (m : sh_X) : Option ((Int32 × Int32 × Int32) ⊕ Int32) :=
  if x5 < (sh_txl 0) then
    if sh_okb x5 (sh_txn 0) = true then
      if (sh_txc 0 x5) = 32 then
        if (x5 - x4) = x2 then
          sh_bc (sf_35 x4 x1 x2 m) fun r1 =>
          if r1 = true then
            some (.inr (x3))
          else
            sf_34_52 x1 x2 x3 x5 m
        else
          sf_34_52 x1 x2 x3 x5 m
      else
        sf_34_61 x1 x2 x3 x4 x5 m
    else none
  else
    some (.inr (1))
noncomputable def sf_34_8 (x1 : Int32) (x2 : Int32) (x3 : Int32) (x4 : Int32) (x5 : Int32) (m : sh_X) : Option Int32 := sh_while (fun q => sf_34_8s x1 x2 q.1 q.2.1 q.2.2 m) (x3, x4, x5)
noncomputable def sf_34 (x1 : Int32) (x2 : Int32) (m : sh_X) : Option Int32 :=
  sf_34_8 x1 x2 4 0 0 m
noncomputable def sf_37_3s (x1 : Int32) (x2 : Int32) (x3 : Int32) (x4 : Int32) (m : sh_X) : Option (Int32 ⊕ Bool) :=
  if x4 < x3 then
    sh_bc (sf_26 (x1 + x4) m) fun r1 =>
    sh_bc (sf_26 (x2 + x4) m) fun r2 =>
    if r1 = r2 then
      some (.inl (x4 + 1))
    else
      some (.inr (false))
  else
    some (.inr (true))
noncomputable def sf_37_3 (x1 : Int32) (x2 : Int32) (x3 : Int32) (x4 : Int32) (m : sh_X) : Option Bool := sh_while (fun q => sf_37_3s x1 x2 x3 q m) x4
noncomputable def sf_37 (x1 : Int32) (x2 : Int32) (x3 : Int32) (m : sh_X) : Option Bool :=
  sf_37_3 x1 x2 x3 0 m
noncomputable def sf_36_37 (x1 : Int32) (x2 : Int32) (x3 : Int32) (m : sh_X) : Option ((Int32 × sh_X) ⊕ (Int32 × sh_X)) :=
  some (.inl (x3 + 1, m))
noncomputable def sf_36_83 (m : sh_X) : Option (Int32 × sh_X) :=
  some (((m.I 2 8) - 1, m))
noncomputable def sf_36_2s (x1 : Int32) (x2 : Int32) (x3 : Int32) (m : sh_X) : Option ((Int32 × sh_X) ⊕ (Int32 × sh_X)) :=
  if x3 < (m.I 2 8) then
    if sh_okb x3 2001 = true then
      if (m.I 7 (Int32.toNatClampNeg x3)) = x2 then
        if sh_okb x3 2001 = true then
          sh_bc (sf_37 (m.I 6 (Int32.toNatClampNeg x3)) x1 x2 m) fun r1 =>
          if r1 = true then
            some (.inr ((x3, m)))
          else
            sf_36_37 x1 x2 x3 m
        else none
      else
        sf_36_37 x1 x2 x3 m
    else none
  else
    if (m.I 2 8) < 2001 then
      if sh_okb (m.I 2 8) 2001 = true then
        if sh_okb (m.I 2 8) 2001 = true then
          sh_up (sf_36_83  ⟨m.T, sh_u2 (sh_u2 (sh_u2 m.I 6 (Int32.toNatClampNeg (m.I 2 8)) x1) 7 (Int32.toNatClampNeg (m.I 2 8)) x2) 2 8 ((m.I 2 8) + 1), m.J, m.s⟩)
        else none
      else none
    else
      sh_up (sf_36_83  m)
noncomputable def sf_36_2 (x1 : Int32) (x2 : Int32) (x3 : Int32) (m : sh_X) : Option (Int32 × sh_X) := sh_while (fun q => sf_36_2s x1 x2 q.1 q.2) (x3, m)
noncomputable def sf_36 (x1 : Int32) (x2 : Int32) (m : sh_X) : Option (Int32 × sh_X) :=
  sf_36_2 x1 x2 0 m
noncomputable def sf_38 (x1 : Int32) (x2 : Int32) (x3 : Int64) (m : sh_X) : Option (Unit × sh_X) :=
  if (m.I 2 7) < 4001 then
    if sh_okb (m.I 2 7) 4001 = true then
      if sh_okb (m.I 2 7) 4001 = true then
        if sh_okb (m.I 2 7) 4001 = true then
          some (((), ⟨m.T, sh_u2 (sh_u2 (sh_u2 m.I 3 (Int32.toNatClampNeg (m.I 2 7)) x1) 4 (Int32.toNatClampNeg (m.I 2 7)) x2) 2 7 ((m.I 2 7) + 1), sh_u2 m.J 5 (Int32.toNatClampNeg (m.I 2 7)) x3, m.s⟩))
        else none
      else none
    else none
  else
    some (((), m))
noncomputable def sf_29_92 (x2 : Int32) (y1 : Int32) (y2 : Int32) (y3 : Int64) (m : sh_X) : Option (Option Int32 × sh_X) :=
  sh_bn (sf_38 y1 y2 y3 m) fun _ m11 =>
  some ((some x2, m11))
noncomputable def sf_29_66 (x1 : Int32) (x2 : Int32) (x3 : Int32) (y0 : Int32) (m : sh_X) : Option (Option Int32 × sh_X) :=
  if y0 = 1 then
    sh_bn (sf_36 x1 (x2 - x1) m) fun r1 m11 =>
    sf_29_92 x2 y0 x1 (Int32.toInt64 r1) m11
  else
    sf_29_92 x2 y0 x1 (Int32.toInt64 x3) m
noncomputable def sf_29_41 (x1 : Int32) (x2 : Int32) (m : sh_X) : Option (Option Int32 × sh_X) :=
  sh_bc (sf_33 x1 (x2 - x1) m) fun r1 =>
  if r1 = 0 then
    sh_bc (sf_34 x1 (x2 - x1) m) fun r2 =>
    sf_29_66 x1 x2 r1 r2 m
  else
    sf_29_66 x1 x2 r1 3 m
noncomputable def sf_29_27 (x1 : Int32) (x2 : Int32) (m : sh_X) : Option (Option Int32 × sh_X) :=
  if 12 < (x2 - x1) then
    sh_bt (sf_32 1 x1 m) (fun m => (none, m)) fun _ m11 =>
    sf_29_41 x1 x2 m11
  else
    sf_29_41 x1 x2 m
noncomputable def sf_29_2s (x1 : Int32) (x2 : Int32) (m : sh_X) : Option ((Int32 × sh_X) ⊕ (Option Int32 × sh_X)) :=
  if x2 < (m.I 2 6) then
    sh_bc (sf_26 x2 m) fun r1 =>
    if (sf_30 r1) = true then
      some (.inl (x2 + 1, m))
    else
      sh_up (sf_29_27 x1 x2 m)
  else
    sh_up (sf_29_27 x1 x2 m)
noncomputable def sf_29_2 (x1 : Int32) (x2 : Int32) (m : sh_X) : Option (Option Int32 × sh_X) := sh_while (fun q => sf_29_2s x1 q.1 q.2) (x2, m)
noncomputable def sf_29 (x1 : Int32) (m : sh_X) : Option (Option Int32 × sh_X) :=
  sf_29_2 x1 x1 m
noncomputable def sf_39_60 (x1 : Int32) (x2 : Int32) (x3 : Int64) (m : sh_X) : Option (Option Int32 × sh_X) :=
  sh_bn (sf_38 2 x1 x3 m) fun _ m11 =>
  some ((some x2, m11))
noncomputable def sf_39_46 (x1 : Int32) (x2 : Int32) (x3 : Int64) (m : sh_X) : Option (Option Int32 × sh_X) :=
  if 18 < (x2 - x1) then
    sh_bt (sf_32 1 x1 m) (fun m => (none, m)) fun _ m11 =>
    sf_39_60 x1 x2 x3 m11
  else
    sf_39_60 x1 x2 x3 m
noncomputable def sf_39_4s (x1 : Int32) (x2 : Int32) (x3 : Int64) (m : sh_X) : Option ((Int32 × Int64 × sh_X) ⊕ (Option Int32 × sh_X)) :=
  if x2 < (m.I 2 6) then
    sh_bc (sf_26 x2 m) fun r1 =>
    if (sf_31 r1) = true then
      sh_bc (sf_26 x2 m) fun r3 =>
      some (.inl (x2 + 1, (((10 : Int64) * x3) + (Int32.toInt64 r3)) - (48 : Int64), m))
    else
      sh_up (sf_39_46 x1 x2 x3 m)
  else
    sh_up (sf_39_46 x1 x2 x3 m)
noncomputable def sf_39_4 (x1 : Int32) (x2 : Int32) (x3 : Int64) (m : sh_X) : Option (Option Int32 × sh_X) := sh_while (fun q => sf_39_4s x1 q.1 q.2.1 q.2.2) (x2, x3, m)
noncomputable def sf_39 (x1 : Int32) (m : sh_X) : Option (Option Int32 × sh_X) :=
  sf_39_4 x1 x1 0 m
noncomputable def sf_41 (x0 : Int32) : Bool :=
  if x0 = 8509 ∨ x0 = 9766 ∨ x0 = 11822 ∨ x0 = 15420 ∨ x0 = 15421 ∨ x0 = 15677 ∨ x0 = 15933 ∨ x0 = 15934 ∨ x0 = 31868 then
    true
  else
    false
noncomputable def sf_40_48 (x1 : Int32) (x2 : Int32) (m : sh_X) : Option (Option Int32 × sh_X) :=
  sh_bn (sf_38 x2 x1 0 m) fun _ m11 =>
  some ((some (x1 + 1), m11))
noncomputable def sf_40 (x1 : Int32) (x2 : Int32) (m : sh_X) : Option (Option Int32 × sh_X) :=
  sh_bc (sf_26 (x1 + 1) m) fun r1 =>
  if (sf_41 ((x2 * 256) + r1)) = true then
    sh_bn (sf_38 ((x2 * 256) + r1) x1 0 m) fun _ m13 =>
    some ((some (x1 + 2), m13))
  else
    if (sh_txi 1 ((Int32.toUInt32 x2 % 65536).toInt32)) < 0 then
      sh_bt (sf_32 1 x1 m) (fun m => (none, m)) fun _ m14 =>
      sf_40_48 x1 x2 m14
    else
      sf_40_48 x1 x2 m
noncomputable def sf_25_30 (x1 : Int32) (m : sh_X) : Option (Option Int32 × sh_X) :=
  some ((some (x1 + 1), m))
noncomputable def sf_25 (x1 : Int32) (m : sh_X) : Option (Option Int32 × sh_X) :=
  sh_bc (sf_26 x1 m) fun r1 =>
  if r1 = 32 then
    sf_25_30 x1 m
  else
    if r1 = 9 then
      sf_25_30 x1 m
    else
      if r1 = 10 then
        sf_25_30 x1 m
      else
        if r1 = 13 then
          sf_25_30 x1 m
        else
          if r1 = 35 then
            sh_bc (sf_27 x1 m) fun r2 =>
            some ((some r2, m))
          else
            if (sf_28 r1) = true then
              sh_bt (sf_29 x1 m) (fun m => (none, m)) fun r4 m14 =>
              some ((some r4, m14))
            else
              if (sf_31 r1) = true then
                sh_bt (sf_39 x1 m) (fun m => (none, m)) fun r6 m16 =>
                some ((some r6, m16))
              else
                sh_bt (sf_40 x1 r1 m) (fun m => (none, m)) fun r7 m17 =>
                some ((some r7, m17))
noncomputable def sf_24_59 (m : sh_X) : Option (Option Unit × sh_X) :=
  sh_bn (sf_38 0 (m.I 2 6) 0 m) fun _ m11 =>
  some ((some (), m11))
noncomputable def sf_24_30s (x3 : Int32) (x4 : Int32) (m : sh_X) : Option ((Int32 × Int32 × sh_X) ⊕ (Option Unit × sh_X)) :=
  if x4 < (m.I 2 6) then
    if x3 < (m.I 2 6) then
      sh_bt (sf_25 x3 m) (fun m => .inr ((none, m))) fun r1 m11 =>
      some (.inl (r1, x4 + 1, m11))
    else
      sh_up (sf_24_59  m)
  else
    sh_up (sf_24_59  m)
noncomputable def sf_24_30 (x3 : Int32) (x4 : Int32) (m : sh_X) : Option (Option Unit × sh_X) := sh_while (fun q => sf_24_30s q.1 q.2.1 q.2.2) (x3, x4, m)
noncomputable def sf_24 (x2 : Int32) (m : sh_X) : Option (Option Unit × sh_X) :=
  sf_24_30 0 0 ⟨(sh_tx2 m.T), sh_u2 (sh_u2 (sh_u2 m.I 2 6 (sf_21 x2 4000)) 2 7 0) 2 8 0, m.J, m.s⟩
noncomputable def sf_44 (m : sh_X) : Option (Unit × sh_X) :=
  some (((), ⟨m.T, sh_u2 (sh_u2 (sh_u2 m.I 28 10 0) 28 11 0) 28 12 0, m.J, m.s⟩))
noncomputable def sf_46 (x1 : Int32) (m : sh_X) : Option Int32 :=
  if x1 < 0 then
    some (0)
  else
    if x1 < (m.I 2 7) then
      if sh_okb x1 4001 = true then
        some (m.I 3 (Int32.toNatClampNeg x1))
      else none
    else
      some (0)
noncomputable def sf_45 (m : sh_X) : Option Int32 :=
  sh_bc (sf_46 (m.I 39 4) m) fun r1 =>
  some (r1)
noncomputable def sf_50_31 (y1 : Int32) (m : sh_X) : Option (Option Unit × sh_X) :=
  if m.T.length < 1000000 then some ((none, ⟨m.T ++ [.inr (13, [])], sh_u2 m.I 2 10 y1, m.J, m.s + 6⟩)) else none
noncomputable def sf_50_27 (m : sh_X) : Option (Option Unit × sh_X) :=
  sf_50_31 (m.I 2 6) m
noncomputable def sf_50 (x1 : Int32) (x2 : Int32) (m : sh_X) : Option (Option Unit × sh_X) :=
  if x2 < 0 then
    sf_50_27  ⟨m.T, sh_u2 m.I 2 9 x1, m.J, m.s⟩
  else
    if x2 < (m.I 2 7) then
      if sh_okb x2 4001 = true then
        sf_50_31 (m.I 4 (Int32.toNatClampNeg x2)) ⟨m.T, sh_u2 m.I 2 9 x1, m.J, m.s⟩
      else none
    else
      sf_50_27  ⟨m.T, sh_u2 m.I 2 9 x1, m.J, m.s⟩
noncomputable def sf_49 (m : sh_X) : Option (Option Unit × sh_X) :=
  sh_bt (sf_50 2 (m.I 39 4) m) (fun m => (none, m)) fun _ m11 =>
  some ((some (), m11))
noncomputable def sf_48_12 (m : sh_X) : Option (Option Unit × sh_X) :=
  some ((some (), ⟨m.T, sh_u2 m.I 39 4 ((m.I 39 4) + 1), m.J, m.s⟩))
noncomputable def sf_48 (x1 : Int32) (m : sh_X) : Option (Option Unit × sh_X) :=
  sh_bc (sf_45 m) fun r1 =>
  if r1 = x1 then
    sf_48_12  m
  else
    sh_bt (sf_49 m) (fun m => (none, m)) fun _ m12 =>
    sf_48_12  m12
noncomputable def sf_52 (m : sh_X) : Option (Option Unit × sh_X) :=
  sh_bt (sf_48 3 m) (fun m => (none, m)) fun _ m11 =>
  sh_bc (sf_45 m11) fun r2 =>
  if r2 = 91 then
    sh_bt (sf_48 91 m11) (fun m => (none, m)) fun _ m13 =>
    sh_bt (sf_48 2 m13) (fun m => (none, m)) fun _ m14 =>
    sh_bt (sf_48 93 m14) (fun m => (none, m)) fun _ m15 =>
    some ((some (), m15))
  else
    some ((some (), m11))
noncomputable def sf_51_100 (x1 : Int32) (x2 : Int32) (x3 : Bool) (x4 : Int32) (y1 : Int32) (y2 : Bool) (m : sh_X) : Option ((Int32 × Bool × Int32 × sh_X) ⊕ (Option Unit × sh_X)) :=
  some (.inl (x2, x3, x4 + 1, ⟨m.T, sh_u2 m.I 39 4 (y1 + (sh_b2 y2)), m.J, m.s⟩))
noncomputable def sf_51_85 (x1 : Int32) (x2 : Int32) (x4 : Int32) (y0 : Bool) (m : sh_X) : Option ((Int32 × Bool × Int32 × sh_X) ⊕ (Option Unit × sh_X)) :=
  if y0 = true then
    sf_51_100 x1 x2 y0 x4 (m.I 39 4) true m
  else
    sf_51_100 x1 x2 y0 x4 (m.I 39 4) false m
noncomputable def sf_51_41 (x1 : Int32) (x2 : Int32) (x4 : Int32) (m : sh_X) : Option ((Int32 × Bool × Int32 × sh_X) ⊕ (Option Unit × sh_X)) :=
  if sh_okb ((x1 * 8) + x2) 2048 = true then
    sh_bt (sf_48 1 ⟨m.T, sh_u2 m.I 34 (Int32.toNatClampNeg ((x1 * 8) + x2)) (m.I 39 4), m.J, m.s⟩) (fun m => .inr ((none, m))) fun _ m11 =>
    sh_bt (sf_52 m11) (fun m => .inr ((none, m))) fun _ m12 =>
    sh_bc (sf_45 m12) fun r3 =>
    if r3 = 44 then
      sf_51_85 x1 (x2 + 1) x4 true m12
    else
      sf_51_85 x1 (x2 + 1) x4 false m12
  else none
noncomputable def sf_51_110 (x1 : Int32) (x2 : Int32) (m : sh_X) : Option (Option Unit × sh_X) :=
  if sh_okb x1 256 = true then
    some ((some (), ⟨m.T, sh_u2 m.I 33 (Int32.toNatClampNeg x1) x2, m.J, m.s⟩))
  else none
noncomputable def sf_51_20s (x1 : Int32) (x2 : Int32) (x3 : Bool) (x4 : Int32) (m : sh_X) : Option ((Int32 × Bool × Int32 × sh_X) ⊕ (Option Unit × sh_X)) :=
  if 8 < x4 then
    sh_up (sf_51_110 x1 x2 m)
  else
    if x3 = true then
      if x2 = 8 then
        sh_bt (sf_49 m) (fun m => .inr ((none, m))) fun _ m11 =>
        sf_51_41 x1 x2 x4 m11
      else
        sf_51_41 x1 x2 x4 m
    else
      sh_up (sf_51_110 x1 x2 m)
noncomputable def sf_51_20 (x1 : Int32) (x2 : Int32) (x3 : Bool) (x4 : Int32) (m : sh_X) : Option (Option Unit × sh_X) := sh_while (fun q => sf_51_20s x1 q.1 q.2.1 q.2.2.1 q.2.2.2) (x2, x3, x4, m)
noncomputable def sf_51_16 (x1 : Int32) (x2 : Bool) (y0 : Bool) (m : sh_X) : Option (Option Unit × sh_X) :=
  sf_51_20 x1 (sh_b2 x2) y0 0 m
noncomputable def sf_51 (x1 : Int32) (m : sh_X) : Option (Option Unit × sh_X) :=
  sh_bc (sf_45 m) fun r1 =>
  if r1 = 41 then
    sf_51_16 x1 false false m
  else
    sf_51_16 x1 false true m
noncomputable def sf_54_29 : Bool :=
  true
noncomputable def sf_54 (x0 : Int32) : Bool :=
  if x0 = 12 then
    sf_54_29 
  else
    if x0 = 1 then
      sf_54_29 
    else
      if x0 = 10 then
        sf_54_29 
      else
        if x0 = 9 then
          sf_54_29 
        else
          if x0 = 13 then
            sf_54_29 
          else
            false
noncomputable def sf_56 (x1 : Int32) (x2 : Int32) (x3 : Int32) (m : sh_X) : Option (Int32 × sh_X) :=
  if (m.I 28 10) < 6000 then
    if sh_okb (m.I 28 10) 6000 = true then
      if sh_okb (m.I 28 10) 6000 = true then
        if sh_okb (m.I 28 10) 6000 = true then
          some ((((m.I 28 10) + 1) - 1, ⟨m.T, sh_u2 (sh_u2 (sh_u2 (sh_u2 m.I 36 (Int32.toNatClampNeg (m.I 28 10)) x1) 37 (Int32.toNatClampNeg (m.I 28 10)) x2) 38 (Int32.toNatClampNeg (m.I 28 10)) x3) 28 10 ((m.I 28 10) + 1), m.J, m.s⟩))
        else none
      else none
    else none
  else
    some (((-1), m))
noncomputable def sf_60 (x0 : Int32) : Int32 :=
  if x0 = 45 then
    22
  else
    if x0 = 126 then
      23
    else
      if x0 = 33 then
        24
      else
        (-1)
noncomputable def sf_64 (x1 : Int32) (m : sh_X) : Option Bool :=
  if x1 < 0 then
    some (false)
  else
    if x1 < (m.I 28 10) then
      some (true)
    else
      some (false)
noncomputable def sf_63 (x1 : Int32) (x2 : Int32) (m : sh_X) : Option (Unit × sh_X) :=
  sh_bc (sf_64 x1 m) fun r1 =>
  if r1 = true then
    if sh_okb x1 6000 = true then
      some (((), ⟨m.T, sh_u2 m.I 38 (Int32.toNatClampNeg x1) x2, m.J, m.s⟩))
    else none
  else
    some (((), m))
noncomputable def sf_66 (x1 : Int32) (m : sh_X) : Option Int64 :=
  if x1 < 0 then
    some (0)
  else
    if x1 < (m.I 2 7) then
      if sh_okb x1 4001 = true then
        some (m.J 5 (Int32.toNatClampNeg x1))
      else none
    else
      some (0)
noncomputable def sf_69 (x0 : Int32) : Int32 :=
  if x0 = 37 ∨ x0 = 42 ∨ x0 = 47 then
    10
  else
  if x0 = 38 then
    5
  else
  if x0 = 43 ∨ x0 = 45 then
    9
  else
  if x0 = 60 ∨ x0 = 62 ∨ x0 = 15421 ∨ x0 = 15933 then
    7
  else
  if x0 = 94 then
    4
  else
  if x0 = 124 then
    3
  else
  if x0 = 8509 ∨ x0 = 15677 then
    6
  else
  if x0 = 9766 then
    2
  else
  if x0 = 15420 ∨ x0 = 15934 then
    8
  else
  if x0 = 31868 then
    1
  else
    0
noncomputable def sf_70_5s (x1 : Int32) (x2 : Int32) (x3 : Int32) (m : sh_X) : Option ((Int32 × sh_X) ⊕ (Unit × sh_X)) :=
  if x1 < x3 then
    if 0 < x3 then
      if sh_okb (x3 - 1) 512 = true then
        sh_bc (sf_46 (m.I 40 (Int32.toNatClampNeg (x3 - 1))) m) fun r1 =>
        if (sf_69 r1) < x2 then
          some (.inr (((), m)))
        else
          sh_bn (sf_56 25 (m.I 40 (Int32.toNatClampNeg (x3 - 1))) 0 m) fun r3 m13 =>
          some (.inl (x3 + (-1), ⟨m13.T, sh_u2 m13.I 39 3 (x3 - 1), m13.J, m13.s⟩))
      else none
    else
      some (.inr (((), m)))
  else
    some (.inr (((), m)))
noncomputable def sf_70_5 (x1 : Int32) (x2 : Int32) (x3 : Int32) (m : sh_X) : Option (Unit × sh_X) := sh_while (fun q => sf_70_5s x1 x2 q.1 q.2) (x3, m)
noncomputable def sf_70 (x1 : Int32) (x2 : Int32) (m : sh_X) : Option (Unit × sh_X) :=
  sf_70_5 x1 x2 (m.I 39 3) m
abbrev sh_Q44 : Type := (Int32 → sh_X → Option (Option Unit × sh_X)) × (Int32 → sh_X → Option (Option Unit × sh_X)) × (Int32 → sh_X → Option (Option Unit × sh_X)) × (Int32 → sh_X → Option (Option Unit × sh_X)) × (Int32 → sh_X → Option (Option Unit × sh_X)) × (Int32 → sh_X → Option (Option Unit × sh_X)) × (Int32 → sh_X → Option (Option Unit × sh_X))
abbrev sh_Q44.f58 (Q : sh_Q44) : (Int32 → sh_X → Option (Option Unit × sh_X)) := Q.1
abbrev sh_Q44.f59 (Q : sh_Q44) : (Int32 → sh_X → Option (Option Unit × sh_X)) := Q.2.1
abbrev sh_Q44.f61 (Q : sh_Q44) : (Int32 → sh_X → Option (Option Unit × sh_X)) := Q.2.2.1
abbrev sh_Q44.f62 (Q : sh_Q44) : (Int32 → sh_X → Option (Option Unit × sh_X)) := Q.2.2.2.1
abbrev sh_Q44.f65 (Q : sh_Q44) : (Int32 → sh_X → Option (Option Unit × sh_X)) := Q.2.2.2.2.1
abbrev sh_Q44.f67 (Q : sh_Q44) : (Int32 → sh_X → Option (Option Unit × sh_X)) := Q.2.2.2.2.2.1
abbrev sh_Q44.f68 (Q : sh_Q44) : (Int32 → sh_X → Option (Option Unit × sh_X)) := Q.2.2.2.2.2.2
noncomputable def sf_58_55 (Q : sh_Q44) (x1 : Int32) (x2 : Int32) (x3 : Int32) (m : sh_X) : Option ((Int32 × sh_X) ⊕ (Option Unit × sh_X)) :=
  if sh_okb (m.I 39 3) 512 = true then
    sh_bt (Q.f59 x1 ⟨m.T, sh_u2 (sh_u2 (sh_u2 m.I 40 (Int32.toNatClampNeg (m.I 39 3)) (m.I 39 4)) 39 3 ((m.I 39 3) + 1)) 39 4 ((m.I 39 4) + 1), m.J, m.s⟩) (fun m => .inr ((none, m))) fun _ m11 =>
    some (.inl (x3 + 1, m11))
  else none
noncomputable def sf_58_99 (Q : sh_Q44) (x2 : Int32) (m : sh_X) : Option (Option Unit × sh_X) :=
  sh_bn (sf_70 x2 0 m) fun _ m11 =>
  some ((some (), m11))
noncomputable def sf_58_12s (Q : sh_Q44) (x1 : Int32) (x2 : Int32) (x3 : Int32) (m : sh_X) : Option ((Int32 × sh_X) ⊕ (Option Unit × sh_X)) :=
  if x3 < 4000 then
    sh_bc (sf_45 m) fun r1 =>
    if 0 < (sf_69 r1) then
      sh_bc (sf_45 m) fun r3 =>
      sh_bn (sf_70 x2 (sf_69 r3) m) fun _ m15 =>
      if (m15.I 39 3) < 512 then
        sf_58_55 Q x1 x2 x3 m15
      else
        sh_bt (sf_49 m15) (fun m => .inr ((none, m))) fun _ m16 =>
        sf_58_55 Q x1 x2 x3 m16
    else
      sh_up (sf_58_99 Q x2 m)
  else
    sh_up (sf_58_99 Q x2 m)
noncomputable def sf_58_12 (Q : sh_Q44) (x1 : Int32) (x2 : Int32) (x3 : Int32) (m : sh_X) : Option (Option Unit × sh_X) := sh_while (fun q => sf_58_12s Q x1 x2 q.1 q.2) (x3, m)
noncomputable def sf_58 (Q : sh_Q44) (x1 : Int32) (m : sh_X) : Option (Option Unit × sh_X) :=
  sh_bt (Q.f59 x1 m) (fun m => (none, m)) fun _ m11 =>
  sf_58_12 Q x1 (m.I 39 3) 0 m11
noncomputable def sf_59_65s (Q : sh_Q44) (x1 : Int32) (x4 : Int32) (m : sh_X) : Option ((Int32 × sh_X) ⊕ (Option Unit × sh_X)) :=
  if x4 < 4000 then
    sh_bc (sf_45 m) fun r1 =>
    if r1 = 91 then
      sh_bn (sf_56 28 (m.I 39 4) 0 m) fun r2 m12 =>
      sh_bt (Q.f68 x1 m12) (fun m => .inr ((none, m))) fun _ m13 =>
      sh_bn (sf_56 30 (m.I 39 4) 0 m13) fun r4 m14 =>
      some (.inl (x4 + 1, m14))
    else
      some (.inr ((some (), m)))
  else
    some (.inr ((some (), m)))
noncomputable def sf_59_65 (Q : sh_Q44) (x1 : Int32) (x4 : Int32) (m : sh_X) : Option (Option Unit × sh_X) := sh_while (fun q => sf_59_65s Q x1 q.1 q.2) (x4, m)
noncomputable def sf_59_10 (Q : sh_Q44) (x1 : Int32) (m : sh_X) : Option (Option Unit × sh_X) :=
  sh_bc (sf_45 m) fun r1 =>
  if (sf_60 r1) = (-1) then
    sh_bt (Q.f61 x1 m) (fun m => (none, m)) fun _ m13 =>
    sf_59_65 Q x1 0 m13
  else
    sh_bt (Q.f59 (x1 + 1) ⟨m.T, sh_u2 m.I 39 4 ((m.I 39 4) + 1), m.J, m.s⟩) (fun m => (none, m)) fun _ m14 =>
    sh_bn (sf_56 (sf_60 r1) (m.I 39 4) 0 m14) fun r5 m15 =>
    some ((some (), m15))
noncomputable def sf_59 (Q : sh_Q44) (x1 : Int32) (m : sh_X) : Option (Option Unit × sh_X) :=
  if 40 < x1 then
    sh_bt (sf_49 m) (fun m => (none, m)) fun _ m11 =>
    sf_59_10 Q x1 m11
  else
    sf_59_10 Q x1 m
noncomputable def sf_61_124 (Q : sh_Q44) (y1 : Int32) (y2 : Int32) (y3 : Bool) (m : sh_X) : Option (Option Unit × sh_X) :=
  sh_bn (sf_56 y1 y2 (sh_b2 y3) m) fun r1 m11 =>
  some ((some (), ⟨m11.T, sh_u2 m11.I 39 4 ((m11.I 39 4) + 1), m11.J, m11.s⟩))
noncomputable def sf_61 (Q : sh_Q44) (x1 : Int32) (m : sh_X) : Option (Option Unit × sh_X) :=
  sh_bc (sf_45 m) fun r1 =>
  if r1 = 1 then
    sh_bt (Q.f62 x1 m) (fun m => (none, m)) fun _ m12 =>
    some ((some (), m12))
  else
  if r1 = 2 then
    sh_bn (sf_56 19 (m.I 39 4) 0 m) fun r3 m13 =>
    some ((some (), ⟨m13.T, sh_u2 m13.I 39 4 ((m13.I 39 4) + 1), m13.J, m13.s⟩))
  else
  if r1 = 3 then
    sh_bt (Q.f65 x1 m) (fun m => (none, m)) fun _ m14 =>
    some ((some (), m14))
  else
  if r1 = 7 ∨ r1 = 15 then
    sh_bc (sf_45 m) fun r5 =>
    if r5 = 15 then
      sf_61_124 Q 20 (m.I 39 4) true m
    else
      sf_61_124 Q 20 (m.I 39 4) false m
  else
  if r1 = 40 then
    sh_bt (Q.f58 (x1 + 1) ⟨m.T, sh_u2 m.I 39 4 ((m.I 39 4) + 1), m.J, m.s⟩) (fun m => (none, m)) fun _ m16 =>
    sh_bt (sf_48 41 m16) (fun m => (none, m)) fun _ m17 =>
    some ((some (), m17))
  else
  if r1 = 91 then
    sh_bt (Q.f67 x1 m) (fun m => (none, m)) fun _ m18 =>
    some ((some (), m18))
  else
    sh_bt (sf_49 m) (fun m => (none, m)) fun _ m19 =>
    some ((some (), m19))
noncomputable def sf_62_167 (Q : sh_Q44) (x1 : Int32) (x2 : Int32) (x3 : Int32) (x4 : Int32) (x5 : Bool) (x6 : Int32) (y1 : Int32) (y2 : Bool) (m : sh_X) : Option ((Int32 × Bool × Int32 × sh_X) ⊕ (Option Unit × sh_X)) :=
  some (.inl (x4, x5, x6 + 1, ⟨m.T, sh_u2 m.I 39 4 (y1 + (sh_b2 y2)), m.J, m.s⟩))
noncomputable def sf_62_150 (Q : sh_Q44) (x1 : Int32) (x2 : Int32) (x3 : Int32) (x4 : Int32) (x6 : Int32) (y0 : Bool) (m : sh_X) : Option ((Int32 × Bool × Int32 × sh_X) ⊕ (Option Unit × sh_X)) :=
  if y0 = true then
    sf_62_167 Q x1 x2 x3 x4 y0 x6 (m.I 39 4) true m
  else
    sf_62_167 Q x1 x2 x3 x4 y0 x6 (m.I 39 4) false m
noncomputable def sf_62_177 (Q : sh_Q44) (x1 : Int32) (x2 : Int32) (x3 : Int32) (x4 : Int32) (m : sh_X) : Option (Option Unit × sh_X) :=
  sh_bt (sf_48 41 m) (fun m => (none, m)) fun _ m11 =>
  sh_bn (sf_63 x3 x4 m11) fun _ m12 =>
  sh_bn (sf_56 17 x2 x1 m12) fun r3 m13 =>
  some ((some (), m13))
noncomputable def sf_62_93s (Q : sh_Q44) (x1 : Int32) (x2 : Int32) (x3 : Int32) (x4 : Int32) (x5 : Bool) (x6 : Int32) (m : sh_X) : Option ((Int32 × Bool × Int32 × sh_X) ⊕ (Option Unit × sh_X)) :=
  if x6 < 4000 then
    if x5 = true then
      sh_bt (Q.f58 (x1 + 1) m) (fun m => .inr ((none, m))) fun _ m11 =>
      sh_bn (sf_56 16 (m.I 39 4) x4 m11) fun r2 m12 =>
      sh_bc (sf_45 m12) fun r3 =>
      if r3 = 44 then
        sf_62_150 Q x1 x2 x3 (x4 + 1) x6 true m12
      else
        sf_62_150 Q x1 x2 x3 (x4 + 1) x6 false m12
    else
      sh_up (sf_62_177 Q x1 x2 x3 x4 m)
  else
    sh_up (sf_62_177 Q x1 x2 x3 x4 m)
noncomputable def sf_62_93 (Q : sh_Q44) (x1 : Int32) (x2 : Int32) (x3 : Int32) (x4 : Int32) (x5 : Bool) (x6 : Int32) (m : sh_X) : Option (Option Unit × sh_X) := sh_while (fun q => sf_62_93s Q x1 x2 x3 q.1 q.2.1 q.2.2.1 q.2.2.2) (x4, x5, x6, m)
noncomputable def sf_62_88 (Q : sh_Q44) (x1 : Int32) (x2 : Int32) (x3 : Int32) (x4 : Bool) (y0 : Bool) (m : sh_X) : Option (Option Unit × sh_X) :=
  sf_62_93 Q x1 x2 x3 (sh_b2 x4) y0 0 m
noncomputable def sf_62 (Q : sh_Q44) (x1 : Int32) (m : sh_X) : Option (Option Unit × sh_X) :=
  sh_bc (sf_45 ⟨m.T, sh_u2 m.I 39 4 ((m.I 39 4) + 1), m.J, m.s⟩) fun r1 =>
  if r1 = 40 then
    sh_bn (sf_56 14 (m.I 39 4) 0 ⟨m.T, sh_u2 (sh_u2 m.I 39 4 ((m.I 39 4) + 1)) 39 4 (((m.I 39 4) + 1) + 1), m.J, m.s⟩) fun r2 m12 =>
    sh_bn (sf_56 15 (m.I 39 4) x1 m12) fun r3 m13 =>
    sh_bc (sf_45 m13) fun r4 =>
    if r4 = 41 then
      sf_62_88 Q x1 (m.I 39 4) r2 false false m13
    else
      sf_62_88 Q x1 (m.I 39 4) r2 false true m13
  else
    sh_bn (sf_56 21 (m.I 39 4) 0 ⟨m.T, sh_u2 m.I 39 4 ((m.I 39 4) + 1), m.J, m.s⟩) fun r5 m15 =>
    some ((some (), m15))
noncomputable def sf_65 (Q : sh_Q44) (x1 : Int32) (m : sh_X) : Option (Option Unit × sh_X) :=
  sh_bc (sf_66 (m.I 39 4) m) fun r1 =>
  sh_bt (sf_48 40 ⟨m.T, sh_u2 m.I 39 4 ((m.I 39 4) + 1), m.J, m.s⟩) (fun m => (none, m)) fun _ m12 =>
  sh_bt (Q.f58 (x1 + 1) m12) (fun m => (none, m)) fun _ m13 =>
  sh_bt (sf_48 41 m13) (fun m => (none, m)) fun _ m14 =>
  sh_bn (sf_56 26 ((m.I 39 4) + 1) (Int64.toInt32 r1) m14) fun r5 m15 =>
  some ((some (), m15))
noncomputable def sf_67_77 (Q : sh_Q44) (x1 : Int32) (x2 : Int32) (x3 : Int32) (x4 : Bool) (x5 : Int32) (y1 : Int32) (y2 : Bool) (m : sh_X) : Option ((Int32 × Bool × Int32 × sh_X) ⊕ (Option Unit × sh_X)) :=
  some (.inl (x3, x4, x5 + 1, ⟨m.T, sh_u2 m.I 39 4 (y1 + (sh_b2 y2)), m.J, m.s⟩))
noncomputable def sf_67_60 (Q : sh_Q44) (x1 : Int32) (x2 : Int32) (x3 : Int32) (x5 : Int32) (y0 : Bool) (m : sh_X) : Option ((Int32 × Bool × Int32 × sh_X) ⊕ (Option Unit × sh_X)) :=
  if y0 = true then
    sf_67_77 Q x1 x2 x3 y0 x5 (m.I 39 4) true m
  else
    sf_67_77 Q x1 x2 x3 y0 x5 (m.I 39 4) false m
noncomputable def sf_67_87 (Q : sh_Q44) (x2 : Int32) (x3 : Int32) (m : sh_X) : Option (Option Unit × sh_X) :=
  sh_bt (sf_48 93 m) (fun m => (none, m)) fun _ m11 =>
  sh_bn (sf_56 27 x2 x3 m11) fun r2 m12 =>
  some ((some (), m12))
noncomputable def sf_67_23s (Q : sh_Q44) (x1 : Int32) (x2 : Int32) (x3 : Int32) (x4 : Bool) (x5 : Int32) (m : sh_X) : Option ((Int32 × Bool × Int32 × sh_X) ⊕ (Option Unit × sh_X)) :=
  if x5 < 4000 then
    if x4 = true then
      sh_bt (Q.f58 (x1 + 1) m) (fun m => .inr ((none, m))) fun _ m11 =>
      sh_bc (sf_45 m11) fun r2 =>
      if r2 = 44 then
        sf_67_60 Q x1 x2 (x3 + 1) x5 true m11
      else
        sf_67_60 Q x1 x2 (x3 + 1) x5 false m11
    else
      sh_up (sf_67_87 Q x2 x3 m)
  else
    sh_up (sf_67_87 Q x2 x3 m)
noncomputable def sf_67_23 (Q : sh_Q44) (x1 : Int32) (x2 : Int32) (x3 : Int32) (x4 : Bool) (x5 : Int32) (m : sh_X) : Option (Option Unit × sh_X) := sh_while (fun q => sf_67_23s Q x1 x2 q.1 q.2.1 q.2.2.1 q.2.2.2) (x3, x4, x5, m)
noncomputable def sf_67 (Q : sh_Q44) (x1 : Int32) (m : sh_X) : Option (Option Unit × sh_X) :=
  sf_67_23 Q x1 (m.I 39 4) 0 true 0 ⟨m.T, sh_u2 m.I 39 4 ((m.I 39 4) + 1), m.J, m.s⟩
noncomputable def sf_68 (Q : sh_Q44) (x1 : Int32) (m : sh_X) : Option (Option Unit × sh_X) :=
  sh_bt (sf_48 91 m) (fun m => (none, m)) fun _ m11 =>
  sh_bt (Q.f58 (x1 + 1) m11) (fun m => (none, m)) fun _ m12 =>
  sh_bn (sf_56 29 (m11.I 39 4) 0 m12) fun r3 m13 =>
  sh_bt (sf_48 93 m13) (fun m => (none, m)) fun _ m14 =>
  some ((some (), m14))
noncomputable def sq_44 : Nat → sh_Q44
  | 0 => ⟨(fun _ _ => none), (fun _ _ => none), (fun _ _ => none), (fun _ _ => none), (fun _ _ => none), (fun _ _ => none), (fun _ _ => none)⟩
  | d + 1 => ⟨sf_58 (sq_44 d), sf_59 (sq_44 d), sf_61 (sq_44 d), sf_62 (sq_44 d), sf_65 (sq_44 d), sf_67 (sq_44 d), sf_68 (sq_44 d)⟩
noncomputable def sf_57 (x1 : Int32) (m : sh_X) : Option (Option Unit × sh_X) :=
  sh_bt (sf_48 1 ⟨m.T, sh_u2 m.I 39 4 ((m.I 39 4) + 1), m.J, m.s⟩) (fun m => (none, m)) fun _ m11 =>
  sh_bt (sf_48 61 m11) (fun m => (none, m)) fun _ m12 =>
  sh_bt ((sq_44 sh_dp).f58 x1 m12) (fun m => (none, m)) fun _ m13 =>
  sh_bt (sf_48 59 m13) (fun m => (none, m)) fun _ m14 =>
  sh_bn (sf_56 2 ((m.I 39 4) + 1) 0 m14) fun r5 m15 =>
  some ((some (), m15))
noncomputable def sf_74 (x1 : Int32) (m : sh_X) : Option (Option Unit × sh_X) :=
  sh_bn (sf_56 12 (m.I 39 4) 0 m) fun r1 m11 =>
  sh_bt ((sq_44 sh_dp).f58 x1 ⟨m11.T, sh_u2 m11.I 39 4 ((m11.I 39 4) + 1), m11.J, m11.s⟩) (fun m => (none, m)) fun _ m12 =>
  sh_bt (sf_48 59 m12) (fun m => (none, m)) fun _ m13 =>
  sh_bn (sf_56 13 (m.I 39 4) 0 m13) fun r4 m14 =>
  some ((some (), m14))
noncomputable def sf_75_54 (x1 : Int32) (x2 : Int32) (x3 : Int32) (m : sh_X) : Option (Option Unit × sh_X) :=
  sh_bt (sf_48 61 m) (fun m => (none, m)) fun _ m11 =>
  sh_bt ((sq_44 sh_dp).f58 x1 m11) (fun m => (none, m)) fun _ m12 =>
  sh_bt (sf_48 59 m12) (fun m => (none, m)) fun _ m13 =>
  sh_bn (sf_56 x3 x2 (m11.I 39 4) m13) fun r4 m14 =>
  some ((some (), m14))
noncomputable def sf_75 (x1 : Int32) (m : sh_X) : Option (Option Unit × sh_X) :=
  sh_bt (sf_48 1 m) (fun m => (none, m)) fun _ m11 =>
  sh_bn (sf_56 3 (m.I 39 4) 0 m11) fun r2 m12 =>
  sh_bc (sf_45 m12) fun r3 =>
  if r3 = 91 then
    sh_bn (sf_56 4 (m12.I 39 4) (m.I 39 4) m12) fun r4 m14 =>
    sh_bt ((sq_44 sh_dp).f68 x1 m14) (fun m => (none, m)) fun _ m15 =>
    sf_75_54 x1 (m.I 39 4) 6 m15
  else
    sf_75_54 x1 (m.I 39 4) 5 m12
abbrev sh_Q48 : Type := (Int32 → sh_X → Option (Option Unit × sh_X)) × (Int32 → sh_X → Option (Option Unit × sh_X)) × (Int32 → sh_X → Option (Option Unit × sh_X)) × (Int32 → sh_X → Option (Option Unit × sh_X)) × (Int32 → sh_X → Option (Option Unit × sh_X))
abbrev sh_Q48.f53 (Q : sh_Q48) : (Int32 → sh_X → Option (Option Unit × sh_X)) := Q.1
abbrev sh_Q48.f55 (Q : sh_Q48) : (Int32 → sh_X → Option (Option Unit × sh_X)) := Q.2.1
abbrev sh_Q48.f71 (Q : sh_Q48) : (Int32 → sh_X → Option (Option Unit × sh_X)) := Q.2.2.1
abbrev sh_Q48.f72 (Q : sh_Q48) : (Int32 → sh_X → Option (Option Unit × sh_X)) := Q.2.2.2.1
abbrev sh_Q48.f73 (Q : sh_Q48) : (Int32 → sh_X → Option (Option Unit × sh_X)) := Q.2.2.2.2
noncomputable def sf_53_2s (Q : sh_Q48) (x1 : Int32) (x2 : Int32) (m : sh_X) : Option ((Int32 × sh_X) ⊕ (Option Unit × sh_X)) :=
  if x2 < 4000 then
    sh_bc (sf_45 m) fun r1 =>
    if (sf_54 r1) = true then
      sh_bt (Q.f55 x1 m) (fun m => .inr ((none, m))) fun _ m13 =>
      some (.inl (x2 + 1, m13))
    else
      some (.inr ((some (), m)))
  else
    some (.inr ((some (), m)))
noncomputable def sf_53_2 (Q : sh_Q48) (x1 : Int32) (x2 : Int32) (m : sh_X) : Option (Option Unit × sh_X) := sh_while (fun q => sf_53_2s Q x1 q.1 q.2) (x2, m)
noncomputable def sf_53 (Q : sh_Q48) (x1 : Int32) (m : sh_X) : Option (Option Unit × sh_X) :=
  sf_53_2 Q x1 0 m
noncomputable def sf_55_10 (Q : sh_Q48) (x1 : Int32) (m : sh_X) : Option (Option Unit × sh_X) :=
  sh_bn (sf_56 0 (m.I 39 4) 0 m) fun r1 m11 =>
  sh_bc (sf_45 m11) fun r2 =>
  if r2 = 9 then
    sh_bt (Q.f73 x1 m11) (fun m => (none, m)) fun _ m13 =>
    some ((some (), m13))
  else
  if r2 = 10 then
    sh_bt (Q.f71 x1 m11) (fun m => (none, m)) fun _ m14 =>
    some ((some (), m14))
  else
  if r2 = 12 then
    sh_bt (sf_57 x1 m11) (fun m => (none, m)) fun _ m15 =>
    some ((some (), m15))
  else
  if r2 = 13 then
    sh_bt (sf_74 x1 m11) (fun m => (none, m)) fun _ m16 =>
    some ((some (), m16))
  else
    sh_bt (sf_75 x1 m11) (fun m => (none, m)) fun _ m17 =>
    some ((some (), m17))
noncomputable def sf_55 (Q : sh_Q48) (x1 : Int32) (m : sh_X) : Option (Option Unit × sh_X) :=
  if 40 < x1 then
    sh_bt (sf_49 m) (fun m => (none, m)) fun _ m11 =>
    sf_55_10 Q x1 m11
  else
    sf_55_10 Q x1 m
noncomputable def sf_71_76 (Q : sh_Q48) (x2 : Int32) (m : sh_X) : Option (Option Unit × sh_X) :=
  sh_bn (sf_56 9 x2 0 m) fun r1 m11 =>
  some ((some (), m11))
noncomputable def sf_71 (Q : sh_Q48) (x1 : Int32) (m : sh_X) : Option (Option Unit × sh_X) :=
  sh_bt ((sq_44 sh_dp).f58 x1 ⟨m.T, sh_u2 m.I 39 4 ((m.I 39 4) + 1), m.J, m.s⟩) (fun m => (none, m)) fun _ m11 =>
  sh_bn (sf_56 7 ((m.I 39 4) + 1) 0 m11) fun r2 m12 =>
  sh_bt (Q.f72 x1 m12) (fun m => (none, m)) fun _ m13 =>
  sh_bc (sf_45 m13) fun r4 =>
  if r4 = 6 then
    sh_bn (sf_56 8 (m13.I 39 4) 0 m13) fun r5 m15 =>
    sh_bt (Q.f72 x1 ⟨m15.T, sh_u2 m15.I 39 4 ((m15.I 39 4) + 1), m15.J, m15.s⟩) (fun m => (none, m)) fun _ m16 =>
    sf_71_76 Q ((m.I 39 4) + 1) m16
  else
    sf_71_76 Q ((m.I 39 4) + 1) m13
noncomputable def sf_72 (Q : sh_Q48) (x1 : Int32) (m : sh_X) : Option (Option Unit × sh_X) :=
  sh_bt (sf_48 123 m) (fun m => (none, m)) fun _ m11 =>
  sh_bt (Q.f53 (x1 + 1) m11) (fun m => (none, m)) fun _ m12 =>
  sh_bt (sf_48 125 m12) (fun m => (none, m)) fun _ m13 =>
  some ((some (), m13))
noncomputable def sf_73 (Q : sh_Q48) (x1 : Int32) (m : sh_X) : Option (Option Unit × sh_X) :=
  sh_bt (sf_48 1 ⟨m.T, sh_u2 m.I 39 4 ((m.I 39 4) + 1), m.J, m.s⟩) (fun m => (none, m)) fun _ m11 =>
  sh_bt (sf_48 11 m11) (fun m => (none, m)) fun _ m12 =>
  sh_bt (sf_48 2 m12) (fun m => (none, m)) fun _ m13 =>
  sh_bt (sf_48 11822 m13) (fun m => (none, m)) fun _ m14 =>
  sh_bt (sf_48 2 m14) (fun m => (none, m)) fun _ m15 =>
  sh_bn (sf_56 10 ((m.I 39 4) + 1) 0 m15) fun r6 m16 =>
  sh_bt (Q.f72 x1 m16) (fun m => (none, m)) fun _ m17 =>
  sh_bn (sf_56 11 ((m.I 39 4) + 1) r6 m17) fun r8 m18 =>
  sh_bn (sf_63 r6 (m18.I 28 10) m18) fun _ m19 =>
  some ((some (), m19))
noncomputable def sq_48 : Nat → sh_Q48
  | 0 => ⟨(fun _ _ => none), (fun _ _ => none), (fun _ _ => none), (fun _ _ => none), (fun _ _ => none)⟩
  | d + 1 => ⟨sf_53 (sq_48 d), sf_55 (sq_48 d), sf_71 (sq_48 d), sf_72 (sq_48 d), sf_73 (sq_48 d)⟩
noncomputable def sf_47_25 (x1 : Int32) (m : sh_X) : Option (Option Unit × sh_X) :=
  if sh_okb x1 256 = true then
    sh_bt (sf_48 1 ⟨m.T, sh_u2 m.I 29 (Int32.toNatClampNeg x1) (m.I 39 4), m.J, m.s⟩) (fun m => (none, m)) fun _ m11 =>
    sh_bt (sf_48 40 m11) (fun m => (none, m)) fun _ m12 =>
    sh_bt (sf_51 x1 m12) (fun m => (none, m)) fun _ m13 =>
    sh_bt (sf_48 41 m13) (fun m => (none, m)) fun _ m14 =>
    if sh_okb x1 256 = true then
      sh_bt (sf_52 ⟨m14.T, sh_u2 m14.I 31 (Int32.toNatClampNeg x1) (m14.I 39 4), m14.J, m14.s⟩) (fun m => (none, m)) fun _ m15 =>
      sh_bt (sf_48 123 m15) (fun m => (none, m)) fun _ m16 =>
      if sh_okb x1 256 = true then
        sh_bt ((sq_48 sh_dp).f53 1 ⟨m16.T, sh_u2 (sh_u2 m16.I 30 (Int32.toNatClampNeg x1) (m16.I 28 10)) 28 12 ((m16.I 28 12) + 1), m16.J, m16.s⟩) (fun m => (none, m)) fun _ m17 =>
        sh_bt (sf_48 14 m17) (fun m => (none, m)) fun _ m18 =>
        sh_bt ((sq_44 sh_dp).f58 1 m18) (fun m => (none, m)) fun _ m19 =>
        sh_bt (sf_48 59 m19) (fun m => (none, m)) fun _ m20 =>
        sh_bn (sf_56 18 (m18.I 39 4) 0 m20) fun r11 m21 =>
        sh_bt (sf_48 125 m21) (fun m => (none, m)) fun _ m22 =>
        some ((some (), m22))
      else none
    else none
  else none
noncomputable def sf_47 (m : sh_X) : Option (Option Unit × sh_X) :=
  sh_bt (sf_48 8 m) (fun m => (none, m)) fun _ m11 =>
  if (m.I 28 12) < 256 then
    sf_47_25 (m.I 28 12) m11
  else
    sh_bt (sf_49 m11) (fun m => (none, m)) fun _ m12 =>
    sf_47_25 (m.I 28 12) m12
noncomputable def sf_76_10 : Bool :=
  true
noncomputable def sf_76 (x0 : Int32) : Bool :=
  if x0 = 4 then
    sf_76_10 
  else
    if x0 = 5 then
      sf_76_10 
    else
      false
noncomputable def sf_77 (m : sh_X) : Option (Option Unit × sh_X) :=
  sh_bn (sf_56 1 (m.I 39 4) 0 m) fun r1 m11 =>
  sh_bt (sf_48 1 ⟨m11.T, sh_u2 m11.I 39 4 ((m11.I 39 4) + 1), m11.J, m11.s⟩) (fun m => (none, m)) fun _ m12 =>
  sh_bt (sf_52 m12) (fun m => (none, m)) fun _ m13 =>
  sh_bt (sf_48 59 m13) (fun m => (none, m)) fun _ m14 =>
  some ((some (), m14))
noncomputable def sf_43_88 (m : sh_X) : Option (Option Unit × sh_X) :=
  sh_bt ((sq_48 sh_dp).f53 0 m) (fun m => (none, m)) fun _ m11 =>
  sh_bt (sf_48 0 m11) (fun m => (none, m)) fun _ m12 =>
  some ((some (), m12))
noncomputable def sf_43_61s (x1 : Int32) (m : sh_X) : Option ((Int32 × sh_X) ⊕ (Option Unit × sh_X)) :=
  if x1 < 4000 then
    sh_bc (sf_45 m) fun r1 =>
    if (sf_76 r1) = true then
      sh_bt (sf_77 m) (fun m => .inr ((none, m))) fun _ m13 =>
      some (.inl (x1 + 1, m13))
    else
      sh_up (sf_43_88  m)
  else
    sh_up (sf_43_88  m)
noncomputable def sf_43_61 (x1 : Int32) (m : sh_X) : Option (Option Unit × sh_X) := sh_while (fun q => sf_43_61s q.1 q.2) (x1, m)
noncomputable def sf_43_45 (m : sh_X) : Option (Option Unit × sh_X) :=
  sf_43_61 0 ⟨m.T, sh_u2 m.I 28 11 (m.I 28 10), m.J, m.s⟩
noncomputable def sf_43_19s (x1 : Int32) (m : sh_X) : Option ((Int32 × sh_X) ⊕ (Option Unit × sh_X)) :=
  if x1 < 4000 then
    sh_bc (sf_45 m) fun r1 =>
    if r1 = 8 then
      sh_bt (sf_47 m) (fun m => .inr ((none, m))) fun _ m12 =>
      some (.inl (x1 + 1, m12))
    else
      sh_up (sf_43_45  m)
  else
    sh_up (sf_43_45  m)
noncomputable def sf_43_19 (x1 : Int32) (m : sh_X) : Option (Option Unit × sh_X) := sh_while (fun q => sf_43_19s q.1 q.2) (x1, m)
noncomputable def sf_43 (m : sh_X) : Option (Option Unit × sh_X) :=
  sh_bn (sf_44 m) fun _ m11 =>
  sf_43_19 0 ⟨m11.T, sh_u2 (sh_u2 m11.I 39 3 0) 39 4 0, m11.J, m11.s⟩
noncomputable def sf_80 (m : sh_X) : Option (Unit × sh_X) :=
  some (((), ⟨m.T, sh_u2 (sh_u2 (sh_u2 m.I 44 4 2) 45 0 0) 45 1 1, m.J, m.s⟩))
noncomputable def sf_81 (m : sh_X) : Option (Unit × sh_X) :=
  some (((), ⟨m.T, sh_u2 (sh_u2 m.I 53 4 0) 53 5 0, m.J, m.s⟩))
noncomputable def sf_79 (m : sh_X) : Option (Unit × sh_X) :=
  sh_bn (sf_80 m) fun _ m11 =>
  sh_bn (sf_81 m11) fun _ m12 =>
  some (((), ⟨m12.T, sh_u2 (sh_u2 (sh_u2 (sh_u2 (sh_u2 (sh_u2 (sh_u2 (sh_u2 (sh_u2 m12.I 48 4 0) 41 11 0) 41 12 0) 41 14 0) 41 15 1) 41 16 0) 41 17 0) 41 18 (m12.I 28 12)) 41 13 (m12.I 28 11), m12.J, m12.s⟩))
noncomputable def sf_83 (x1 : Int32) (m : sh_X) : Option Int32 :=
  sh_bc (sf_66 x1 m) fun r1 =>
  some (Int64.toInt32 r1)
noncomputable def sf_84_2s (x1 : Int32) (x2 : Int32) (x3 : Int32) (m : sh_X) : Option (Int32 ⊕ Int32) :=
  if x3 < x2 then
    if x3 < 256 then
      if sh_okb x3 256 = true then
        sh_bc (sf_83 (m.I 29 (Int32.toNatClampNeg x3)) m) fun r1 =>
        if r1 = x1 then
          some (.inr (x3))
        else
          some (.inl (x3 + 1))
      else none
    else
      some (.inr ((-1)))
  else
    some (.inr ((-1)))
noncomputable def sf_84_2 (x1 : Int32) (x2 : Int32) (x3 : Int32) (m : sh_X) : Option Int32 := sh_while (fun q => sf_84_2s x1 x2 q m) x3
noncomputable def sf_84 (x1 : Int32) (x2 : Int32) (m : sh_X) : Option Int32 :=
  sf_84_2 x1 x2 0 m
noncomputable def sf_86_63 (x2 : Int32) (x3 : Int64) (m : sh_X) : Option (Option Int32 × sh_X) :=
  some ((some (x2 + (512 * (Int64.toInt32 x3))), m))
noncomputable def sf_86_52 (x1 : Int32) (x2 : Int32) (x3 : Int64) (m : sh_X) : Option (Option Int32 × sh_X) :=
  sh_bt (sf_50 4 (x1 + 2) m) (fun m => (none, m)) fun _ m11 =>
  sf_86_63 x2 x3 m11
noncomputable def sf_86 (x1 : Int32) (m : sh_X) : Option (Option Int32 × sh_X) :=
  sh_bc (sf_66 x1 m) fun r1 =>
  sh_bc (sf_46 (x1 + 1) m) fun r2 =>
  if r2 = 91 then
    sh_bc (sf_66 (x1 + 2) m) fun r3 =>
    if r3 < 1 then
      sf_86_52 x1 (Int64.toInt32 r1) r3 m
    else
      if 32 < r3 then
        sf_86_52 x1 (Int64.toInt32 r1) r3 m
      else
        sf_86_63 (Int64.toInt32 r1) r3 m
  else
    some ((some (Int64.toInt32 r1), m))
noncomputable def sf_85_80 (x1 : Int32) (x2 : Int32) (x3 : Int32) (x4 : Int32) (x5 : Int32) (m : sh_X) : Option ((Int32 × sh_X) ⊕ ((Int32 × sh_X) ⊕ (Option Unit × sh_X))) :=
  some (.inl (x5 + 1, m))
noncomputable def sf_85_35s (x1 : Int32) (x2 : Int32) (x3 : Int32) (x4 : Int32) (x5 : Int32) (m : sh_X) : Option ((Int32 × sh_X) ⊕ ((Int32 × sh_X) ⊕ (Option Unit × sh_X))) :=
  if x5 < x3 then
    if sh_okb x5 2048 = true then
      sh_bc (sf_83 (m.I 34 (Int32.toNatClampNeg x5)) m) fun r1 =>
      sh_bc (sf_83 x4 m) fun r2 =>
      if r1 = r2 then
        sh_bt (sf_50 3 x4 m) (fun m => .inr (.inr ((none, m)))) fun _ m13 =>
        sf_85_80 x1 x2 x3 x4 x5 m13
      else
        sf_85_80 x1 x2 x3 x4 x5 m
    else none
  else
    sh_bt (sf_86 (x4 + 1) m) (fun m => .inr (.inr ((none, m)))) fun r4 m14 =>
    if sh_okb x3 2048 = true then
      some (.inr (.inl (x3 + 1, ⟨m14.T, sh_u2 m14.I 35 (Int32.toNatClampNeg x3) r4, m14.J, m14.s⟩)))
    else none
noncomputable def sf_85_35 (x1 : Int32) (x2 : Int32) (x3 : Int32) (x4 : Int32) (x5 : Int32) (m : sh_X) : Option ((Int32 × sh_X) ⊕ (Option Unit × sh_X)) := sh_while (fun q => sf_85_35s x1 x2 x3 x4 q.1 q.2) (x5, m)
noncomputable def sf_85_2s (x1 : Int32) (x2 : Int32) (x3 : Int32) (m : sh_X) : Option ((Int32 × sh_X) ⊕ (Option Unit × sh_X)) :=
  if x3 < (x1 + x2) then
    if x3 < 2048 then
      if sh_okb x3 2048 = true then
        sf_85_35 x1 x2 x3 (m.I 34 (Int32.toNatClampNeg x3)) x1 m
      else none
    else
      some (.inr ((some (), m)))
  else
    some (.inr ((some (), m)))
noncomputable def sf_85_2 (x1 : Int32) (x2 : Int32) (x3 : Int32) (m : sh_X) : Option (Option Unit × sh_X) := sh_while (fun q => sf_85_2s x1 x2 q.1 q.2) (x3, m)
noncomputable def sf_85 (x1 : Int32) (x2 : Int32) (m : sh_X) : Option (Option Unit × sh_X) :=
  sf_85_2 x1 x2 x1 m
noncomputable def sf_82_56 (x1 : Int32) (m : sh_X) : Option ((Int32 × sh_X) ⊕ (Option Unit × sh_X)) :=
  if sh_okb x1 256 = true then
    sh_bt (sf_85 (x1 * 8) (m.I 33 (Int32.toNatClampNeg x1)) m) (fun m => .inr ((none, m))) fun _ m11 =>
    if sh_okb x1 256 = true then
      sh_bt (sf_86 (m11.I 31 (Int32.toNatClampNeg x1)) m11) (fun m => .inr ((none, m))) fun r2 m12 =>
      if sh_okb x1 256 = true then
        some (.inl (x1 + 1, ⟨m12.T, sh_u2 m12.I 32 (Int32.toNatClampNeg x1) r2, m12.J, m12.s⟩))
      else none
    else none
  else none
noncomputable def sf_82_2s (x1 : Int32) (m : sh_X) : Option ((Int32 × sh_X) ⊕ (Option Unit × sh_X)) :=
  if x1 < (m.I 28 12) then
    if x1 < 256 then
      if sh_okb x1 256 = true then
        sh_bc (sf_83 (m.I 29 (Int32.toNatClampNeg x1)) m) fun r1 =>
        sh_bc (sf_84 r1 x1 m) fun r2 =>
        if r2 = (-1) then
          sf_82_56 x1 m
        else
          sh_bt (sf_50 3 (m.I 29 (Int32.toNatClampNeg x1)) m) (fun m => .inr ((none, m))) fun _ m13 =>
          sf_82_56 x1 m13
      else none
    else
      some (.inr ((some (), m)))
  else
    some (.inr ((some (), m)))
noncomputable def sf_82_2 (x1 : Int32) (m : sh_X) : Option (Option Unit × sh_X) := sh_while (fun q => sf_82_2s q.1 q.2) (x1, m)
noncomputable def sf_82 (m : sh_X) : Option (Option Unit × sh_X) :=
  sf_82_2 0 m
noncomputable def sf_87 (x1 : Int32) (m : sh_X) : Option Int32 :=
  sh_bc (sf_64 x1 m) fun r1 =>
  if r1 = true then
    if sh_okb x1 6000 = true then
      some (m.I 37 (Int32.toNatClampNeg x1))
    else none
  else
    some (0)
noncomputable def sf_88 (x1 : Int32) (m : sh_X) : Option Int32 :=
  sh_bc (sf_64 x1 m) fun r1 =>
  if r1 = true then
    if sh_okb x1 6000 = true then
      some (m.I 38 (Int32.toNatClampNeg x1))
    else none
  else
    some (0)
noncomputable def sf_89 (x1 : Int32) (m : sh_X) : Option Int32 :=
  sh_bc (sf_64 x1 m) fun r1 =>
  if r1 = true then
    if sh_okb x1 6000 = true then
      some (m.I 36 (Int32.toNatClampNeg x1))
    else none
  else
    some (0)
noncomputable def sf_90 (x1 : Int32) (x2 : Int32) (m : sh_X) : Option (Option Unit × sh_X) :=
  if 3000 < ((m.I 41 14) + x1) then
    sh_bt (sf_50 6 x2 ⟨m.T, sh_u2 m.I 41 14 ((m.I 41 14) + x1), m.J, m.s⟩) (fun m => (none, m)) fun _ m11 =>
    some ((some (), m11))
  else
    some ((some (), ⟨m.T, sh_u2 m.I 41 14 ((m.I 41 14) + x1), m.J, m.s⟩))
noncomputable def sf_42 (x0 : Int32) (x1 : Int32) : Int32 :=
  if x0 < x1 then
    x1
  else
    x0
noncomputable def sf_92_7s (x1 : Int32) (x2 : Int32) (m : sh_X) : Option (Int32 ⊕ Int32) :=
  if x2 < (m.I 53 5) then
    some (.inr ((-1)))
  else
    if x2 < 0 then
      some (.inr ((-1)))
    else
      if sh_okb x2 1024 = true then
        if (m.I 54 (Int32.toNatClampNeg x2)) = x1 then
          some (.inr (x2))
        else
          some (.inl (x2 + (-1)))
      else none
noncomputable def sf_92_7 (x1 : Int32) (x2 : Int32) (m : sh_X) : Option Int32 := sh_while (fun q => sf_92_7s x1 q m) x2
noncomputable def sf_92 (x1 : Int32) (m : sh_X) : Option Int32 :=
  sf_92_7 x1 ((m.I 53 4) - 1) m
noncomputable def sf_93 (x0 : Int32) : Int32 :=
  x0 / 512
noncomputable def sf_94 (x0 : Int32) : Int32 :=
  x0 &&& 127
noncomputable def sf_95 (x0 : Nat) (x1 : Int32) (x2 : Int32) (m : sh_X) : Option Bool :=
  if 256 < ((m.I x0 4) + x1) then
    some (false)
  else
    if 1000 < ((m.I x0 5) + (x1 * x2)) then
      some (false)
    else
      some (true)
noncomputable def sf_96 (x0 : Int32) : Int32 :=
  (sf_94 x0) * (sf_42 1 (sf_93 x0))
noncomputable def sf_98 (x1 : Int32) (m : sh_X) : Option (Int32 × sh_X) :=
  if x1 < 0 then
    some ((0, m))
  else
    if (8192 - (m.I 44 4)) < x1 then
      some ((0, m))
    else
      some ((((m.I 44 4) + x1) - x1, ⟨m.T, sh_u2 m.I 44 4 ((m.I 44 4) + x1), m.J, m.s⟩))
noncomputable def sf_99 (m : sh_X) : Option (Int32 × sh_X) :=
  sh_bn (sf_19 0 0 0 m) fun r1 m11 =>
  some ((r1, m11))
noncomputable def sf_100 (x1 : Int32) (x2 : Int32) (m : sh_X) : Option (Unit × sh_X) :=
  if 1 < x1 then
    if x1 < (m.I 44 4) then
      if sh_okb x1 8192 = true then
        some (((), ⟨m.T, sh_u2 m.I 45 (Int32.toNatClampNeg x1) x2, m.J, m.s⟩))
      else none
    else
      some (((), m))
  else
    some (((), m))
noncomputable def sf_97_8s (x1 : Int32) (x2 : Int32) (x3 : Int32) (m : sh_X) : Option ((Int32 × sh_X) ⊕ (Int32 × sh_X)) :=
  if x3 < x1 then
    sh_bn (sf_99 m) fun r1 m11 =>
    sh_bn (sf_100 (x2 + x3) r1 m11) fun _ m12 =>
    some (.inl (x3 + 1, m12))
  else
    some (.inr ((x2, m)))
noncomputable def sf_97_8 (x1 : Int32) (x2 : Int32) (x3 : Int32) (m : sh_X) : Option (Int32 × sh_X) := sh_while (fun q => sf_97_8s x1 x2 q.1 q.2) (x3, m)
noncomputable def sf_97 (x1 : Int32) (m : sh_X) : Option (Int32 × sh_X) :=
  sh_bn (sf_98 x1 m) fun r1 m11 =>
  sf_97_8 x1 r1 0 m11
noncomputable def sf_102_59 (x0 : Nat) (x1 : Int32) (y1 : Int32) (y2 : Int32) (m : sh_X) : Option (Unit × sh_X) :=
  if sh_okb y1 256 = true then
    if sh_okb (m.I x0 4) 256 = true then
      if sh_okb (m.I x0 4) 256 = true then
        some (((), ⟨m.T, sh_u2 (sh_u2 (sh_u2 m.I (x0 + 1) (Int32.toNatClampNeg y1) y2) (x0 + 2) (Int32.toNatClampNeg (m.I x0 4)) x1) x0 4 ((m.I x0 4) + 1), sh_u2 m.J (x0 + 3) (Int32.toNatClampNeg (m.I x0 4)) 0, m.s⟩))
      else none
    else none
  else none
noncomputable def sf_102 (x0 : Nat) (x1 : Int32) (m : sh_X) : Option (Unit × sh_X) :=
  if (m.I x0 4) < 0 then
    some (((), m))
  else
    if (m.I x0 4) < 256 then
      if (m.I x0 4) = 0 then
        sf_102_59 x0 x1 (m.I x0 4) 0 m
      else
        if sh_okb ((m.I x0 4) - 1) 256 = true then
          if sh_okb ((m.I x0 4) - 1) 256 = true then
            sf_102_59 x0 x1 (m.I x0 4) ((m.I (x0 + 1) (Int32.toNatClampNeg ((m.I x0 4) - 1))) + (m.I (x0 + 2) (Int32.toNatClampNeg ((m.I x0 4) - 1)))) m
          else none
        else none
    else
      some (((), m))
noncomputable def sf_103 (x1 : Int32) (m : sh_X) : Option Int32 :=
  if x1 < 0 then
    some (0)
  else
    if x1 < (m.I 44 4) then
      if sh_okb x1 8192 = true then
        some (m.I 45 (Int32.toNatClampNeg x1))
      else none
    else
      some (0)
noncomputable def sf_104 (x0 : Nat) (x1 : Int32) (m : sh_X) : Option (Unit × sh_X) :=
  if (m.I x0 5) < 1000 then
    if sh_okb (m.I x0 5) 1000 = true then
      some (((), ⟨m.T, sh_u2 (sh_u2 m.I (x0 + 4) (Int32.toNatClampNeg (m.I x0 5)) x1) x0 5 ((m.I x0 5) + 1), m.J, m.s⟩))
    else none
  else
    some (((), m))
noncomputable def sf_101_31s (x1 : Nat) (x2 : Int32) (x3 : Int32) (x4 : Int32) (x5 : Int32) (x6 : Int32) (m : sh_X) : Option ((Int32 × sh_X) ⊕ ((Int32 × sh_X) ⊕ (Unit × sh_X))) :=
  if x6 < x4 then
    sh_bc (sf_103 ((x3 + (x5 * x4)) + x6) m) fun r1 =>
    sh_bn (sf_104 x1 r1 m) fun _ m12 =>
    some (.inl (x6 + 1, m12))
  else
    some (.inr (.inl (x5 + 1, m)))
noncomputable def sf_101_31 (x1 : Nat) (x2 : Int32) (x3 : Int32) (x4 : Int32) (x5 : Int32) (x6 : Int32) (m : sh_X) : Option ((Int32 × sh_X) ⊕ (Unit × sh_X)) := sh_while (fun q => sf_101_31s x1 x2 x3 x4 x5 q.1 q.2) (x6, m)
noncomputable def sf_101_9s (x1 : Nat) (x2 : Int32) (x3 : Int32) (x4 : Int32) (x5 : Int32) (m : sh_X) : Option ((Int32 × sh_X) ⊕ (Unit × sh_X)) :=
  if x5 < (sf_42 1 (sf_93 x2)) then
    sh_bn (sf_102 x1 x4 m) fun _ m13 =>
    sf_101_31 x1 x2 x3 x4 x5 0 m13
  else
    some (.inr (((), m)))
noncomputable def sf_101_9 (x1 : Nat) (x2 : Int32) (x3 : Int32) (x4 : Int32) (x5 : Int32) (m : sh_X) : Option (Unit × sh_X) := sh_while (fun q => sf_101_9s x1 x2 x3 x4 q.1 q.2) (x5, m)
noncomputable def sf_101 (x1 : Nat) (x2 : Int32) (x3 : Int32) (m : sh_X) : Option (Unit × sh_X) :=
  sf_101_9 x1 x2 x3 (sf_94 x2) 0 m
noncomputable def sf_105 (x1 : Int32) (x2 : Int32) (x3 : Int32) (x4 : Int64) (m : sh_X) : Option (Unit × sh_X) :=
  if (m.I 53 4) < 1024 then
    if sh_okb (m.I 53 4) 1024 = true then
      if sh_okb (m.I 53 4) 1024 = true then
        if sh_okb (m.I 53 4) 1024 = true then
          if sh_okb (m.I 53 4) 1024 = true then
            some (((), ⟨m.T, sh_u2 (sh_u2 (sh_u2 (sh_u2 m.I 54 (Int32.toNatClampNeg (m.I 53 4)) x1) 55 (Int32.toNatClampNeg (m.I 53 4)) x2) 56 (Int32.toNatClampNeg (m.I 53 4)) x3) 53 4 ((m.I 53 4) + 1), sh_u2 m.J 57 (Int32.toNatClampNeg (m.I 53 4)) x4, m.s⟩))
          else none
        else none
      else none
    else none
  else
    some (((), m))
noncomputable def sf_91_95 (x1 : Int32) (x2 : Nat) (x3 : Int32) (m : sh_X) : Option (Option Unit × sh_X) :=
  sh_bn (sf_97 (sf_96 x3) m) fun r2 m12 =>
  sh_bn (sf_101 x2 x3 r2 m12) fun _ m13 =>
  sh_bc (sf_83 (x1 + 1) m13) fun r4 =>
  sh_bn (sf_105 r4 x3 r2 0 m13) fun _ m15 =>
  some ((some (), m15))
noncomputable def sf_91_64 (x1 : Int32) (x2 : Nat) (x3 : Int32) (m : sh_X) : Option (Option Unit × sh_X) :=
  sh_bc (sf_95 x2 (sf_42 1 (sf_93 x3)) (sf_94 x3) m) fun r4 =>
  if r4 = true then
    sf_91_95 x1 x2 x3 m
  else
    sh_bt (sf_50 6 (x1 + 1) m) (fun m => (none, m)) fun _ m15 =>
    sf_91_95 x1 x2 x3 m15
noncomputable def sf_91_23 (x1 : Int32) (y0 : Nat) (m : sh_X) : Option (Option Unit × sh_X) :=
  sh_bt (sf_86 (x1 + 2) m) (fun m => (none, m)) fun r1 m11 =>
  sh_bc (sf_83 (x1 + 1) m11) fun r2 =>
  sh_bc (sf_92 r2 m11) fun r3 =>
  if r3 = (-1) then
    sf_91_64 x1 y0 r1 m11
  else
    sh_bt (sf_50 3 (x1 + 1) m11) (fun m => (none, m)) fun _ m14 =>
    sf_91_64 x1 y0 r1 m14
noncomputable def sf_91 (x1 : Int32) (m : sh_X) : Option (Option Unit × sh_X) :=
  sh_bc (sf_46 x1 m) fun r1 =>
  if r1 = 4 then
    sf_91_23 x1 13 m
  else
    sf_91_23 x1 18 m
noncomputable def sf_109 (x1 : Int32) (m : sh_X) : Option Bool :=
  if x1 < 0 then
    some (false)
  else
    if x1 < (m.I 48 4) then
      some (true)
    else
      some (false)
noncomputable def sf_108 (x1 : Int32) (m : sh_X) : Option Int32 :=
  sh_bc (sf_109 x1 m) fun r1 =>
  if r1 = true then
    if sh_okb x1 2048 = true then
      some (m.I 49 (Int32.toNatClampNeg x1))
    else none
  else
    some (0)
noncomputable def sf_110 (x1 : Int32) (m : sh_X) : Option Int32 :=
  sh_bc (sf_109 x1 m) fun r1 =>
  if r1 = true then
    if sh_okb x1 2048 = true then
      some (m.I 52 (Int32.toNatClampNeg x1))
    else none
  else
    some (0)
noncomputable def sf_111 (x1 : Int32) (m : sh_X) : Option Int64 :=
  sh_bc (sf_109 x1 m) fun r1 =>
  if r1 = true then
    if sh_okb x1 2048 = true then
      some (m.J 51 (Int32.toNatClampNeg x1))
    else none
  else
    some (0)
noncomputable def sf_113 (x0 : Int32) : Bool :=
  if x0 = 0 then
    false
  else
    if x0 = 257 then
      false
    else
      if x0 < 512 then
        true
      else
        false
noncomputable def sf_114 (x0 : Int32) : Bool :=
  if (x0 &&& 128) = 0 then
    false
  else
    true
noncomputable def sf_112_58 : Bool :=
  true
noncomputable def sf_112_78 : Bool :=
  true
noncomputable def sf_112_29 (x0 : Int32) (x1 : Int64) (y0 : Int32) : Bool :=
  if x1 < 0 then
    if (sf_114 x0) = true then
      if y0 < 63 then
        if x1 < (-((1 : Int64) <<< (Int32.toInt64 y0 &&& 63))) then
          false
        else
          sf_112_58 
      else
        sf_112_58 
    else
      false
  else
    if y0 < 63 then
      if x1 < ((1 : Int64) <<< (Int32.toInt64 y0 &&& 63)) then
        sf_112_78 
      else
        false
    else
      sf_112_78 
noncomputable def sf_112 (x0 : Int32) (x1 : Int64) : Bool :=
  if (sf_113 x0) = true then
    if (sf_114 x0) = true then
      sf_112_29 x0 x1 ((sf_94 x0) - 1)
    else
      sf_112_29 x0 x1 (sf_94 x0)
  else
    false
noncomputable def sf_115_10s (x1 : Int64) (x3 : Int32) (x4 : Int32) (x5 : Int32) (m : sh_X) : Option ((Int32 × sh_X) ⊕ (Int32 × sh_X)) :=
  if x5 < x3 then
    sh_bn (sf_100 (x4 + x5) (Int64.toInt32 ((x1 >>> (Int32.toInt64 (sf_21 x5 63) &&& 63)) &&& (1 : Int64))) m) fun _ m12 =>
    some (.inl (x5 + 1, m12))
  else
    some (.inr ((x4, m)))
noncomputable def sf_115_10 (x1 : Int64) (x3 : Int32) (x4 : Int32) (x5 : Int32) (m : sh_X) : Option (Int32 × sh_X) := sh_while (fun q => sf_115_10s x1 x3 x4 q.1 q.2) (x5, m)
noncomputable def sf_115 (x1 : Int64) (x3 : Int32) (m : sh_X) : Option (Int32 × sh_X) :=
  sh_bn (sf_98 x3 m) fun r1 m11 =>
  sf_115_10 x1 x3 r1 0 m11
noncomputable def sf_116 (x1 : Int32) (x2 : Int32) (x3 : Int32) (m : sh_X) : Option (Unit × sh_X) :=
  sh_bc (sf_109 x1 m) fun r1 =>
  if r1 = true then
    if sh_okb x1 2048 = true then
      if sh_okb x1 2048 = true then
        some (((), ⟨m.T, sh_u2 (sh_u2 m.I 49 (Int32.toNatClampNeg x1) x2) 50 (Int32.toNatClampNeg x1) x3, m.J, m.s⟩))
      else none
    else none
  else
    some (((), m))
noncomputable def sf_107_49 (x1 : Int32) (x2 : Int32) (x3 : Int32) (x4 : Int64) (m : sh_X) : Option (Option Unit × sh_X) :=
  sh_bt (sf_90 (sf_94 x2) x3 m) (fun m => (none, m)) fun _ m12 =>
  sh_bn (sf_115 x4 (sf_94 x2) m12) fun r4 m14 =>
  sh_bn (sf_116 x1 x2 r4 m14) fun _ m15 =>
  some ((some (), m15))
noncomputable def sf_107 (x1 : Int32) (x2 : Int32) (m : sh_X) : Option (Option Unit × sh_X) :=
  sh_bc (sf_108 x1 m) fun r1 =>
  if r1 = 0 then
    sh_bc (sf_110 x1 m) fun r2 =>
    sh_bc (sf_111 x1 m) fun r3 =>
    if (sf_112 x2 r3) = true then
      sf_107_49 x1 x2 r2 r3 m
    else
      sh_bt (sf_50 5 r2 m) (fun m => (none, m)) fun _ m15 =>
      sf_107_49 x1 x2 r2 r3 m15
  else
    some ((some (), m))
noncomputable def sf_117 (x1 : Int32) (m : sh_X) : Option Int32 :=
  sh_bc (sf_109 x1 m) fun r1 =>
  if r1 = true then
    if sh_okb x1 2048 = true then
      some (m.I 50 (Int32.toNatClampNeg x1))
    else none
  else
    some (0)
noncomputable def sf_118 (x1 : Int32) (m : sh_X) : Option (Unit × sh_X) :=
  some (((), ⟨m.T, sh_u2 m.I 48 4 (sf_42 0 ((m.I 48 4) - x1)), m.J, m.s⟩))
noncomputable def sf_106_46 (x1 : Int32) (x2 : Int32) (m : sh_X) : Option (Option Unit × sh_X) :=
  sh_bc (sf_83 x1 m) fun r1 =>
  sh_bc (sf_108 x2 m) fun r2 =>
  sh_bc (sf_117 x2 m) fun r3 =>
  sh_bn (sf_105 r1 r2 r3 0 m) fun _ m14 =>
  sh_bn (sf_118 1 m14) fun _ m15 =>
  some ((some (), m15))
noncomputable def sf_106 (x1 : Int32) (m : sh_X) : Option (Option Unit × sh_X) :=
  sh_bt (sf_107 ((m.I 48 4) - 1) 160 m) (fun m => (none, m)) fun _ m11 =>
  sh_bc (sf_83 x1 m11) fun r2 =>
  sh_bc (sf_92 r2 m11) fun r3 =>
  if r3 = (-1) then
    sf_106_46 x1 ((m.I 48 4) - 1) m11
  else
    sh_bt (sf_50 3 x1 m11) (fun m => (none, m)) fun _ m14 =>
    sf_106_46 x1 ((m.I 48 4) - 1) m14
noncomputable def sf_121 (x1 : Int32) (m : sh_X) : Option Bool :=
  if x1 < 0 then
    some (false)
  else
    if x1 < (m.I 53 4) then
      some (true)
    else
      some (false)
noncomputable def sf_120 (x1 : Int32) (m : sh_X) : Option Int32 :=
  sh_bc (sf_121 x1 m) fun r1 =>
  if r1 = true then
    if sh_okb x1 1024 = true then
      some (m.I 55 (Int32.toNatClampNeg x1))
    else none
  else
    some (0)
noncomputable def sf_119_30 (x1 : Int32) (x2 : Int32) (m : sh_X) : Option (Option Unit × sh_X) :=
  sh_bc (sf_120 x2 m) fun r1 =>
  if r1 = 0 then
    sh_bt (sf_50 4 x1 m) (fun m => (none, m)) fun _ m12 =>
    some ((some (), m12))
  else
    some ((some (), m))
noncomputable def sf_119 (x1 : Int32) (m : sh_X) : Option (Option Unit × sh_X) :=
  sh_bc (sf_83 x1 m) fun r1 =>
  sh_bc (sf_92 r1 m) fun r2 =>
  if r2 = (-1) then
    sh_bt (sf_50 3 x1 m) (fun m => (none, m)) fun _ m13 =>
    sf_119_30 x1 r2 m13
  else
    sf_119_30 x1 r2 m
noncomputable def sf_123 (x0 : Int32) : Bool :=
  if x0 < 512 then
    false
  else
    true
noncomputable def sf_122 (x1 : Int32) (x2 : Int32) (m : sh_X) : Option (Option Unit × sh_X) :=
  sh_bc (sf_83 x2 m) fun r1 =>
  sh_bc (sf_92 r1 m) fun r2 =>
  sh_bc (sf_120 r2 m) fun r3 =>
  if (sf_123 r3) = true then
    some ((some (), m))
  else
    sh_bt (sf_50 4 x1 m) (fun m => (none, m)) fun _ m15 =>
    some ((some (), m15))
noncomputable def sf_125 (x1 : Int32) (x2 : Int32) (m : sh_X) : Option (Option Unit × sh_X) :=
  sh_bt (sf_107 ((m.I 48 4) - 1) x1 m) (fun m => (none, m)) fun _ m11 =>
  sh_bc (sf_108 ((m11.I 48 4) - 1) m11) fun r2 =>
  if r2 = x1 then
    some ((some (), m11))
  else
    sh_bt (sf_50 4 x2 m11) (fun m => (none, m)) fun _ m13 =>
    some ((some (), m13))
noncomputable def sf_127 (x1 : Int32) (m : sh_X) : Option Int32 :=
  sh_bc (sf_121 x1 m) fun r1 =>
  if r1 = true then
    if sh_okb x1 1024 = true then
      some (m.I 56 (Int32.toNatClampNeg x1))
    else none
  else
    some (0)
noncomputable def sf_131 (x1 : Int32) (m : sh_X) : Option Bool :=
  if 1 < x1 then
    if x1 < (m.I 9 3) then
      if sh_okb x1 (sh_ln m.T (sh_rf m.T 9 0)) = true then
        if (m.I (sh_rf m.T 9 0) (Int32.toNatClampNeg x1)) = 1 then
          if sh_okb x1 (sh_ln m.T (sh_rf m.T 9 2)) = true then
            if (m.I (sh_rf m.T 9 2) (Int32.toNatClampNeg x1)) = 1 then
              some (true)
            else
              some (false)
          else none
        else
          some (false)
      else none
    else
      some (false)
  else
    some (false)
noncomputable def sf_130_15 (x1 : Int32) (x2 : Int32) (m : sh_X) : Option (Int32 × sh_X) :=
  some ((x1 + x2, m))
noncomputable def sf_130_59 (x1 : Int32) (x2 : Int32) (m : sh_X) : Option (Int32 × sh_X) :=
  if x1 = 1 then
    sh_bn (sf_19 1 x2 1 m) fun r1 m11 =>
    some ((r1, m11))
  else
    sh_bn (sf_19 1 x1 x2 m) fun r2 m12 =>
    some ((r2, m12))
noncomputable def sf_130_39 (x1 : Int32) (x2 : Int32) (m : sh_X) : Option (Int32 × sh_X) :=
  sh_bc (sf_131 x2 m) fun r1 =>
  if r1 = true then
    if x1 = 1 then
      if sh_okb x2 (sh_ln m.T (sh_rf m.T 9 1)) = true then
        some ((m.I (sh_rf m.T 9 1) (Int32.toNatClampNeg x2), m))
      else none
    else
      sf_130_59 x1 x2 m
  else
    sf_130_59 x1 x2 m
noncomputable def sf_130 (x1 : Int32) (x2 : Int32) (m : sh_X) : Option (Int32 × sh_X) :=
  if x1 = x2 then
    some ((0, m))
  else
    if x1 = 0 then
      sf_130_15 x1 x2 m
    else
      if x2 = 0 then
        sf_130_15 x1 x2 m
      else
        sh_bc (sf_131 x1 m) fun r1 =>
        if r1 = true then
          if x2 = 1 then
            if sh_okb x1 (sh_ln m.T (sh_rf m.T 9 1)) = true then
              some ((m.I (sh_rf m.T 9 1) (Int32.toNatClampNeg x1), m))
            else none
          else
            sf_130_39 x1 x2 m
        else
          sf_130_39 x1 x2 m
noncomputable def sf_132 (x1 : Int32) (x2 : Int32) (m : sh_X) : Option (Int32 × sh_X) :=
  if x1 = 0 then
    some ((0, m))
  else
    if x2 = 0 then
      some ((0, m))
    else
      if x1 = 1 then
        some ((x2, m))
      else
        if x1 = x2 then
          some ((x2, m))
        else
          if x2 = 1 then
            some ((x1, m))
          else
            sh_bn (sf_19 2 x1 x2 m) fun r1 m11 =>
            some ((r1, m11))
noncomputable def sf_129 (x1 : Int32) (x2 : Int32) (x3 : Int32) (m : sh_X) : Option (Int32 × sh_X) :=
  sh_bn (sf_130 x2 x3 m) fun r1 m11 =>
  sh_bn (sf_132 x1 r1 m11) fun r2 m12 =>
  sh_bn (sf_130 x3 r2 m12) fun r3 m13 =>
  some ((r3, m13))
noncomputable def sf_128_11s (x1 : Int32) (x2 : Int32) (x3 : Int32) (x4 : Int32) (x5 : Int32) (x6 : Int32) (m : sh_X) : Option ((Int32 × sh_X) ⊕ (Int32 × sh_X)) :=
  if x6 < x4 then
    sh_bc (sf_103 (x2 + x6) m) fun r1 =>
    sh_bc (sf_103 (x3 + x6) m) fun r2 =>
    sh_bn (sf_129 x1 r1 r2 m) fun r3 m13 =>
    sh_bn (sf_100 (x5 + x6) r3 m13) fun _ m14 =>
    some (.inl (x6 + 1, m14))
  else
    some (.inr ((x5, m)))
noncomputable def sf_128_11 (x1 : Int32) (x2 : Int32) (x3 : Int32) (x4 : Int32) (x5 : Int32) (x6 : Int32) (m : sh_X) : Option (Int32 × sh_X) := sh_while (fun q => sf_128_11s x1 x2 x3 x4 x5 q.1 q.2) (x6, m)
noncomputable def sf_128 (x1 : Int32) (x2 : Int32) (x3 : Int32) (x4 : Int32) (m : sh_X) : Option (Int32 × sh_X) :=
  sh_bn (sf_98 x4 m) fun r1 m11 =>
  sf_128_11 x1 x2 x3 x4 r1 0 m11
noncomputable def sf_133 (x1 : Int32) (x2 : Int32) (m : sh_X) : Option (Unit × sh_X) :=
  sh_bc (sf_121 x1 m) fun r1 =>
  if r1 = true then
    if sh_okb x1 1024 = true then
      some (((), ⟨m.T, sh_u2 m.I 56 (Int32.toNatClampNeg x1) x2, m.J, m.s⟩))
    else none
  else
    some (((), m))
noncomputable def sf_126_54 (x1 : Int32) (x4 : Int32) (m : sh_X) : Option (Option Unit × sh_X) :=
  sh_bn (sf_133 x1 x4 m) fun _ m11 =>
  some ((some (), m11))
noncomputable def sf_126 (x1 : Int32) (x2 : Int32) (x3 : Int32) (m : sh_X) : Option (Option Unit × sh_X) :=
  if 0 < (m.I 41 16) then
    sh_bc (sf_120 x1 m) fun r1 =>
    sh_bt (sf_90 (sf_96 r1) x2 m) (fun m => (none, m)) fun _ m13 =>
    sh_bc (sf_127 x1 m13) fun r4 =>
    sh_bn (sf_128 (m13.I 41 15) x3 r4 (sf_96 r1) m13) fun r5 m15 =>
    sf_126_54 x1 r5 m15
  else
    sf_126_54 x1 x3 m
noncomputable def sf_124 (x1 : Int32) (x2 : Int32) (m : sh_X) : Option (Option Unit × sh_X) :=
  sh_bc (sf_83 x1 m) fun r1 =>
  sh_bc (sf_92 r1 m) fun r2 =>
  sh_bc (sf_120 r2 m) fun r3 =>
  sh_bt (sf_125 r3 x2 m) (fun m => (none, m)) fun _ m14 =>
  sh_bc (sf_117 ((m14.I 48 4) - 1) m14) fun r5 =>
  sh_bn (sf_118 1 m14) fun _ m16 =>
  sh_bt (sf_126 r2 x1 r5 m16) (fun m => (none, m)) fun _ m17 =>
  some ((some (), m17))
noncomputable def sf_135 (x0 : Int32) : Int32 :=
  x0 - x0 / 512 * 512
noncomputable def sf_137_3s (x1 : Int32) (x2 : Int32) (x3 : Int32) (x4 : Int32) (m : sh_X) : Option ((Int32 × sh_X) ⊕ (Unit × sh_X)) :=
  if x4 < x3 then
    sh_bc (sf_103 (x1 + x4) m) fun r1 =>
    sh_bn (sf_100 (x2 + x4) r1 m) fun _ m12 =>
    some (.inl (x4 + 1, m12))
  else
    some (.inr (((), m)))
noncomputable def sf_137_3 (x1 : Int32) (x2 : Int32) (x3 : Int32) (x4 : Int32) (m : sh_X) : Option (Unit × sh_X) := sh_while (fun q => sf_137_3s x1 x2 x3 q.1 q.2) (x4, m)
noncomputable def sf_137 (x1 : Int32) (x2 : Int32) (x3 : Int32) (m : sh_X) : Option (Unit × sh_X) :=
  sf_137_3 x1 x2 x3 0 m
noncomputable def sf_136 (x1 : Int32) (x2 : Int32) (x3 : Int64) (x5 : Int32) (m : sh_X) : Option (Int32 × sh_X) :=
  if x3 < 0 then
    some ((x1, m))
  else
    if x3 < (Int32.toInt64 (sf_93 x2)) then
      sh_bn (sf_98 (sf_96 x2) m) fun r4 m14 =>
      sh_bn (sf_137 x1 r4 (sf_96 x2) m14) fun _ m16 =>
      sh_bn (sf_137 x5 (r4 + ((Int64.toInt32 x3) * (sf_94 x2))) (sf_94 x2) m16) fun _ m17 =>
      some ((r4, m17))
    else
      some ((x1, m))
noncomputable def sf_138 (x0 : Int32) (x1 : Int32) : Int32 :=
  (sf_93 x0) * ((sf_94 x0) + (sf_94 x1))
noncomputable def sf_141 (x1 : Int32) (m : sh_X) : Option (Int32 × sh_X) :=
  sh_bn (sf_130 x1 1 m) fun r1 m11 =>
  some ((r1, m11))
noncomputable def sf_140_83 (x1 : Int32) (x2 : Int32) (x3 : Int32) (x5 : Int32) (y1 : Int32) (y2 : Int32) (m : sh_X) : Option ((Int32 × Int32 × sh_X) ⊕ (Int32 × sh_X)) :=
  sh_bn (sf_132 y1 y2 m) fun r1 m11 =>
  some (.inl (r1, x5 + 1, m11))
noncomputable def sf_140_56 (x1 : Int32) (x2 : Int32) (x3 : Int32) (x4 : Int32) (x5 : Int32) (x6 : Int32) (y0 : Bool) (m : sh_X) : Option ((Int32 × Int32 × sh_X) ⊕ (Int32 × sh_X)) :=
  if y0 = true then
    sf_140_83 x1 x2 x3 x5 x4 x6 m
  else
    sh_bn (sf_141 x6 m) fun r1 m11 =>
    sf_140_83 x1 x2 x3 x5 x4 r1 m11
noncomputable def sf_140_17s (x1 : Int32) (x2 : Int32) (x3 : Int32) (x4 : Int32) (x5 : Int32) (m : sh_X) : Option ((Int32 × Int32 × sh_X) ⊕ (Int32 × sh_X)) :=
  if x5 < (sf_94 x2) then
    sh_bc (sf_103 (x1 + x5) m) fun r2 =>
    if ((x3 >>> ((sf_21 x5 31) &&& 31)) &&& 1) = 1 then
      sf_140_56 x1 x2 x3 x4 x5 r2 true m
    else
      sf_140_56 x1 x2 x3 x4 x5 r2 false m
  else
    some (.inr ((x4, m)))
noncomputable def sf_140_17 (x1 : Int32) (x2 : Int32) (x3 : Int32) (x4 : Int32) (x5 : Int32) (m : sh_X) : Option (Int32 × sh_X) := sh_while (fun q => sf_140_17s x1 x2 x3 q.1 q.2.1 q.2.2) (x4, x5, m)
noncomputable def sf_140 (x1 : Int32) (x2 : Int32) (x3 : Int32) (m : sh_X) : Option (Int32 × sh_X) :=
  if (sf_112 x2 (Int32.toInt64 x3)) = true then
    sf_140_17 x1 x2 x3 1 0 m
  else
    some ((0, m))
noncomputable def sf_139_42s (x1 : Int32) (x2 : Int32) (x3 : Int32) (x4 : Int32) (x5 : Int32) (x6 : Int32) (x7 : Int32) (x8 : Int32) (x9 : Int32) (x10 : Int32) (m : sh_X) : Option ((Int32 × sh_X) ⊕ ((Int32 × sh_X) ⊕ (Int32 × sh_X))) :=
  if x10 < x6 then
    sh_bc (sf_103 (x5 + x10) m) fun r1 =>
    sh_bc (sf_103 (x1 + ((x8 * x6) + x10)) m) fun r2 =>
    sh_bn (sf_129 x9 r1 r2 m) fun r3 m13 =>
    sh_bn (sf_100 (x7 + ((x8 * x6) + x10)) r3 m13) fun _ m14 =>
    some (.inl (x10 + 1, m14))
  else
    some (.inr (.inl (x8 + 1, m)))
noncomputable def sf_139_42 (x1 : Int32) (x2 : Int32) (x3 : Int32) (x4 : Int32) (x5 : Int32) (x6 : Int32) (x7 : Int32) (x8 : Int32) (x9 : Int32) (x10 : Int32) (m : sh_X) : Option ((Int32 × sh_X) ⊕ (Int32 × sh_X)) := sh_while (fun q => sf_139_42s x1 x2 x3 x4 x5 x6 x7 x8 x9 q.1 q.2) (x10, m)
noncomputable def sf_139_19s (x1 : Int32) (x2 : Int32) (x3 : Int32) (x4 : Int32) (x5 : Int32) (x6 : Int32) (x7 : Int32) (x8 : Int32) (m : sh_X) : Option ((Int32 × sh_X) ⊕ (Int32 × sh_X)) :=
  if x8 < (sf_93 x2) then
    sh_bn (sf_140 x3 x4 x8 m) fun r2 m12 =>
    sf_139_42 x1 x2 x3 x4 x5 x6 x7 x8 r2 0 m12
  else
    some (.inr ((x7, m)))
noncomputable def sf_139_19 (x1 : Int32) (x2 : Int32) (x3 : Int32) (x4 : Int32) (x5 : Int32) (x6 : Int32) (x7 : Int32) (x8 : Int32) (m : sh_X) : Option (Int32 × sh_X) := sh_while (fun q => sf_139_19s x1 x2 x3 x4 x5 x6 x7 q.1 q.2) (x8, m)
noncomputable def sf_139 (x1 : Int32) (x2 : Int32) (x3 : Int32) (x4 : Int32) (x5 : Int32) (m : sh_X) : Option (Int32 × sh_X) :=
  sh_bn (sf_98 (sf_96 x2) m) fun r3 m13 =>
  sf_139_19 x1 x2 x3 x4 x5 (sf_94 x2) r3 0 m13
noncomputable def sf_134_187 (x1 : Int32) (x3 : Int32) (x7 : Int32) (m : sh_X) : Option (Option Unit × sh_X) :=
  sh_bn (sf_118 1 m) fun _ m11 =>
  sh_bt (sf_126 x3 x1 x7 m11) (fun m => (none, m)) fun _ m12 =>
  some ((some (), m12))
noncomputable def sf_134 (x1 : Int32) (x2 : Int32) (m : sh_X) : Option (Option Unit × sh_X) :=
  sh_bc (sf_83 x1 m) fun r1 =>
  sh_bc (sf_92 r1 m) fun r2 =>
  sh_bc (sf_120 r2 m) fun r3 =>
  sh_bt (sf_125 (sf_135 r3) x2 m) (fun m => (none, m)) fun _ m15 =>
  sh_bc (sf_117 ((m15.I 48 4) - 1) m15) fun r6 =>
  sh_bn (sf_118 1 m15) fun _ m17 =>
  sh_bc (sf_108 ((m17.I 48 4) - 1) m17) fun r8 =>
  if r8 = 0 then
    sh_bt (sf_90 (sf_96 r3) (x1 + 1) m17) (fun m => (none, m)) fun _ m20 =>
    sh_bc (sf_127 r2 m20) fun r11 =>
    sh_bc (sf_111 ((m17.I 48 4) - 1) m20) fun r12 =>
    sh_bn (sf_136 r11 r3 r12 r6 m20) fun r13 m23 =>
    sf_134_187 x1 r2 r13 m23
  else
    sh_bc (sf_108 ((m17.I 48 4) - 1) m17) fun r14 =>
    sh_bt (sf_90 (sf_138 r3 r14) (x1 + 1) m17) (fun m => (none, m)) fun _ m26 =>
    sh_bc (sf_127 r2 m26) fun r17 =>
    sh_bc (sf_117 ((m17.I 48 4) - 1) m26) fun r18 =>
    sh_bc (sf_108 ((m17.I 48 4) - 1) m26) fun r19 =>
    sh_bn (sf_139 r17 r3 r18 r19 r6 m26) fun r20 m30 =>
    sf_134_187 x1 r2 r20 m30
noncomputable def sf_143 (x1 : Int32) (m : sh_X) : Option (Unit × sh_X) :=
  if (m.I 41 11) < 1024 then
    if sh_okb (m.I 41 11) 1024 = true then
      some (((), ⟨m.T, sh_u2 (sh_u2 m.I 42 (Int32.toNatClampNeg (m.I 41 11)) x1) 41 11 ((m.I 41 11) + 1), m.J, m.s⟩))
    else none
  else
    some (((), m))
noncomputable def sf_142 (x1 : Int32) (m : sh_X) : Option (Option Unit × sh_X) :=
  sh_bt (sf_107 ((m.I 48 4) - 1) 160 m) (fun m => (none, m)) fun _ m11 =>
  sh_bt (sf_125 257 x1 m11) (fun m => (none, m)) fun _ m12 =>
  sh_bc (sf_117 ((m12.I 48 4) - 1) m12) fun r3 =>
  sh_bc (sf_103 r3 m12) fun r4 =>
  sh_bn (sf_118 1 m12) fun _ m15 =>
  sh_bn (sf_143 r4 m15) fun _ m16 =>
  sh_bn (sf_143 (m16.I 41 15) m16) fun _ m17 =>
  sh_bn (sf_143 (m17.I 53 4) m17) fun _ m18 =>
  sh_bn (sf_132 (m18.I 41 15) r4 m18) fun r9 m19 =>
  some ((some (), ⟨m19.T, sh_u2 (sh_u2 m19.I 41 15 r9) 41 16 ((m19.I 41 16) + 1), m19.J, m19.s⟩))
noncomputable def sf_145 (x1 : Int32) (m : sh_X) : Option Int32 :=
  if 0 < x1 then
    if (m.I 41 11) < x1 then
      some (0)
    else
      if sh_okb ((m.I 41 11) - x1) 1024 = true then
        some (m.I 42 (Int32.toNatClampNeg ((m.I 41 11) - x1)))
      else none
  else
    some (0)
noncomputable def sf_146 (x1 : Int32) (m : sh_X) : Option (Unit × sh_X) :=
  some (((), ⟨m.T, sh_u2 m.I 53 4 (sf_42 0 (sf_21 (m.I 53 4) x1)), m.J, m.s⟩))
noncomputable def sf_144 (m : sh_X) : Option (Unit × sh_X) :=
  sh_bc (sf_145 1 m) fun r1 =>
  sh_bn (sf_146 r1 m) fun _ m12 =>
  sh_bc (sf_145 2 m12) fun r3 =>
  sh_bc (sf_145 3 m12) fun r4 =>
  sh_bn (sf_141 r4 m12) fun r5 m15 =>
  sh_bn (sf_132 r3 r5 m15) fun r6 m16 =>
  some (((), ⟨m16.T, sh_u2 m16.I 41 15 r6, m16.J, m16.s⟩))
noncomputable def sf_148_17 (m : sh_X) : Option (Int32 × sh_X) :=
  if sh_okb (m.I 41 11) 1024 = true then
    some ((m.I 42 (Int32.toNatClampNeg (m.I 41 11)), m))
  else none
noncomputable def sf_148 (m : sh_X) : Option (Int32 × sh_X) :=
  if 0 < (m.I 41 11) then
    sf_148_17  ⟨m.T, sh_u2 m.I 41 11 ((m.I 41 11) - 1), m.J, m.s⟩
  else
    sf_148_17  m
noncomputable def sf_147 (m : sh_X) : Option (Unit × sh_X) :=
  sh_bn (sf_148 m) fun r1 m11 =>
  sh_bn (sf_146 r1 m11) fun _ m12 =>
  sh_bn (sf_148 m12) fun r3 m13 =>
  sh_bn (sf_148 ⟨m13.T, sh_u2 m13.I 41 15 r3, m13.J, m13.s⟩) fun r4 m14 =>
  some (((), ⟨m14.T, sh_u2 m14.I 41 16 ((m14.I 41 16) - 1), m14.J, m14.s⟩))
noncomputable def sf_150 (x1 : Int32) (x2 : Int64) (m : sh_X) : Option (Option Unit × sh_X) :=
  sh_bt (sf_90 1 x1 m) (fun m => (none, m)) fun _ m11 =>
  sh_bc (sf_83 x1 m11) fun r2 =>
  sh_bn (sf_105 r2 0 0 x2 m11) fun _ m13 =>
  some ((some (), m13))
noncomputable def sf_149_71 (x1 : Int32) (x2 : Int32) (x3 : Int64) (x5 : Int64) (m : sh_X) : Option (Option Unit × sh_X) :=
  if x3 < x5 then
    sh_bn (sf_143 (m.I 53 4) m) fun _ m11 =>
    sh_bt (sf_150 x1 x3 m11) (fun m => (none, m)) fun _ m12 =>
    some ((some (), m12))
  else
    some ((some (), ⟨m.T, sh_u2 m.I 41 13 x2, m.J, m.s⟩))
noncomputable def sf_149_28 (x1 : Int32) (x2 : Int32) (m : sh_X) : Option (Option Unit × sh_X) :=
  sh_bc (sf_66 (x1 + 2) m) fun r1 =>
  sh_bc (sf_66 (x1 + 4) m) fun r2 =>
  if 256 < (r2 - r1) then
    sh_bt (sf_50 4 x1 m) (fun m => (none, m)) fun _ m13 =>
    sf_149_71 x1 x2 r1 r2 m13
  else
    sf_149_71 x1 x2 r1 r2 m
noncomputable def sf_149 (x1 : Int32) (x2 : Int32) (m : sh_X) : Option (Option Unit × sh_X) :=
  sh_bc (sf_83 x1 m) fun r1 =>
  sh_bc (sf_92 r1 m) fun r2 =>
  if r2 = (-1) then
    sf_149_28 x1 x2 m
  else
    sh_bt (sf_50 3 x1 m) (fun m => (none, m)) fun _ m13 =>
    sf_149_28 x1 x2 m13
noncomputable def sf_152 (x1 : Int32) (m : sh_X) : Option Int64 :=
  sh_bc (sf_121 x1 m) fun r1 =>
  if r1 = true then
    if sh_okb x1 1024 = true then
      some (m.J 57 (Int32.toNatClampNeg x1))
    else none
  else
    some (0)
noncomputable def sf_151 (x1 : Int32) (x2 : Int32) (m : sh_X) : Option (Option Unit × sh_X) :=
  sh_bc (sf_145 1 m) fun r1 =>
  sh_bc (sf_152 r1 m) fun r2 =>
  sh_bc (sf_145 1 m) fun r3 =>
  sh_bn (sf_146 r3 m) fun _ m14 =>
  sh_bc (sf_66 (x1 + 4) m14) fun r5 =>
  if (r2 + (1 : Int64)) < r5 then
    sh_bt (sf_150 x1 (r2 + (1 : Int64)) m14) (fun m => (none, m)) fun _ m16 =>
    some ((some (), ⟨m16.T, sh_u2 m16.I 41 13 (x2 + 1), m16.J, m16.s⟩))
  else
    sh_bn (sf_148 m14) fun r7 m17 =>
    some ((some (), m17))
noncomputable def sf_153_21 (x1 : Int32) (m : sh_X) : Option (Option Unit × sh_X) :=
  sh_bt (sf_50 4 x1 m) (fun m => (none, m)) fun _ m11 =>
  some ((some (), m11))
noncomputable def sf_153 (x1 : Int32) (m : sh_X) : Option (Option Unit × sh_X) :=
  if 0 < (m.I 41 16) then
    sf_153_21 x1 m
  else
    if (m.I 41 18) < (m.I 28 12) then
      sf_153_21 x1 m
    else
      some ((some (), m))
noncomputable def sf_154_59 (x2 : Int32) (x3 : Int32) (m : sh_X) : Option (Option Unit × sh_X) :=
  sh_bc (sf_117 x2 m) fun r1 =>
  sh_bn (sf_101 23 x3 r1 m) fun _ m12 =>
  sh_bn (sf_118 1 m12) fun _ m13 =>
  some ((some (), m13))
noncomputable def sf_154 (x1 : Int32) (m : sh_X) : Option (Option Unit × sh_X) :=
  sh_bt (sf_107 ((m.I 48 4) - 1) 160 m) (fun m => (none, m)) fun _ m11 =>
  sh_bc (sf_108 ((m.I 48 4) - 1) m11) fun r2 =>
  sh_bc (sf_95 23 (sf_42 1 (sf_93 r2)) (sf_94 r2) m11) fun r6 =>
  if r6 = true then
    sf_154_59 ((m.I 48 4) - 1) r2 m11
  else
    sh_bt (sf_50 6 x1 m11) (fun m => (none, m)) fun _ m17 =>
    sf_154_59 ((m.I 48 4) - 1) r2 m17
noncomputable def sf_156 (x1 : Int32) (m : sh_X) : Option Bool :=
  if x1 < 0 then
    some (false)
  else
    if x1 < (m.I 28 12) then
      some (true)
    else
      some (false)
noncomputable def sf_155_60 (x3 : Int32) (m : sh_X) : Option (Option Unit × sh_X) :=
  if (m.I 41 12) < 1024 then
    if sh_okb (m.I 41 12) 1024 = true then
      some ((some (), ⟨m.T, sh_u2 (sh_u2 m.I 43 (Int32.toNatClampNeg (m.I 41 12)) x3) 41 12 ((m.I 41 12) + 1), m.J, m.s⟩))
    else none
  else
    some ((some (), m))
noncomputable def sf_155 (x1 : Int32) (x2 : Int32) (m : sh_X) : Option (Option Unit × sh_X) :=
  sh_bc (sf_83 x1 m) fun r1 =>
  sh_bc (sf_84 r1 (m.I 41 18) m) fun r2 =>
  sh_bc (sf_156 r2 m) fun r3 =>
  if r3 = true then
    if sh_okb r2 256 = true then
      if (m.I 33 (Int32.toNatClampNeg r2)) = x2 then
        sf_155_60 r2 m
      else
        sh_bt (sf_50 4 x1 m) (fun m => (none, m)) fun _ m14 =>
        sf_155_60 r2 m14
    else none
  else
    sh_bt (sf_50 3 x1 m) (fun m => (none, m)) fun _ m15 =>
    some ((some (), m15))
noncomputable def sf_158 (m : sh_X) : Option Int32 :=
  if 0 < (m.I 41 12) then
    if sh_okb ((m.I 41 12) - 1) 1024 = true then
      some (m.I 43 (Int32.toNatClampNeg ((m.I 41 12) - 1)))
    else none
  else
    some (0)
noncomputable def sf_157_21 (x1 : Int32) (m : sh_X) : Option (Option Unit × sh_X) :=
  sh_bc (sf_158 m) fun r1 =>
  if sh_okb r1 256 = true then
    sh_bt (sf_90 (1 + (m.I 33 (Int32.toNatClampNeg r1))) x1 m) (fun m => (none, m)) fun _ m12 =>
    some ((some (), m12))
  else none
noncomputable def sf_157 (x1 : Int32) (x2 : Int32) (m : sh_X) : Option (Option Unit × sh_X) :=
  if 20 < ((m.I 41 17) + x2) then
    sh_bt (sf_50 6 x1 m) (fun m => (none, m)) fun _ m11 =>
    sf_157_21 x1 m11
  else
    sf_157_21 x1 m
noncomputable def sf_159 (x1 : Int32) (x2 : Int32) (m : sh_X) : Option (Option Unit × sh_X) :=
  sh_bc (sf_158 m) fun r1 =>
  if ((r1 * 8) + x2) < 0 then
    some ((some (), m))
  else
    if ((r1 * 8) + x2) < 2048 then
      if sh_okb ((r1 * 8) + x2) 2048 = true then
        sh_bt (sf_125 (m.I 35 (Int32.toNatClampNeg ((r1 * 8) + x2))) x1 m) (fun m => (none, m)) fun _ m12 =>
        some ((some (), m12))
      else none
    else
      some ((some (), m))
noncomputable def sf_160_167 (x1 : Int32) (x2 : Int32) (x3 : Int32) (m : sh_X) : Option (Unit × sh_X) :=
  sh_bn (sf_118 x3 m) fun _ m11 =>
  if sh_okb x2 256 = true then
    some (((), ⟨m11.T, sh_u2 (sh_u2 (sh_u2 m11.I 41 17 ((m11.I 41 17) + x1)) 41 18 x2) 41 13 (m11.I 30 (Int32.toNatClampNeg x2)), m11.J, m11.s⟩))
  else none
noncomputable def sf_160_81s (x1 : Int32) (x2 : Int32) (x3 : Int32) (x4 : Int32) (m : sh_X) : Option ((Int32 × sh_X) ⊕ (Unit × sh_X)) :=
  if x4 < x3 then
    if x4 < 8 then
      sh_bc (sf_117 (((m.I 48 4) - x3) + x4) m) fun r1 =>
      if sh_okb ((x2 * 8) + x4) 2048 = true then
        sh_bc (sf_83 (m.I 34 (Int32.toNatClampNeg ((x2 * 8) + x4))) m) fun r2 =>
        if sh_okb ((x2 * 8) + x4) 2048 = true then
          sh_bn (sf_105 r2 (m.I 35 (Int32.toNatClampNeg ((x2 * 8) + x4))) r1 0 m) fun _ m13 =>
          some (.inl (x4 + 1, m13))
        else none
      else none
    else
      sh_up (sf_160_167 x1 x2 x3 m)
  else
    sh_up (sf_160_167 x1 x2 x3 m)
noncomputable def sf_160_81 (x1 : Int32) (x2 : Int32) (x3 : Int32) (x4 : Int32) (m : sh_X) : Option (Unit × sh_X) := sh_while (fun q => sf_160_81s x1 x2 x3 q.1 q.2) (x4, m)
noncomputable def sf_160 (x1 : Int32) (m : sh_X) : Option (Unit × sh_X) :=
  sh_bc (sf_158 m) fun r1 =>
  if sh_okb r1 256 = true then
    sh_bn (sf_143 (m.I 41 13) ⟨m.T, sh_u2 m.I 41 12 (sf_42 0 ((m.I 41 12) - 1)), m.J, m.s⟩) fun _ m13 =>
    sh_bn (sf_143 (m13.I 53 5) m13) fun _ m14 =>
    sh_bn (sf_143 (m14.I 41 17) m14) fun _ m15 =>
    sh_bn (sf_143 (m15.I 41 18) m15) fun _ m16 =>
    sf_160_81 x1 r1 (m.I 33 (Int32.toNatClampNeg r1)) 0 ⟨m16.T, sh_u2 m16.I 53 5 (m16.I 53 4), m16.J, m16.s⟩
  else none
noncomputable def sf_161_31 (m : sh_X) : Option (Option Unit × sh_X) :=
  sh_bn (sf_146 (m.I 53 5) m) fun _ m11 =>
  sh_bn (sf_148 m11) fun r2 m12 =>
  sh_bn (sf_148 ⟨m12.T, sh_u2 m12.I 41 18 r2, m12.J, m12.s⟩) fun r3 m13 =>
  sh_bn (sf_148 ⟨m13.T, sh_u2 m13.I 41 17 r3, m13.J, m13.s⟩) fun r4 m14 =>
  sh_bn (sf_148 ⟨m14.T, sh_u2 m14.I 53 5 r4, m14.J, m14.s⟩) fun r5 m15 =>
  some ((some (), ⟨m15.T, sh_u2 m15.I 41 13 r5, m15.J, m15.s⟩))
noncomputable def sf_161 (x1 : Int32) (m : sh_X) : Option (Option Unit × sh_X) :=
  sh_bc (sf_156 (m.I 41 18) m) fun r1 =>
  if r1 = true then
    if sh_okb (m.I 41 18) 256 = true then
      sh_bt (sf_125 (m.I 32 (Int32.toNatClampNeg (m.I 41 18))) x1 m) (fun m => (none, m)) fun _ m12 =>
      sf_161_31  m12
    else none
  else
    sf_161_31  m
noncomputable def sf_162 (x1 : Int64) (x3 : Int32) (m : sh_X) : Option (Unit × sh_X) :=
  if (m.I 48 4) < 2048 then
    if sh_okb (m.I 48 4) 2048 = true then
      if sh_okb (m.I 48 4) 2048 = true then
        if sh_okb (m.I 48 4) 2048 = true then
          some (((), ⟨m.T, sh_u2 (sh_u2 (sh_u2 m.I 49 (Int32.toNatClampNeg (m.I 48 4)) 0) 52 (Int32.toNatClampNeg (m.I 48 4)) x3) 48 4 ((m.I 48 4) + 1), sh_u2 m.J 51 (Int32.toNatClampNeg (m.I 48 4)) x1, m.s⟩))
        else none
      else none
    else none
  else
    some (((), m))
noncomputable def sf_163 (x1 : Int32) (x2 : Int32) (m : sh_X) : Option (Unit × sh_X) :=
  if (m.I 48 4) < 2048 then
    sh_bn (sf_116 (((m.I 48 4) + 1) - 1) x1 x2 ⟨m.T, sh_u2 m.I 48 4 ((m.I 48 4) + 1), m.J, m.s⟩) fun _ m11 =>
    some (((), m11))
  else
    some (((), m))
noncomputable def sf_164_30 (x1 : Int32) (x2 : Int32) (m : sh_X) : Option (Option Unit × sh_X) :=
  sh_bc (sf_120 x2 m) fun r1 =>
  if r1 = 0 then
    sh_bc (sf_152 x2 m) fun r2 =>
    sh_bn (sf_162 r2 x1 m) fun _ m13 =>
    some ((some (), m13))
  else
    sh_bc (sf_120 x2 m) fun r4 =>
    sh_bc (sf_127 x2 m) fun r5 =>
    sh_bn (sf_163 r4 r5 m) fun _ m16 =>
    some ((some (), m16))
noncomputable def sf_164 (x1 : Int32) (m : sh_X) : Option (Option Unit × sh_X) :=
  sh_bc (sf_83 x1 m) fun r1 =>
  sh_bc (sf_92 r1 m) fun r2 =>
  if r2 = (-1) then
    sh_bt (sf_50 3 x1 m) (fun m => (none, m)) fun _ m13 =>
    sf_164_30 x1 r2 m13
  else
    sf_164_30 x1 r2 m
noncomputable def sf_166_13s (x1 : Int32) (x2 : Int32) (x3 : Int32) (x4 : Int32) (x5 : Int32) (x6 : Int32) (m : sh_X) : Option ((Int32 × Int32 × sh_X) ⊕ (Int32 × sh_X)) :=
  if x6 < x2 then
    sh_bc (sf_103 (x1 + x6) m) fun r1 =>
    sh_bn (sf_130 r1 x3 m) fun r2 m12 =>
    sh_bn (sf_130 r2 x5 m12) fun r3 m13 =>
    sh_bn (sf_100 (x4 + x6) r3 m13) fun _ m14 =>
    sh_bn (sf_132 r2 x5 m14) fun r5 m15 =>
    some (.inl (r5, x6 + 1, m15))
  else
    some (.inr ((x4, m)))
noncomputable def sf_166_13 (x1 : Int32) (x2 : Int32) (x3 : Int32) (x4 : Int32) (x5 : Int32) (x6 : Int32) (m : sh_X) : Option (Int32 × sh_X) := sh_while (fun q => sf_166_13s x1 x2 x3 x4 q.1 q.2.1 q.2.2) (x5, x6, m)
noncomputable def sf_166 (x1 : Int32) (x2 : Int32) (x3 : Int32) (m : sh_X) : Option (Int32 × sh_X) :=
  sh_bn (sf_98 x2 m) fun r1 m11 =>
  sf_166_13 x1 x2 x3 r1 x3 0 m11
noncomputable def sf_167 (x1 : Int32) (x2 : Int32) (x3 : Int32) (m : sh_X) : Option (Unit × sh_X) :=
  sh_bn (sf_118 x1 m) fun _ m11 =>
  sh_bn (sf_163 x2 x3 m11) fun _ m12 =>
  some (((), m12))
noncomputable def sf_165_69 (x1 : Int32) (x2 : Int32) (x3 : Int32) (m : sh_X) : Option (Option Unit × sh_X) :=
  sh_bt (sf_90 (sf_94 x3) x1 m) (fun m => (none, m)) fun _ m12 =>
  sh_bc (sf_117 x2 m12) fun r3 =>
  sh_bn (sf_166 r3 (sf_94 x3) 1 m12) fun r5 m15 =>
  sh_bn (sf_167 1 x3 r5 m15) fun _ m16 =>
  some ((some (), m16))
noncomputable def sf_165 (x1 : Int32) (m : sh_X) : Option (Option Unit × sh_X) :=
  sh_bc (sf_108 ((m.I 48 4) - 1) m) fun r1 =>
  if r1 = 0 then
    sh_bc (sf_111 ((m.I 48 4) - 1) m) fun r2 =>
    sh_bn (sf_118 1 m) fun _ m13 =>
    sh_bn (sf_162 (-r2) x1 m13) fun _ m14 =>
    some ((some (), m14))
  else
    if (sf_113 r1) = true then
      sf_165_69 x1 ((m.I 48 4) - 1) r1 m
    else
      sh_bt (sf_50 4 x1 m) (fun m => (none, m)) fun _ m16 =>
      sf_165_69 x1 ((m.I 48 4) - 1) r1 m16
noncomputable def sf_169_9s (x1 : Int32) (x2 : Int32) (x3 : Int32) (x4 : Int32) (m : sh_X) : Option ((Int32 × sh_X) ⊕ (Int32 × sh_X)) :=
  if x4 < x2 then
    sh_bc (sf_103 (x1 + x4) m) fun r1 =>
    sh_bn (sf_141 r1 m) fun r2 m12 =>
    sh_bn (sf_100 (x3 + x4) r2 m12) fun _ m13 =>
    some (.inl (x4 + 1, m13))
  else
    some (.inr ((x3, m)))
noncomputable def sf_169_9 (x1 : Int32) (x2 : Int32) (x3 : Int32) (x4 : Int32) (m : sh_X) : Option (Int32 × sh_X) := sh_while (fun q => sf_169_9s x1 x2 x3 q.1 q.2) (x4, m)
noncomputable def sf_169 (x1 : Int32) (x2 : Int32) (m : sh_X) : Option (Int32 × sh_X) :=
  sh_bn (sf_98 x2 m) fun r1 m11 =>
  sf_169_9 x1 x2 r1 0 m11
noncomputable def sf_168_43 (x1 : Int32) (x2 : Int32) (x3 : Int32) (m : sh_X) : Option (Option Unit × sh_X) :=
  sh_bt (sf_90 (sf_94 x3) x1 m) (fun m => (none, m)) fun _ m12 =>
  sh_bc (sf_117 x2 m12) fun r3 =>
  sh_bn (sf_169 r3 (sf_94 x3) m12) fun r5 m15 =>
  sh_bn (sf_167 1 x3 r5 m15) fun _ m16 =>
  some ((some (), m16))
noncomputable def sf_168 (x1 : Int32) (m : sh_X) : Option (Option Unit × sh_X) :=
  sh_bt (sf_107 ((m.I 48 4) - 1) 160 m) (fun m => (none, m)) fun _ m11 =>
  sh_bc (sf_108 ((m.I 48 4) - 1) m11) fun r2 =>
  if (sf_123 r2) = true then
    sh_bt (sf_50 4 x1 m11) (fun m => (none, m)) fun _ m14 =>
    sf_168_43 x1 ((m.I 48 4) - 1) r2 m14
  else
    sf_168_43 x1 ((m.I 48 4) - 1) r2 m11
noncomputable def sf_170 (x1 : Int32) (m : sh_X) : Option (Option Unit × sh_X) :=
  sh_bt (sf_107 ((m.I 48 4) - 1) 160 m) (fun m => (none, m)) fun _ m11 =>
  sh_bt (sf_125 257 x1 m11) (fun m => (none, m)) fun _ m12 =>
  sh_bt (sf_90 1 x1 m12) (fun m => (none, m)) fun _ m13 =>
  sh_bc (sf_117 ((m13.I 48 4) - 1) m13) fun r4 =>
  sh_bn (sf_169 r4 1 m13) fun r5 m15 =>
  sh_bn (sf_167 1 257 r5 m15) fun _ m16 =>
  some ((some (), m16))
noncomputable def sf_174 (x0 : Int64) (x2 : Int64) : Int64 :=
  if x2 < x0 then
    x2
  else
    x0
noncomputable def sf_173_75 (x1 : Int32) (x2 : Int32) (x5 : Bool) (x6 : Int32) (x7 : Int32) (x8 : Int32) (x9 : Int32) (y1 : Int32) (y2 : Int32) (m : sh_X) : Option ((Int32 × sh_X) ⊕ (Int32 × sh_X)) :=
  sh_bn (sf_100 y1 y2 m) fun _ m11 =>
  some (.inl (x9 + 1, m11))
noncomputable def sf_173_73 (x1 : Int32) (x2 : Int32) (x5 : Bool) (x6 : Int32) (x7 : Int32) (x8 : Int32) (x9 : Int32) (y1 : Int32) (m : sh_X) : Option ((Int32 × sh_X) ⊕ (Int32 × sh_X)) :=
  sf_173_75 x1 x2 x5 x6 x7 x8 x9 y1 x6 m
noncomputable def sf_173_43 (x1 : Int32) (x2 : Int32) (x5 : Bool) (x6 : Int32) (x7 : Int32) (x8 : Int32) (x9 : Int32) (y0 : Int32) (m : sh_X) : Option ((Int32 × sh_X) ⊕ (Int32 × sh_X)) :=
  if y0 < 0 then
    sf_173_73 x1 x2 x5 x6 x7 x8 x9 (x7 + x9) m
  else
    if y0 < x2 then
      sh_bc (sf_103 (x1 + y0) m) fun r1 =>
      sf_173_75 x1 x2 x5 x6 x7 x8 x9 (x7 + x9) r1 m
    else
      sf_173_73 x1 x2 x5 x6 x7 x8 x9 (x7 + x9) m
noncomputable def sf_173_19s (x1 : Int32) (x2 : Int32) (x5 : Bool) (x6 : Int32) (x7 : Int32) (x8 : Int32) (x9 : Int32) (m : sh_X) : Option ((Int32 × sh_X) ⊕ (Int32 × sh_X)) :=
  if x9 < x2 then
    if x5 = true then
      sf_173_43 x1 x2 x5 x6 x7 x8 x9 (x9 - x8) m
    else
      sf_173_43 x1 x2 x5 x6 x7 x8 x9 (x9 + x8) m
  else
    some (.inr ((x7, m)))
noncomputable def sf_173_19 (x1 : Int32) (x2 : Int32) (x5 : Bool) (x6 : Int32) (x7 : Int32) (x8 : Int32) (x9 : Int32) (m : sh_X) : Option (Int32 × sh_X) := sh_while (fun q => sf_173_19s x1 x2 x5 x6 x7 x8 q.1 q.2) (x9, m)
noncomputable def sf_173 (x1 : Int32) (x2 : Int32) (x3 : Int64) (x5 : Bool) (x6 : Int32) (m : sh_X) : Option (Int32 × sh_X) :=
  sh_bn (sf_98 x2 m) fun r1 m11 =>
  sf_173_19 x1 x2 x5 x6 r1 (Int64.toInt32 (sf_174 x3 (Int32.toInt64 x2))) 0 m11
noncomputable def sf_175_118 (x2 : Int32) (x3 : Int32) (x4 : Int32) (x5 : Bool) (x6 : Int32) (x7 : Int32) (x8 : Int32) (x9 : Int32) (x10 : Int32) (x11 : Int32) (y0 : Int32) (m : sh_X) : Option ((Int32 × sh_X) ⊕ ((Int32 × sh_X) ⊕ (Int32 × sh_X))) :=
  sh_bc (sf_103 (x3 + x8) m) fun r1 =>
  sh_bc (sf_103 (x7 + x11) m) fun r2 =>
  sh_bn (sf_129 r1 y0 r2 m) fun r3 m13 =>
  sh_bn (sf_100 (x7 + x11) r3 m13) fun _ m14 =>
  some (.inl (x10 + 1, m14))
noncomputable def sf_175_116 (x2 : Int32) (x3 : Int32) (x4 : Int32) (x5 : Bool) (x6 : Int32) (x7 : Int32) (x8 : Int32) (x9 : Int32) (x10 : Int32) (x11 : Int32) (m : sh_X) : Option ((Int32 × sh_X) ⊕ ((Int32 × sh_X) ⊕ (Int32 × sh_X))) :=
  sf_175_118 x2 x3 x4 x5 x6 x7 x8 x9 x10 x11 x6 m
noncomputable def sf_175_91 (x2 : Int32) (x3 : Int32) (x4 : Int32) (x5 : Bool) (x6 : Int32) (x7 : Int32) (x8 : Int32) (x9 : Int32) (x10 : Int32) (x11 : Int32) (y0 : Int32) (m : sh_X) : Option ((Int32 × sh_X) ⊕ ((Int32 × sh_X) ⊕ (Int32 × sh_X))) :=
  if y0 < 0 then
    sf_175_116 x2 x3 x4 x5 x6 x7 x8 x9 x10 x11 m
  else
    if y0 < x2 then
      sh_bc (sf_103 (x7 + y0) m) fun r1 =>
      sf_175_118 x2 x3 x4 x5 x6 x7 x8 x9 x10 x11 r1 m
    else
      sf_175_116 x2 x3 x4 x5 x6 x7 x8 x9 x10 x11 m
noncomputable def sf_175_71 (x2 : Int32) (x3 : Int32) (x4 : Int32) (x5 : Bool) (x6 : Int32) (x7 : Int32) (x8 : Int32) (x9 : Int32) (x10 : Int32) (y0 : Int32) (m : sh_X) : Option ((Int32 × sh_X) ⊕ ((Int32 × sh_X) ⊕ (Int32 × sh_X))) :=
  if x5 = true then
    sf_175_91 x2 x3 x4 x5 x6 x7 x8 x9 x10 y0 (y0 - x9) m
  else
    sf_175_91 x2 x3 x4 x5 x6 x7 x8 x9 x10 y0 (y0 + x9) m
noncomputable def sf_175_49s (x2 : Int32) (x3 : Int32) (x4 : Int32) (x5 : Bool) (x6 : Int32) (x7 : Int32) (x8 : Int32) (x9 : Int32) (x10 : Int32) (m : sh_X) : Option ((Int32 × sh_X) ⊕ ((Int32 × sh_X) ⊕ (Int32 × sh_X))) :=
  if x10 < x2 then
    if x5 = true then
      sf_175_71 x2 x3 x4 x5 x6 x7 x8 x9 x10 ((x2 - 1) - x10) m
    else
      sf_175_71 x2 x3 x4 x5 x6 x7 x8 x9 x10 x10 m
  else
    some (.inr (.inl (x8 + 1, m)))
noncomputable def sf_175_49 (x2 : Int32) (x3 : Int32) (x4 : Int32) (x5 : Bool) (x6 : Int32) (x7 : Int32) (x8 : Int32) (x9 : Int32) (x10 : Int32) (m : sh_X) : Option ((Int32 × sh_X) ⊕ (Int32 × sh_X)) := sh_while (fun q => sf_175_49s x2 x3 x4 x5 x6 x7 x8 x9 q.1 q.2) (x10, m)
noncomputable def sf_175_44 (x2 : Int32) (x3 : Int32) (x4 : Int32) (x5 : Bool) (x6 : Int32) (x7 : Int32) (x8 : Int32) (y0 : Int32) (m : sh_X) : Option ((Int32 × sh_X) ⊕ (Int32 × sh_X)) :=
  sf_175_49 x2 x3 x4 x5 x6 x7 x8 y0 0 m
noncomputable def sf_175_18s (x2 : Int32) (x3 : Int32) (x4 : Int32) (x5 : Bool) (x6 : Int32) (x7 : Int32) (x8 : Int32) (m : sh_X) : Option ((Int32 × sh_X) ⊕ (Int32 × sh_X)) :=
  if x8 < x4 then
    if x8 < 6 then
      sf_175_44 x2 x3 x4 x5 x6 x7 x8 (sf_21 ((1 : Int32) <<< (x8 &&& 31)) x2) m
    else
      sf_175_44 x2 x3 x4 x5 x6 x7 x8 x2 m
  else
    some (.inr ((x7, m)))
noncomputable def sf_175_18 (x2 : Int32) (x3 : Int32) (x4 : Int32) (x5 : Bool) (x6 : Int32) (x7 : Int32) (x8 : Int32) (m : sh_X) : Option (Int32 × sh_X) := sh_while (fun q => sf_175_18s x2 x3 x4 x5 x6 x7 q.1 q.2) (x8, m)
noncomputable def sf_175 (x1 : Int32) (x2 : Int32) (x3 : Int32) (x4 : Int32) (x5 : Bool) (x6 : Int32) (m : sh_X) : Option (Int32 × sh_X) :=
  sh_bn (sf_98 x2 m) fun r1 m11 =>
  sh_bn (sf_137 x1 r1 x2 m11) fun _ m12 =>
  sf_175_18 x2 x3 x4 x5 x6 r1 0 m12
noncomputable def sf_172_265 (x5 : Int32) (y0 : Int32) (m : sh_X) : Option (Option Unit × sh_X) :=
  sh_bn (sf_167 2 x5 y0 m) fun _ m11 =>
  some ((some (), m11))
noncomputable def sf_172_204 (x2 : Bool) (x4 : Int32) (x5 : Int32) (x6 : Int32) (x7 : Bool) (x9 : Int32) (x10 : Int32) (y0 : Int32) (m : sh_X) : Option (Option Unit × sh_X) :=
  if x7 = true then
    sh_bc (sf_111 x4 m) fun r1 =>
    sh_bn (sf_173 x10 x9 r1 x2 y0 m) fun r2 m12 =>
    sf_172_265 x5 r2 m12
  else
    sh_bc (sf_117 x4 m) fun r3 =>
    sh_bn (sf_175 x10 x9 r3 (sf_94 x6) x2 y0 m) fun r5 m15 =>
    sf_172_265 x5 r5 m15
noncomputable def sf_172_203 (x2 : Bool) (x4 : Int32) (x5 : Int32) (x6 : Int32) (x7 : Bool) (x9 : Int32) (x10 : Int32) (m : sh_X) : Option (Option Unit × sh_X) :=
  sf_172_204 x2 x4 x5 x6 x7 x9 x10 0 m
noncomputable def sf_172_160 (x1 : Int32) (x2 : Bool) (x3 : Int32) (x4 : Int32) (x5 : Int32) (x6 : Int32) (x7 : Bool) (x9 : Int32) (y1 : Int32) (m : sh_X) : Option (Option Unit × sh_X) :=
  sh_bt (sf_90 y1 x1 m) (fun m => (none, m)) fun _ m11 =>
  sh_bc (sf_117 x3 m11) fun r2 =>
  if x2 = true then
    sf_172_203 x2 x4 x5 x6 x7 x9 r2 m11
  else
    if (sf_114 x5) = true then
      sh_bc (sf_103 ((r2 + x9) - 1) m11) fun r4 =>
      sf_172_204 x2 x4 x5 x6 x7 x9 r2 r4 m11
    else
      sf_172_203 x2 x4 x5 x6 x7 x9 r2 m11
noncomputable def sf_172_134 (x1 : Int32) (x2 : Bool) (x3 : Int32) (x4 : Int32) (x5 : Int32) (x6 : Int32) (x7 : Bool) (m : sh_X) : Option (Option Unit × sh_X) :=
  if x7 = true then
    sf_172_160 x1 x2 x3 x4 x5 x6 x7 (sf_94 x5) (sf_94 x5) m
  else
    sf_172_160 x1 x2 x3 x4 x5 x6 x7 (sf_94 x5) ((sf_94 x5) * (sf_94 x6)) m
noncomputable def sf_172_125 (x1 : Int32) (x2 : Bool) (x3 : Int32) (x4 : Int32) (x5 : Int32) (x6 : Int32) (x7 : Bool) (m : sh_X) : Option (Option Unit × sh_X) :=
  sh_bt (sf_50 4 x1 m) (fun m => (none, m)) fun _ m11 =>
  sf_172_134 x1 x2 x3 x4 x5 x6 x7 m11
noncomputable def sf_172_110 (x1 : Int32) (x2 : Bool) (x3 : Int32) (x4 : Int32) (x5 : Int32) (x6 : Int32) (x7 : Bool) (y0 : Bool) (m : sh_X) : Option (Option Unit × sh_X) :=
  if y0 = true then
    if (sf_113 x5) = true then
      sf_172_134 x1 x2 x3 x4 x5 x6 x7 m
    else
      sf_172_125 x1 x2 x3 x4 x5 x6 x7 m
  else
    sf_172_125 x1 x2 x3 x4 x5 x6 x7 m
noncomputable def sf_172_109 (x1 : Int32) (x2 : Bool) (x3 : Int32) (x4 : Int32) (x5 : Int32) (x6 : Int32) (x7 : Bool) (m : sh_X) : Option (Option Unit × sh_X) :=
  sf_172_110 x1 x2 x3 x4 x5 x6 x7 false m
noncomputable def sf_172_60 (x1 : Int32) (x2 : Bool) (x3 : Int32) (x4 : Int32) (x5 : Int32) (x6 : Int32) (y0 : Bool) (m : sh_X) : Option (Option Unit × sh_X) :=
  if y0 = true then
    sh_bc (sf_111 x4 m) fun r1 =>
    if r1 < 0 then
      sf_172_110 x1 x2 x3 x4 x5 x6 y0 false m
    else
      sf_172_110 x1 x2 x3 x4 x5 x6 y0 true m
  else
    if (sf_113 x6) = true then
      if (sf_114 x6) = true then
        sf_172_109 x1 x2 x3 x4 x5 x6 y0 m
      else
        sf_172_110 x1 x2 x3 x4 x5 x6 y0 true m
    else
      sf_172_109 x1 x2 x3 x4 x5 x6 y0 m
noncomputable def sf_172 (x1 : Int32) (x2 : Bool) (m : sh_X) : Option (Option Unit × sh_X) :=
  sh_bt (sf_107 ((m.I 48 4) - 2) 160 m) (fun m => (none, m)) fun _ m11 =>
  sh_bc (sf_108 ((m.I 48 4) - 2) m11) fun r2 =>
  sh_bc (sf_108 ((m.I 48 4) - 1) m11) fun r3 =>
  if r3 = 0 then
    sf_172_60 x1 x2 ((m.I 48 4) - 2) ((m.I 48 4) - 1) r2 r3 true m11
  else
    sf_172_60 x1 x2 ((m.I 48 4) - 2) ((m.I 48 4) - 1) r2 r3 false m11
noncomputable def sf_176 (x0 : Int32) (x1 : Int32) : Bool :=
  if x0 = 38 ∨ x0 = 94 ∨ x0 = 124 ∨ x0 = 8509 ∨ x0 = 15677 then
    if (sf_123 x1) = true then
      false
    else
      true
  else
  if x0 = 9766 ∨ x0 = 31868 then
    if x1 = 257 then
      true
    else
      false
  else
    sf_113 x1
noncomputable def sf_177_24 (x1 : Int32) : Int32 :=
  (2 * x1) * x1
noncomputable def sf_177 (x0 : Int32) (x1 : Int32) : Int32 :=
  if x0 = 42 then
    x1 * x1
  else
    if x0 = 47 then
      sf_177_24 x1
    else
      if x0 = 37 then
        sf_177_24 x1
      else
        x1
noncomputable def sf_180 (x1 : Int32) (x2 : Int32) (x3 : Int32) (x4 : Int32) (m : sh_X) : Option (Int32 × sh_X) :=
  sh_bn (sf_130 x2 x4 m) fun r1 m11 =>
  sh_bn (sf_130 x3 x4 m11) fun r2 m12 =>
  sh_bn (sf_130 r1 x3 m12) fun r3 m13 =>
  sh_bn (sf_100 x1 r3 m13) fun _ m14 =>
  sh_bn (sf_132 r1 r2 m14) fun r5 m15 =>
  sh_bn (sf_130 r5 x4 m15) fun r6 m16 =>
  some ((r6, m16))
noncomputable def sf_179_14s (x1 : Int32) (x2 : Int32) (x3 : Int32) (x4 : Int32) (x5 : Int32) (x6 : Int32) (x7 : Int32) (m : sh_X) : Option ((Int32 × Int32 × sh_X) ⊕ (Int32 × sh_X)) :=
  if x7 < x3 then
    sh_bc (sf_103 (x1 + x7) m) fun r1 =>
    sh_bc (sf_103 (x2 + x7) m) fun r2 =>
    sh_bn (sf_130 r2 x4 m) fun r3 m13 =>
    sh_bn (sf_180 (x5 + x7) r1 r3 x6 m13) fun r4 m14 =>
    some (.inl (r4, x7 + 1, m14))
  else
    some (.inr ((x5, m)))
noncomputable def sf_179_14 (x1 : Int32) (x2 : Int32) (x3 : Int32) (x4 : Int32) (x5 : Int32) (x6 : Int32) (x7 : Int32) (m : sh_X) : Option (Int32 × sh_X) := sh_while (fun q => sf_179_14s x1 x2 x3 x4 x5 q.1 q.2.1 q.2.2) (x6, x7, m)
noncomputable def sf_179 (x1 : Int32) (x2 : Int32) (x3 : Int32) (x4 : Int32) (m : sh_X) : Option (Int32 × sh_X) :=
  sh_bn (sf_98 x3 m) fun r1 m11 =>
  sf_179_14 x1 x2 x3 x4 r1 x4 0 m11
noncomputable def sf_181_67s (x1 : Int32) (x2 : Int32) (x3 : Int32) (x4 : Int32) (x5 : Int32) (x6 : Int32) (x7 : Int32) (m : sh_X) : Option ((Int32 × Int32 × sh_X) ⊕ ((Int32 × sh_X) ⊕ (Int32 × sh_X))) :=
  if x7 < x3 then
    sh_bc (sf_103 ((x1 + x7) - x5) m) fun r1 =>
    sh_bc (sf_103 (x2 + x5) m) fun r2 =>
    sh_bn (sf_132 r1 r2 m) fun r3 m13 =>
    sh_bc (sf_103 (x4 + x7) m13) fun r4 =>
    sh_bn (sf_180 (x4 + x7) r4 r3 x6 m13) fun r5 m15 =>
    some (.inl (r5, x7 + 1, m15))
  else
    some (.inr (.inl (x5 + 1, m)))
noncomputable def sf_181_67 (x1 : Int32) (x2 : Int32) (x3 : Int32) (x4 : Int32) (x5 : Int32) (x6 : Int32) (x7 : Int32) (m : sh_X) : Option ((Int32 × sh_X) ⊕ (Int32 × sh_X)) := sh_while (fun q => sf_181_67s x1 x2 x3 x4 x5 q.1 q.2.1 q.2.2) (x6, x7, m)
noncomputable def sf_181_54s (x1 : Int32) (x2 : Int32) (x3 : Int32) (x4 : Int32) (x5 : Int32) (m : sh_X) : Option ((Int32 × sh_X) ⊕ (Int32 × sh_X)) :=
  if x5 < x3 then
    sf_181_67 x1 x2 x3 x4 x5 0 x5 m
  else
    some (.inr ((x4, m)))
noncomputable def sf_181_54 (x1 : Int32) (x2 : Int32) (x3 : Int32) (x4 : Int32) (x5 : Int32) (m : sh_X) : Option (Int32 × sh_X) := sh_while (fun q => sf_181_54s x1 x2 x3 x4 q.1 q.2) (x5, m)
noncomputable def sf_181_10s (x1 : Int32) (x2 : Int32) (x3 : Int32) (x4 : Int32) (x5 : Int32) (m : sh_X) : Option ((Int32 × sh_X) ⊕ (Int32 × sh_X)) :=
  if x5 < x3 then
    sh_bc (sf_103 (x1 + x5) m) fun r1 =>
    sh_bc (sf_103 x2 m) fun r2 =>
    sh_bn (sf_132 r1 r2 m) fun r3 m13 =>
    sh_bn (sf_100 (x4 + x5) r3 m13) fun _ m14 =>
    some (.inl (x5 + 1, m14))
  else
    sh_up (sf_181_54 x1 x2 x3 x4 1 m)
noncomputable def sf_181_10 (x1 : Int32) (x2 : Int32) (x3 : Int32) (x4 : Int32) (x5 : Int32) (m : sh_X) : Option (Int32 × sh_X) := sh_while (fun q => sf_181_10s x1 x2 x3 x4 q.1 q.2) (x5, m)
noncomputable def sf_181 (x1 : Int32) (x2 : Int32) (x3 : Int32) (m : sh_X) : Option (Int32 × sh_X) :=
  sh_bn (sf_98 x3 m) fun r1 m11 =>
  sf_181_10 x1 x2 x3 r1 0 m11
noncomputable def sf_185 (x1 : Int32) (x2 : Int32) (m : sh_X) : Option (Int32 × sh_X) :=
  if x1 = 1 then
    some ((1, m))
  else
    if x2 = 1 then
      some ((1, m))
    else
      if x1 = 0 then
        some ((x2, m))
      else
        if x1 = x2 then
          some ((x2, m))
        else
          if x2 = 0 then
            some ((x1, m))
          else
            sh_bn (sf_19 1 x1 x2 m) fun r1 m11 =>
            sh_bn (sf_19 2 x1 x2 m11) fun r2 m12 =>
            sh_bn (sf_19 1 r1 r2 m12) fun r3 m13 =>
            some ((r3, m13))
noncomputable def sf_183_253s (x1 : Int32) (x4 : Bool) (x5 : Int32) (x6 : Int32) (x7 : Int32) (x8 : Int32) (x10 : Int32) (x11 : Int32) (m : sh_X) : Option ((Int32 × sh_X) ⊕ ((Int32 × sh_X) ⊕ (Int32 × sh_X))) :=
  if x11 < x7 then
    if sh_okb x11 64 = true then
      if sh_okb x11 65 = true then
        sh_bn (sf_130 (m.I 47 (Int32.toNatClampNeg x11)) (m.I 46 (Int32.toNatClampNeg x11)) m) fun r1 m11 =>
        sh_bn (sf_132 x10 r1 m11) fun r2 m12 =>
        if sh_okb x11 65 = true then
          sh_bn (sf_130 (m12.I 46 (Int32.toNatClampNeg x11)) r2 m12) fun r3 m13 =>
          if sh_okb x11 65 = true then
            some (.inl (x11 + 1, ⟨m13.T, sh_u2 m13.I 46 (Int32.toNatClampNeg x11) r3, m13.J, m13.s⟩))
          else none
        else none
      else none
    else none
  else
    sh_bn (sf_100 (x5 + x8) x10 m) fun _ m14 =>
    some (.inr (.inl (x8 + (-1), m14)))
noncomputable def sf_183_253 (x1 : Int32) (x4 : Bool) (x5 : Int32) (x6 : Int32) (x7 : Int32) (x8 : Int32) (x10 : Int32) (x11 : Int32) (m : sh_X) : Option ((Int32 × sh_X) ⊕ (Int32 × sh_X)) := sh_while (fun q => sf_183_253s x1 x4 x5 x6 x7 x8 x10 q.1 q.2) (x11, m)
noncomputable def sf_183_133s (x1 : Int32) (x4 : Bool) (x5 : Int32) (x6 : Int32) (x7 : Int32) (x8 : Int32) (x9 : Int32) (x10 : Int32) (m : sh_X) : Option ((Int32 × Int32 × sh_X) ⊕ ((Int32 × sh_X) ⊕ (Int32 × sh_X))) :=
  if x10 < x7 then
    sh_bc (sf_103 (x6 + x10) m) fun r1 =>
    if sh_okb x10 65 = true then
      sh_bn (sf_130 (m.I 46 (Int32.toNatClampNeg x10)) x9 m) fun r2 m12 =>
      sh_bn (sf_130 r1 x9 m12) fun r3 m13 =>
      sh_bn (sf_130 r2 r1 m13) fun r4 m14 =>
      if sh_okb x10 64 = true then
        sh_bn (sf_132 r2 r3 ⟨m14.T, sh_u2 m14.I 47 (Int32.toNatClampNeg x10) r4, m14.J, m14.s⟩) fun r5 m15 =>
        sh_bn (sf_130 r5 x9 m15) fun r6 m16 =>
        some (.inl (r6, x10 + 1, m16))
      else none
    else none
  else
    if sh_okb (sf_42 0 x7) 65 = true then
      sh_bn (sf_185 (m.I 46 (Int32.toNatClampNeg (sf_42 0 x7))) x9 m) fun r8 m18 =>
      sh_up (sf_183_253 x1 x4 x5 x6 x7 x8 r8 0 m18)
    else none
noncomputable def sf_183_133 (x1 : Int32) (x4 : Bool) (x5 : Int32) (x6 : Int32) (x7 : Int32) (x8 : Int32) (x9 : Int32) (x10 : Int32) (m : sh_X) : Option ((Int32 × sh_X) ⊕ (Int32 × sh_X)) := sh_while (fun q => sf_183_133s x1 x4 x5 x6 x7 x8 q.1 q.2.1 q.2.2) (x9, x10, m)
noncomputable def sf_183_86s (x1 : Int32) (x4 : Bool) (x5 : Int32) (x6 : Int32) (x7 : Int32) (x8 : Int32) (x9 : Int32) (m : sh_X) : Option ((Int32 × sh_X) ⊕ ((Int32 × sh_X) ⊕ (Int32 × sh_X))) :=
  if 0 < x9 then
    if sh_okb (x9 - 1) 65 = true then
      if sh_okb x9 65 = true then
        some (.inl (x9 + (-1), ⟨m.T, sh_u2 m.I 46 (Int32.toNatClampNeg x9) (m.I 46 (Int32.toNatClampNeg (x9 - 1))), m.J, m.s⟩))
      else none
    else none
  else
    sh_bc (sf_103 (x1 + x8) m) fun r1 =>
    sh_up (sf_183_133 x1 x4 x5 x6 x7 x8 1 0 ⟨m.T, sh_u2 m.I 46 0 r1, m.J, m.s⟩)
noncomputable def sf_183_86 (x1 : Int32) (x4 : Bool) (x5 : Int32) (x6 : Int32) (x7 : Int32) (x8 : Int32) (x9 : Int32) (m : sh_X) : Option ((Int32 × sh_X) ⊕ (Int32 × sh_X)) := sh_while (fun q => sf_183_86s x1 x4 x5 x6 x7 x8 q.1 q.2) (x9, m)
noncomputable def sf_183_341s (x4 : Bool) (x5 : Int32) (x7 : Int32) (x8 : Int32) (m : sh_X) : Option ((Int32 × sh_X) ⊕ (Int32 × sh_X)) :=
  if x4 = true then
    if x8 < x7 then
      if sh_okb x8 65 = true then
        sh_bn (sf_100 (x5 + x8) (m.I 46 (Int32.toNatClampNeg x8)) m) fun _ m11 =>
        some (.inl (x8 + 1, m11))
      else none
    else
      some (.inr ((x5, m)))
  else
    some (.inr ((x5, m)))
noncomputable def sf_183_341 (x4 : Bool) (x5 : Int32) (x7 : Int32) (x8 : Int32) (m : sh_X) : Option (Int32 × sh_X) := sh_while (fun q => sf_183_341s x4 x5 x7 q.1 q.2) (x8, m)
noncomputable def sf_183_77s (x1 : Int32) (x4 : Bool) (x5 : Int32) (x6 : Int32) (x7 : Int32) (x8 : Int32) (m : sh_X) : Option ((Int32 × sh_X) ⊕ (Int32 × sh_X)) :=
  if x8 < 0 then
    sh_up (sf_183_341 x4 x5 x7 0 m)
  else
    sf_183_86 x1 x4 x5 x6 x7 x8 x7 m
noncomputable def sf_183_77 (x1 : Int32) (x4 : Bool) (x5 : Int32) (x6 : Int32) (x7 : Int32) (x8 : Int32) (m : sh_X) : Option (Int32 × sh_X) := sh_while (fun q => sf_183_77s x1 x4 x5 x6 x7 q.1 q.2) (x8, m)
noncomputable def sf_183_33s (x1 : Int32) (x2 : Int32) (x4 : Bool) (x5 : Int32) (x6 : Int32) (x7 : Int32) (x8 : Int32) (m : sh_X) : Option ((Int32 × sh_X) ⊕ (Int32 × sh_X)) :=
  if x8 < x7 then
    sh_bc (sf_103 (x2 + x8) m) fun r1 =>
    sh_bn (sf_130 r1 1 m) fun r2 m12 =>
    sh_bn (sf_100 (x6 + x8) r2 m12) fun _ m13 =>
    some (.inl (x8 + 1, m13))
  else
    sh_up (sf_183_77 x1 x4 x5 x6 x7 (x7 - 1) m)
noncomputable def sf_183_33 (x1 : Int32) (x2 : Int32) (x4 : Bool) (x5 : Int32) (x6 : Int32) (x7 : Int32) (x8 : Int32) (m : sh_X) : Option (Int32 × sh_X) := sh_while (fun q => sf_183_33s x1 x2 x4 x5 x6 x7 q.1 q.2) (x8, m)
noncomputable def sf_183 (x1 : Int32) (x2 : Int32) (x3 : Int32) (x4 : Bool) (m : sh_X) : Option (Int32 × sh_X) :=
  sh_bn (sf_98 x3 m) fun r1 m11 =>
  sh_bn (sf_98 x3 m11) fun r2 m12 =>
  sh_bn (sf_184 46 0 m12) fun _ m14 =>
  sf_183_33 x1 x2 x4 r1 r2 (sf_21 x3 64) 0 m14
noncomputable def sf_186_5s (x1 : Int32) (x2 : Int32) (x3 : Int32) (x4 : Int32) (m : sh_X) : Option ((Int32 × Int32 × sh_X) ⊕ (Int32 × sh_X)) :=
  if x4 < x2 then
    sh_bc (sf_103 (x1 + x4) m) fun r1 =>
    sh_bn (sf_185 x3 r1 m) fun r2 m12 =>
    some (.inl (r2, x4 + 1, m12))
  else
    some (.inr ((x3, m)))
noncomputable def sf_186_5 (x1 : Int32) (x2 : Int32) (x3 : Int32) (x4 : Int32) (m : sh_X) : Option (Int32 × sh_X) := sh_while (fun q => sf_186_5s x1 x2 q.1 q.2.1 q.2.2) (x3, x4, m)
noncomputable def sf_186 (x1 : Int32) (x2 : Int32) (m : sh_X) : Option (Int32 × sh_X) :=
  sf_186_5 x1 x2 0 0 m
noncomputable def sf_182_119 (x5 : Int32) (x10 : Int32) (y0 : Int32) (m : sh_X) : Option (Int32 × sh_X) :=
  sh_bn (sf_166 x10 x5 y0 m) fun r1 m11 =>
  some ((r1, m11))
noncomputable def sf_182 (x1 : Int32) (x2 : Int32) (x3 : Int32) (x4 : Bool) (m : sh_X) : Option (Int32 × sh_X) :=
  if (sf_114 x3) = true then
    sh_bc (sf_103 ((x1 + (sf_94 x3)) - 1) m) fun r3 =>
    sh_bc (sf_103 ((x2 + (sf_94 x3)) - 1) m) fun r4 =>
    sh_bn (sf_166 x1 (sf_94 x3) r3 m) fun r5 m15 =>
    sh_bn (sf_166 x2 (sf_94 x3) r4 m15) fun r6 m16 =>
    sh_bn (sf_183 r5 r6 (sf_94 x3) x4 m16) fun r7 m17 =>
    if x4 = true then
      sf_182_119 (sf_94 x3) r7 r3 m17
    else
      sh_bn (sf_130 r3 r4 m17) fun r8 m18 =>
      sh_bn (sf_186 x2 (sf_94 x3) m18) fun r9 m19 =>
      sh_bn (sf_132 r8 r9 m19) fun r10 m20 =>
      sf_182_119 (sf_94 x3) r7 r10 m20
  else
    sh_bn (sf_183 x1 x2 (sf_94 x3) x4 m) fun r11 m21 =>
    some ((r11, m21))
noncomputable def sf_187_6s (x1 : Int32) (x2 : Int32) (x3 : Int32) (x4 : Int32) (x5 : Int32) (m : sh_X) : Option ((Int32 × Int32 × sh_X) ⊕ (Int32 × sh_X)) :=
  if x5 < x3 then
    sh_bc (sf_103 (x1 + x5) m) fun r1 =>
    sh_bc (sf_103 (x2 + x5) m) fun r2 =>
    sh_bn (sf_130 r1 r2 m) fun r3 m13 =>
    sh_bn (sf_185 x4 r3 m13) fun r4 m14 =>
    some (.inl (r4, x5 + 1, m14))
  else
    some (.inr ((x4, m)))
noncomputable def sf_187_6 (x1 : Int32) (x2 : Int32) (x3 : Int32) (x4 : Int32) (x5 : Int32) (m : sh_X) : Option (Int32 × sh_X) := sh_while (fun q => sf_187_6s x1 x2 x3 q.1 q.2.1 q.2.2) (x4, x5, m)
noncomputable def sf_187 (x1 : Int32) (x2 : Int32) (x3 : Int32) (m : sh_X) : Option (Int32 × sh_X) :=
  sf_187_6 x1 x2 x3 0 0 m
noncomputable def sf_188 (x1 : Int32) (m : sh_X) : Option (Int32 × sh_X) :=
  sh_bn (sf_98 1 m) fun r1 m11 =>
  sh_bn (sf_100 r1 x1 m11) fun _ m12 =>
  some ((r1, m12))
noncomputable def sf_189_96 (x1 : Int32) (x2 : Int32) (x3 : Int32) (x4 : Bool) (x5 : Int32) (x6 : Int32) (x8 : Int32) (y0 : Int32) (m : sh_X) : Option ((Int32 × Int32 × sh_X) ⊕ (Int32 × sh_X)) :=
  sh_bn (sf_130 x8 x5 m) fun r1 m11 =>
  sh_bn (sf_130 y0 x5 m11) fun r2 m12 =>
  sh_bn (sf_132 r1 r2 m12) fun r3 m13 =>
  sh_bn (sf_130 r3 x5 m13) fun r4 m14 =>
  some (.inl (r4, x6 + 1, m14))
noncomputable def sf_189_63 (x1 : Int32) (x2 : Int32) (x3 : Int32) (x4 : Bool) (x5 : Int32) (x6 : Int32) (x7 : Bool) (y0 : Int32) (m : sh_X) : Option ((Int32 × Int32 × sh_X) ⊕ (Int32 × sh_X)) :=
  if x7 = true then
    sh_bc (sf_103 (x2 + x6) m) fun r1 =>
    sf_189_96 x1 x2 x3 x4 x5 x6 y0 r1 m
  else
    sh_bc (sf_103 (x2 + x6) m) fun r2 =>
    sh_bn (sf_141 r2 m) fun r3 m13 =>
    sf_189_96 x1 x2 x3 x4 x5 x6 y0 r3 m13
noncomputable def sf_189_30 (x1 : Int32) (x2 : Int32) (x3 : Int32) (x4 : Bool) (x5 : Int32) (x6 : Int32) (y0 : Bool) (m : sh_X) : Option ((Int32 × Int32 × sh_X) ⊕ (Int32 × sh_X)) :=
  if y0 = true then
    sh_bc (sf_103 (x1 + x6) m) fun r1 =>
    sh_bn (sf_141 r1 m) fun r2 m12 =>
    sf_189_63 x1 x2 x3 x4 x5 x6 y0 r2 m12
  else
    sh_bc (sf_103 (x1 + x6) m) fun r3 =>
    sf_189_63 x1 x2 x3 x4 x5 x6 y0 r3 m
noncomputable def sf_189_29 (x1 : Int32) (x2 : Int32) (x3 : Int32) (x4 : Bool) (x5 : Int32) (x6 : Int32) (m : sh_X) : Option ((Int32 × Int32 × sh_X) ⊕ (Int32 × sh_X)) :=
  sf_189_30 x1 x2 x3 x4 x5 x6 false m
noncomputable def sf_189_6s (x1 : Int32) (x2 : Int32) (x3 : Int32) (x4 : Bool) (x5 : Int32) (x6 : Int32) (m : sh_X) : Option ((Int32 × Int32 × sh_X) ⊕ (Int32 × sh_X)) :=
  if x6 < x3 then
    if x4 = true then
      if x6 = (x3 - 1) then
        sf_189_30 x1 x2 x3 x4 x5 x6 true m
      else
        sf_189_29 x1 x2 x3 x4 x5 x6 m
    else
      sf_189_29 x1 x2 x3 x4 x5 x6 m
  else
    sh_bn (sf_141 x5 m) fun r1 m11 =>
    some (.inr ((r1, m11)))
noncomputable def sf_189_6 (x1 : Int32) (x2 : Int32) (x3 : Int32) (x4 : Bool) (x5 : Int32) (x6 : Int32) (m : sh_X) : Option (Int32 × sh_X) := sh_while (fun q => sf_189_6s x1 x2 x3 x4 q.1 q.2.1 q.2.2) (x5, x6, m)
noncomputable def sf_189 (x1 : Int32) (x2 : Int32) (x3 : Int32) (x4 : Bool) (m : sh_X) : Option (Int32 × sh_X) :=
  sf_189_6 x1 x2 x3 x4 1 0 m
noncomputable def sf_190_123 (x1 : Int32) (x2 : Int32) (x3 : Int32) (x4 : Int32) (x5 : Int32) (x6 : Int32) (m : sh_X) : Option ((Int32 × sh_X) ⊕ (Int32 × sh_X)) :=
  some (.inl (x6 + 1, m))
noncomputable def sf_190_80 (x1 : Int32) (x2 : Int32) (x3 : Int32) (x4 : Int32) (x5 : Int32) (x6 : Int32) (x7 : Int32) (x8 : Int32) (m : sh_X) : Option ((Int32 × sh_X) ⊕ (Int32 × sh_X)) :=
  sh_bn (sf_132 x7 x8 m) fun r1 m11 =>
  sh_bn (sf_100 (x5 + x6) r1 m11) fun _ m12 =>
  sf_190_123 x1 x2 x3 x4 x5 x6 m12
noncomputable def sf_190_11s (x1 : Int32) (x2 : Int32) (x3 : Int32) (x4 : Int32) (x5 : Int32) (x6 : Int32) (m : sh_X) : Option ((Int32 × sh_X) ⊕ (Int32 × sh_X)) :=
  if x6 < x4 then
    sh_bc (sf_103 (x2 + x6) m) fun r1 =>
    sh_bc (sf_103 (x3 + x6) m) fun r2 =>
    if x1 = 94 then
      sh_bn (sf_130 r1 r2 m) fun r3 m13 =>
      sh_bn (sf_100 (x5 + x6) r3 m13) fun _ m14 =>
      sf_190_123 x1 x2 x3 x4 x5 x6 m14
    else
      if x1 = 38 then
        sf_190_80 x1 x2 x3 x4 x5 x6 r1 r2 m
      else
        if x1 = 9766 then
          sf_190_80 x1 x2 x3 x4 x5 x6 r1 r2 m
        else
          sh_bn (sf_185 r1 r2 m) fun r5 m15 =>
          sh_bn (sf_100 (x5 + x6) r5 m15) fun _ m16 =>
          sf_190_123 x1 x2 x3 x4 x5 x6 m16
  else
    some (.inr ((x5, m)))
noncomputable def sf_190_11 (x1 : Int32) (x2 : Int32) (x3 : Int32) (x4 : Int32) (x5 : Int32) (x6 : Int32) (m : sh_X) : Option (Int32 × sh_X) := sh_while (fun q => sf_190_11s x1 x2 x3 x4 x5 q.1 q.2) (x6, m)
noncomputable def sf_190 (x1 : Int32) (x2 : Int32) (x3 : Int32) (x4 : Int32) (m : sh_X) : Option (Int32 × sh_X) :=
  sh_bn (sf_98 x4 m) fun r1 m11 =>
  sf_190_11 x1 x2 x3 x4 r1 0 m11
noncomputable def sf_178 (x1 : Int32) (x2 : Int32) (x3 : Int32) (x4 : Int32) (m : sh_X) : Option (Int32 × sh_X) :=
  if x1 = 37 then
    sh_bn (sf_182 x2 x3 x4 true m) fun r3 m13 =>
    some ((r3, m13))
  else
  if x1 = 42 then
    sh_bn (sf_181 x2 x3 (sf_94 x4) m) fun r4 m14 =>
    some ((r4, m14))
  else
  if x1 = 43 then
    sh_bn (sf_179 x2 x3 (sf_94 x4) 0 m) fun r5 m15 =>
    some ((r5, m15))
  else
  if x1 = 45 then
    sh_bn (sf_179 x2 x3 (sf_94 x4) 1 m) fun r6 m16 =>
    some ((r6, m16))
  else
  if x1 = 47 then
    sh_bn (sf_182 x2 x3 x4 false m) fun r7 m17 =>
    some ((r7, m17))
  else
  if x1 = 60 then
    sh_bn (sf_189 x2 x3 (sf_94 x4) (sf_114 x4) m) fun r8 m18 =>
    sh_bn (sf_188 r8 m18) fun r9 m19 =>
    some ((r9, m19))
  else
  if x1 = 62 then
    sh_bn (sf_189 x3 x2 (sf_94 x4) (sf_114 x4) m) fun r10 m20 =>
    sh_bn (sf_188 r10 m20) fun r11 m21 =>
    some ((r11, m21))
  else
  if x1 = 8509 then
    sh_bn (sf_187 x2 x3 (sf_94 x4) m) fun r12 m22 =>
    sh_bn (sf_188 r12 m22) fun r13 m23 =>
    some ((r13, m23))
  else
  if x1 = 15421 then
    sh_bn (sf_189 x3 x2 (sf_94 x4) (sf_114 x4) m) fun r14 m24 =>
    sh_bn (sf_141 r14 m24) fun r15 m25 =>
    sh_bn (sf_188 r15 m25) fun r16 m26 =>
    some ((r16, m26))
  else
  if x1 = 15677 then
    sh_bn (sf_187 x2 x3 (sf_94 x4) m) fun r17 m27 =>
    sh_bn (sf_141 r17 m27) fun r18 m28 =>
    sh_bn (sf_188 r18 m28) fun r19 m29 =>
    some ((r19, m29))
  else
  if x1 = 15933 then
    sh_bn (sf_189 x2 x3 (sf_94 x4) (sf_114 x4) m) fun r20 m30 =>
    sh_bn (sf_141 r20 m30) fun r21 m31 =>
    sh_bn (sf_188 r21 m31) fun r22 m32 =>
    some ((r22, m32))
  else
    sh_bn (sf_190 x1 x2 x3 (sf_94 x4) m) fun r23 m33 =>
    some ((r23, m33))
noncomputable def sf_191_40 : Bool :=
  true
noncomputable def sf_191 (x0 : Int32) : Bool :=
  if x0 = 60 then
    sf_191_40 
  else
    if x0 = 62 then
      sf_191_40 
    else
      if x0 = 15421 then
        sf_191_40 
      else
        if x0 = 15933 then
          sf_191_40 
        else
          if x0 = 15677 then
            sf_191_40 
          else
            if x0 = 8509 then
              sf_191_40 
            else
              false
noncomputable def sf_171_37 (y1 : Int32) (y2 : Bool) (m : sh_X) : Option (Option Unit × sh_X) :=
  sh_bt (sf_172 y1 y2 m) (fun m => (none, m)) fun _ m11 =>
  some ((some (), m11))
noncomputable def sf_171_23 (x1 : Int32) (x2 : Int32) (m : sh_X) : Option (Option Unit × sh_X) :=
  if x2 = 15420 then
    sf_171_37 x1 true m
  else
    sf_171_37 x1 false m
noncomputable def sf_171_226 (x6 : Int32) (y1 : Int32) (y2 : Int32) (m : sh_X) : Option (Option Unit × sh_X) :=
  sh_bn (sf_167 y1 y2 x6 m) fun _ m11 =>
  some ((some (), m11))
noncomputable def sf_171_166 (x1 : Int32) (x2 : Int32) (x3 : Int32) (x4 : Int32) (x5 : Int32) (m : sh_X) : Option (Option Unit × sh_X) :=
  sh_bt (sf_90 (sf_177 x2 (sf_94 x5)) x1 m) (fun m => (none, m)) fun _ m13 =>
  sh_bc (sf_117 x3 m13) fun r4 =>
  sh_bc (sf_117 x4 m13) fun r5 =>
  sh_bn (sf_178 x2 r4 r5 x5 m13) fun r6 m16 =>
  if (sf_191 x2) = true then
    sf_171_226 r6 2 257 m16
  else
    sf_171_226 r6 2 x5 m16
noncomputable def sf_171_157 (x1 : Int32) (x2 : Int32) (x3 : Int32) (x4 : Int32) (x5 : Int32) (m : sh_X) : Option (Option Unit × sh_X) :=
  sh_bt (sf_50 4 x1 m) (fun m => (none, m)) fun _ m11 =>
  sf_171_166 x1 x2 x3 x4 x5 m11
noncomputable def sf_171_111 (x1 : Int32) (x2 : Int32) (x3 : Int32) (x4 : Int32) (y0 : Int32) (m : sh_X) : Option (Option Unit × sh_X) :=
  sh_bt (sf_107 x3 y0 m) (fun m => (none, m)) fun _ m11 =>
  sh_bt (sf_107 x4 y0 m11) (fun m => (none, m)) fun _ m12 =>
  sh_bc (sf_108 x3 m12) fun r3 =>
  sh_bc (sf_108 x4 m12) fun r4 =>
  if r3 = r4 then
    if (sf_176 x2 y0) = true then
      sf_171_166 x1 x2 x3 x4 y0 m12
    else
      sf_171_157 x1 x2 x3 x4 y0 m12
  else
    sf_171_157 x1 x2 x3 x4 y0 m12
noncomputable def sf_171 (x1 : Int32) (m : sh_X) : Option (Option Unit × sh_X) :=
  sh_bc (sf_46 x1 m) fun r1 =>
  if r1 = 15420 then
    sf_171_23 x1 r1 m
  else
    if r1 = 15934 then
      sf_171_23 x1 r1 m
    else
      sh_bc (sf_108 ((m.I 48 4) - 2) m) fun r2 =>
      if r2 = 0 then
        sh_bc (sf_108 ((m.I 48 4) - 1) m) fun r3 =>
        if r3 = 0 then
          sf_171_111 x1 r1 ((m.I 48 4) - 2) ((m.I 48 4) - 1) 160 m
        else
          sh_bc (sf_108 ((m.I 48 4) - 1) m) fun r4 =>
          sf_171_111 x1 r1 ((m.I 48 4) - 2) ((m.I 48 4) - 1) r4 m
      else
        sh_bc (sf_108 ((m.I 48 4) - 2) m) fun r5 =>
        sf_171_111 x1 r1 ((m.I 48 4) - 2) ((m.I 48 4) - 1) r5 m
noncomputable def sf_193_96 (x1 : Int32) (x3 : Int32) (x4 : Int32) (x5 : Int32) (x6 : Int32) (x7 : Int32) (y1 : Int32) (y2 : Int32) (m : sh_X) : Option ((Int32 × sh_X) ⊕ (Int32 × sh_X)) :=
  sh_bn (sf_100 y1 y2 m) fun _ m11 =>
  some (.inl (x7 + 1, m11))
noncomputable def sf_193_61s (x1 : Int32) (x3 : Int32) (x4 : Int32) (x5 : Int32) (x6 : Int32) (x7 : Int32) (m : sh_X) : Option ((Int32 × sh_X) ⊕ (Int32 × sh_X)) :=
  if x7 < (sf_94 x3) then
    if x7 < x4 then
      sh_bc (sf_103 (x1 + x7) m) fun r2 =>
      sf_193_96 x1 x3 x4 x5 x6 x7 (x6 + x7) r2 m
    else
      sf_193_96 x1 x3 x4 x5 x6 x7 (x6 + x7) x5 m
  else
    some (.inr ((x6, m)))
noncomputable def sf_193_61 (x1 : Int32) (x3 : Int32) (x4 : Int32) (x5 : Int32) (x6 : Int32) (x7 : Int32) (m : sh_X) : Option (Int32 × sh_X) := sh_while (fun q => sf_193_61s x1 x3 x4 x5 x6 q.1 q.2) (x7, m)
noncomputable def sf_193_46 (x1 : Int32) (x3 : Int32) (x4 : Int32) (y0 : Int32) (m : sh_X) : Option (Int32 × sh_X) :=
  sh_bn (sf_98 (sf_94 x3) m) fun r2 m12 =>
  sf_193_61 x1 x3 x4 y0 r2 0 m12
noncomputable def sf_193 (x1 : Int32) (x2 : Int32) (x3 : Int32) (m : sh_X) : Option (Int32 × sh_X) :=
  if x3 = 257 then
    sh_bn (sf_186 x1 (sf_94 x2) m) fun r2 m12 =>
    sh_bn (sf_188 r2 m12) fun r3 m13 =>
    some ((r3, m13))
  else
    if (sf_114 x2) = true then
      sh_bc (sf_103 ((x1 + (sf_94 x2)) - 1) m) fun r5 =>
      sf_193_46 x1 x3 (sf_94 x2) r5 m
    else
      sf_193_46 x1 x3 (sf_94 x2) 0 m
noncomputable def sf_192_45 (x1 : Int32) (x2 : Int32) (x3 : Int32) (x4 : Int32) (m : sh_X) : Option (Option Unit × sh_X) :=
  sh_bt (sf_90 ((sf_94 x2) + (sf_94 x4)) x1 m) (fun m => (none, m)) fun _ m13 =>
  sh_bc (sf_117 x3 m13) fun r4 =>
  sh_bn (sf_193 r4 x4 x2 m13) fun r5 m15 =>
  sh_bn (sf_167 1 x2 r5 m15) fun _ m16 =>
  some ((some (), m16))
noncomputable def sf_192 (x1 : Int32) (x2 : Int32) (m : sh_X) : Option (Option Unit × sh_X) :=
  sh_bt (sf_107 ((m.I 48 4) - 1) 160 m) (fun m => (none, m)) fun _ m11 =>
  sh_bc (sf_108 ((m.I 48 4) - 1) m11) fun r2 =>
  if (sf_123 r2) = true then
    sh_bt (sf_50 4 x1 m11) (fun m => (none, m)) fun _ m14 =>
    sf_192_45 x1 x2 ((m.I 48 4) - 1) r2 m14
  else
    sf_192_45 x1 x2 ((m.I 48 4) - 1) r2 m11
noncomputable def sf_194_58 (x1 : Int32) (x2 : Int32) (x3 : Int32) (x5 : Int32) (y0 : Int32) (m : sh_X) : Option ((Int32 × Int32 × sh_X) ⊕ (Option Unit × sh_X)) :=
  some (.inl (y0, x5 + (-1), m))
noncomputable def sf_194_134 (x1 : Int32) (x2 : Int32) (x3 : Int32) (x4 : Int32) (x6 : Int32) (y0 : Bool) (m : sh_X) : Option ((Bool × Int32 × sh_X) ⊕ (Option Unit × sh_X)) :=
  some (.inl (y0, x6 + 1, m))
noncomputable def sf_194_133 (x1 : Int32) (x2 : Int32) (x3 : Int32) (x4 : Int32) (x6 : Int32) (m : sh_X) : Option ((Bool × Int32 × sh_X) ⊕ (Option Unit × sh_X)) :=
  sf_194_134 x1 x2 x3 x4 x6 false m
noncomputable def sf_194_188s (x2 : Int32) (x3 : Int32) (x4 : Int32) (x6 : Int32) (x7 : Int32) (x8 : Int32) (m : sh_X) : Option ((Int32 × sh_X) ⊕ (Option Unit × sh_X)) :=
  if x8 < x2 then
    sh_bc (sf_117 (x3 + x8) m) fun r1 =>
    sh_bn (sf_137 r1 (x7 + (x8 * x6)) x6 m) fun _ m12 =>
    some (.inl (x8 + 1, m12))
  else
    sh_bn (sf_167 x2 (x4 + (512 * x2)) x7 m) fun _ m13 =>
    some (.inr ((some (), m13)))
noncomputable def sf_194_188 (x2 : Int32) (x3 : Int32) (x4 : Int32) (x6 : Int32) (x7 : Int32) (x8 : Int32) (m : sh_X) : Option (Option Unit × sh_X) := sh_while (fun q => sf_194_188s x2 x3 x4 x6 x7 q.1 q.2) (x8, m)
noncomputable def sf_194_156 (x1 : Int32) (x2 : Int32) (x3 : Int32) (x4 : Int32) (m : sh_X) : Option (Option Unit × sh_X) :=
  sh_bt (sf_90 (x2 * (sf_94 x4)) x1 m) (fun m => (none, m)) fun _ m12 =>
  sh_bn (sf_98 (x2 * (sf_94 x4)) m12) fun r3 m13 =>
  sf_194_188 x2 x3 x4 (sf_94 x4) r3 0 m13
noncomputable def sf_194_90s (x1 : Int32) (x2 : Int32) (x3 : Int32) (x4 : Int32) (x5 : Bool) (x6 : Int32) (m : sh_X) : Option ((Bool × Int32 × sh_X) ⊕ (Option Unit × sh_X)) :=
  if x6 < (m.I 48 4) then
    sh_bt (sf_107 x6 x4 m) (fun m => .inr ((none, m))) fun _ m11 =>
    if x5 = true then
      sh_bc (sf_108 x6 m11) fun r2 =>
      if r2 = x4 then
        sf_194_134 x1 x2 x3 x4 x6 true m11
      else
        sf_194_133 x1 x2 x3 x4 x6 m11
    else
      sf_194_133 x1 x2 x3 x4 x6 m11
  else
    if x5 = true then
      sh_up (sf_194_156 x1 x2 x3 x4 m)
    else
      sh_bt (sf_50 4 x1 m) (fun m => .inr ((none, m))) fun _ m13 =>
      sh_up (sf_194_156 x1 x2 x3 x4 m13)
noncomputable def sf_194_90 (x1 : Int32) (x2 : Int32) (x3 : Int32) (x4 : Int32) (x5 : Bool) (x6 : Int32) (m : sh_X) : Option (Option Unit × sh_X) := sh_while (fun q => sf_194_90s x1 x2 x3 x4 q.1 q.2.1 q.2.2) (x5, x6, m)
noncomputable def sf_194_85 (x1 : Int32) (x2 : Int32) (x3 : Int32) (x4 : Int32) (y0 : Bool) (m : sh_X) : Option (Option Unit × sh_X) :=
  sf_194_90 x1 x2 x3 x4 y0 x3 m
noncomputable def sf_194_84 (x1 : Int32) (x2 : Int32) (x3 : Int32) (x4 : Int32) (m : sh_X) : Option (Option Unit × sh_X) :=
  sf_194_85 x1 x2 x3 x4 false m
noncomputable def sf_194_26s (x1 : Int32) (x2 : Int32) (x3 : Int32) (x4 : Int32) (x5 : Int32) (m : sh_X) : Option ((Int32 × Int32 × sh_X) ⊕ (Option Unit × sh_X)) :=
  if x5 < x3 then
    if 32 < x2 then
      sh_up (sf_194_84 x1 x2 x3 x4 m)
    else
      if (sf_123 x4) = true then
        sh_up (sf_194_84 x1 x2 x3 x4 m)
      else
        sh_up (sf_194_85 x1 x2 x3 x4 true m)
  else
    sh_bc (sf_108 x5 m) fun r2 =>
    if r2 = 0 then
      sf_194_58 x1 x2 x3 x5 x4 m
    else
      sh_bc (sf_108 x5 m) fun r3 =>
      sf_194_58 x1 x2 x3 x5 r3 m
noncomputable def sf_194_26 (x1 : Int32) (x2 : Int32) (x3 : Int32) (x4 : Int32) (x5 : Int32) (m : sh_X) : Option (Option Unit × sh_X) := sh_while (fun q => sf_194_26s x1 x2 x3 q.1 q.2.1 q.2.2) (x4, x5, m)
noncomputable def sf_194 (x1 : Int32) (x2 : Int32) (m : sh_X) : Option (Option Unit × sh_X) :=
  sf_194_26 x1 x2 ((m.I 48 4) - x2) 160 ((m.I 48 4) - 1) m
noncomputable def sf_195 (x1 : Int32) (m : sh_X) : Option (Option Unit × sh_X) :=
  sh_bc (sf_108 ((m.I 48 4) - 1) m) fun r1 =>
  if (sf_123 r1) = true then
    some ((some (), m))
  else
    sh_bt (sf_50 4 x1 m) (fun m => (none, m)) fun _ m13 =>
    some ((some (), m13))
noncomputable def sf_196_56 (x1 : Int32) (x3 : Int32) (m : sh_X) : Option (Option Unit × sh_X) :=
  if x3 = 0 then
    some ((some (), m))
  else
    if (sf_113 x3) = true then
      some ((some (), m))
    else
      sh_bt (sf_50 4 x1 m) (fun m => (none, m)) fun _ m12 =>
      some ((some (), m12))
noncomputable def sf_196 (x1 : Int32) (m : sh_X) : Option (Option Unit × sh_X) :=
  sh_bc (sf_108 ((m.I 48 4) - 1) m) fun r1 =>
  if r1 = 0 then
    sh_bc (sf_111 ((m.I 48 4) - 1) m) fun r2 =>
    if (sf_112 160 r2) = true then
      sf_196_56 x1 r1 m
    else
      sh_bc (sf_110 ((m.I 48 4) - 1) m) fun r4 =>
      sh_bt (sf_50 5 r4 m) (fun m => (none, m)) fun _ m15 =>
      sf_196_56 x1 r1 m15
  else
    sf_196_56 x1 r1 m
noncomputable def sf_198_41s (x1 : Int32) (x2 : Int32) (x3 : Int32) (x4 : Int32) (x5 : Int32) (x6 : Int32) (x7 : Int32) (x8 : Int32) (x9 : Int32) (m : sh_X) : Option ((Int32 × sh_X) ⊕ ((Int32 × sh_X) ⊕ (Int32 × sh_X))) :=
  if x9 < x5 then
    sh_bc (sf_103 ((x1 + (x7 * x5)) + x9) m) fun r1 =>
    sh_bn (sf_132 x8 r1 m) fun r2 m12 =>
    sh_bc (sf_103 (x6 + x9) m12) fun r3 =>
    sh_bn (sf_130 r3 r2 m12) fun r4 m14 =>
    sh_bn (sf_100 (x6 + x9) r4 m14) fun _ m15 =>
    some (.inl (x9 + 1, m15))
  else
    some (.inr (.inl (x7 + 1, m)))
noncomputable def sf_198_41 (x1 : Int32) (x2 : Int32) (x3 : Int32) (x4 : Int32) (x5 : Int32) (x6 : Int32) (x7 : Int32) (x8 : Int32) (x9 : Int32) (m : sh_X) : Option ((Int32 × sh_X) ⊕ (Int32 × sh_X)) := sh_while (fun q => sf_198_41s x1 x2 x3 x4 x5 x6 x7 x8 q.1 q.2) (x9, m)
noncomputable def sf_198_18s (x1 : Int32) (x2 : Int32) (x3 : Int32) (x4 : Int32) (x5 : Int32) (x6 : Int32) (x7 : Int32) (m : sh_X) : Option ((Int32 × sh_X) ⊕ (Int32 × sh_X)) :=
  if x7 < (sf_93 x2) then
    sh_bn (sf_140 x3 x4 x7 m) fun r2 m12 =>
    sf_198_41 x1 x2 x3 x4 x5 x6 x7 r2 0 m12
  else
    some (.inr ((x6, m)))
noncomputable def sf_198_18 (x1 : Int32) (x2 : Int32) (x3 : Int32) (x4 : Int32) (x5 : Int32) (x6 : Int32) (x7 : Int32) (m : sh_X) : Option (Int32 × sh_X) := sh_while (fun q => sf_198_18s x1 x2 x3 x4 x5 x6 q.1 q.2) (x7, m)
noncomputable def sf_198 (x1 : Int32) (x2 : Int32) (x3 : Int32) (x4 : Int32) (m : sh_X) : Option (Int32 × sh_X) :=
  sh_bn (sf_115 0 (sf_94 x2) m) fun r2 m12 =>
  sf_198_18 x1 x2 x3 x4 (sf_94 x2) r2 0 m12
noncomputable def sf_197_171 (x4 : Int32) (x6 : Int32) (m : sh_X) : Option (Option Unit × sh_X) :=
  sh_bn (sf_167 2 (sf_135 x4) x6 m) fun _ m12 =>
  some ((some (), m12))
noncomputable def sf_197_120 (x4 : Int32) (y0 : Int32) (m : sh_X) : Option (Option Unit × sh_X) :=
  sf_197_171 x4 y0 m
noncomputable def sf_197_92 (x3 : Int32) (x4 : Int32) (x5 : Int32) (x7 : Int64) (y0 : Bool) (m : sh_X) : Option (Option Unit × sh_X) :=
  if y0 = true then
    sf_197_120 x4 (x3 + ((Int64.toInt32 x7) * x5)) m
  else
    sh_bn (sf_115 0 x5 m) fun r1 m11 =>
    sf_197_120 x4 r1 m11
noncomputable def sf_197_91 (x3 : Int32) (x4 : Int32) (x5 : Int32) (x7 : Int64) (m : sh_X) : Option (Option Unit × sh_X) :=
  sf_197_92 x3 x4 x5 x7 false m
noncomputable def sf_197 (x1 : Int32) (m : sh_X) : Option (Option Unit × sh_X) :=
  sh_bc (sf_117 (((m.I 48 4) - 1) - 1) m) fun r1 =>
  sh_bc (sf_108 (((m.I 48 4) - 1) - 1) m) fun r2 =>
  sh_bc (sf_108 ((m.I 48 4) - 1) m) fun r4 =>
  if r4 = 0 then
    sh_bc (sf_111 ((m.I 48 4) - 1) m) fun r5 =>
    sh_bt (sf_90 (sf_94 r2) x1 m) (fun m => (none, m)) fun _ m16 =>
    if r5 < 0 then
      sf_197_91 r1 r2 (sf_94 r2) r5 m16
    else
      if r5 < (Int32.toInt64 (sf_93 r2)) then
        sf_197_92 r1 r2 (sf_94 r2) r5 true m16
      else
        sf_197_91 r1 r2 (sf_94 r2) r5 m16
  else
    sh_bc (sf_108 ((m.I 48 4) - 1) m) fun r8 =>
    sh_bt (sf_90 (sf_138 r2 r8) x1 m) (fun m => (none, m)) fun _ m20 =>
    sh_bc (sf_117 ((m.I 48 4) - 1) m20) fun r11 =>
    sh_bc (sf_108 ((m.I 48 4) - 1) m20) fun r12 =>
    sh_bn (sf_198 r1 r2 r11 r12 m20) fun r13 m23 =>
    sf_197_171 r2 r13 m23
noncomputable def sf_78_490 (x1 : Int32) (m : sh_X) : Option ((Int32 × sh_X) ⊕ (Option Unit × sh_X)) :=
  some (.inl (x1 + 1, m))
noncomputable def sf_78_10s (x1 : Int32) (m : sh_X) : Option ((Int32 × sh_X) ⊕ (Option Unit × sh_X)) :=
  if x1 < 1000000 then
    sh_bc (sf_64 (m.I 41 13) m) fun r1 =>
    if r1 = true then
      sh_bc (sf_87 (m.I 41 13) m) fun r2 =>
      sh_bc (sf_88 (m.I 41 13) m) fun r3 =>
      sh_bc (sf_89 (((m.I 41 13) + 1) - 1) ⟨m.T, sh_u2 m.I 41 13 ((m.I 41 13) + 1), m.J, m.s⟩) fun r4 =>
      if r4 = 0 then
        sh_bt (sf_90 1 r2 ⟨m.T, sh_u2 m.I 41 13 ((m.I 41 13) + 1), m.J, m.s⟩) (fun m => .inr ((none, m))) fun _ m15 =>
        sf_78_490 x1 m15
      else
      if r4 = 1 then
        sh_bt (sf_91 r2 ⟨m.T, sh_u2 m.I 41 13 ((m.I 41 13) + 1), m.J, m.s⟩) (fun m => .inr ((none, m))) fun _ m16 =>
        sf_78_490 x1 m16
      else
      if r4 = 2 then
        sh_bt (sf_106 r2 ⟨m.T, sh_u2 m.I 41 13 ((m.I 41 13) + 1), m.J, m.s⟩) (fun m => .inr ((none, m))) fun _ m17 =>
        sf_78_490 x1 m17
      else
      if r4 = 3 then
        sh_bt (sf_119 r2 ⟨m.T, sh_u2 m.I 41 13 ((m.I 41 13) + 1), m.J, m.s⟩) (fun m => .inr ((none, m))) fun _ m18 =>
        sf_78_490 x1 m18
      else
      if r4 = 4 then
        sh_bt (sf_122 r2 r3 ⟨m.T, sh_u2 m.I 41 13 ((m.I 41 13) + 1), m.J, m.s⟩) (fun m => .inr ((none, m))) fun _ m19 =>
        sf_78_490 x1 m19
      else
      if r4 = 5 then
        sh_bt (sf_124 r2 r3 ⟨m.T, sh_u2 m.I 41 13 ((m.I 41 13) + 1), m.J, m.s⟩) (fun m => .inr ((none, m))) fun _ m20 =>
        sf_78_490 x1 m20
      else
      if r4 = 6 then
        sh_bt (sf_134 r2 r3 ⟨m.T, sh_u2 m.I 41 13 ((m.I 41 13) + 1), m.J, m.s⟩) (fun m => .inr ((none, m))) fun _ m21 =>
        sf_78_490 x1 m21
      else
      if r4 = 7 then
        sh_bt (sf_142 r2 ⟨m.T, sh_u2 m.I 41 13 ((m.I 41 13) + 1), m.J, m.s⟩) (fun m => .inr ((none, m))) fun _ m22 =>
        sf_78_490 x1 m22
      else
      if r4 = 8 then
        sh_bn (sf_144 ⟨m.T, sh_u2 m.I 41 13 ((m.I 41 13) + 1), m.J, m.s⟩) fun _ m23 =>
        sf_78_490 x1 m23
      else
      if r4 = 9 then
        sh_bn (sf_147 ⟨m.T, sh_u2 m.I 41 13 ((m.I 41 13) + 1), m.J, m.s⟩) fun _ m24 =>
        sf_78_490 x1 m24
      else
      if r4 = 10 then
        sh_bt (sf_149 r2 r3 ⟨m.T, sh_u2 m.I 41 13 ((m.I 41 13) + 1), m.J, m.s⟩) (fun m => .inr ((none, m))) fun _ m25 =>
        sf_78_490 x1 m25
      else
      if r4 = 11 then
        sh_bt (sf_151 r2 r3 ⟨m.T, sh_u2 m.I 41 13 ((m.I 41 13) + 1), m.J, m.s⟩) (fun m => .inr ((none, m))) fun _ m26 =>
        sf_78_490 x1 m26
      else
      if r4 = 12 then
        sh_bt (sf_153 r2 ⟨m.T, sh_u2 m.I 41 13 ((m.I 41 13) + 1), m.J, m.s⟩) (fun m => .inr ((none, m))) fun _ m27 =>
        sf_78_490 x1 m27
      else
      if r4 = 13 then
        sh_bt (sf_154 r2 ⟨m.T, sh_u2 m.I 41 13 ((m.I 41 13) + 1), m.J, m.s⟩) (fun m => .inr ((none, m))) fun _ m28 =>
        sf_78_490 x1 m28
      else
      if r4 = 14 then
        sh_bt (sf_155 r2 r3 ⟨m.T, sh_u2 m.I 41 13 ((m.I 41 13) + 1), m.J, m.s⟩) (fun m => .inr ((none, m))) fun _ m29 =>
        sf_78_490 x1 m29
      else
      if r4 = 15 then
        sh_bt (sf_157 r2 r3 ⟨m.T, sh_u2 m.I 41 13 ((m.I 41 13) + 1), m.J, m.s⟩) (fun m => .inr ((none, m))) fun _ m30 =>
        sf_78_490 x1 m30
      else
      if r4 = 16 then
        sh_bt (sf_159 r2 r3 ⟨m.T, sh_u2 m.I 41 13 ((m.I 41 13) + 1), m.J, m.s⟩) (fun m => .inr ((none, m))) fun _ m31 =>
        sf_78_490 x1 m31
      else
      if r4 = 17 then
        sh_bn (sf_160 r3 ⟨m.T, sh_u2 m.I 41 13 ((m.I 41 13) + 1), m.J, m.s⟩) fun _ m32 =>
        sf_78_490 x1 m32
      else
      if r4 = 18 then
        sh_bt (sf_161 r2 ⟨m.T, sh_u2 m.I 41 13 ((m.I 41 13) + 1), m.J, m.s⟩) (fun m => .inr ((none, m))) fun _ m33 =>
        sf_78_490 x1 m33
      else
      if r4 = 19 then
        sh_bc (sf_66 r2 ⟨m.T, sh_u2 m.I 41 13 ((m.I 41 13) + 1), m.J, m.s⟩) fun r24 =>
        sh_bn (sf_162 r24 r2 ⟨m.T, sh_u2 m.I 41 13 ((m.I 41 13) + 1), m.J, m.s⟩) fun _ m35 =>
        sf_78_490 x1 m35
      else
      if r4 = 20 then
        sh_bn (sf_163 257 r3 ⟨m.T, sh_u2 m.I 41 13 ((m.I 41 13) + 1), m.J, m.s⟩) fun _ m36 =>
        sf_78_490 x1 m36
      else
      if r4 = 21 then
        sh_bt (sf_164 r2 ⟨m.T, sh_u2 m.I 41 13 ((m.I 41 13) + 1), m.J, m.s⟩) (fun m => .inr ((none, m))) fun _ m37 =>
        sf_78_490 x1 m37
      else
      if r4 = 22 then
        sh_bt (sf_165 r2 ⟨m.T, sh_u2 m.I 41 13 ((m.I 41 13) + 1), m.J, m.s⟩) (fun m => .inr ((none, m))) fun _ m38 =>
        sf_78_490 x1 m38
      else
      if r4 = 23 then
        sh_bt (sf_168 r2 ⟨m.T, sh_u2 m.I 41 13 ((m.I 41 13) + 1), m.J, m.s⟩) (fun m => .inr ((none, m))) fun _ m39 =>
        sf_78_490 x1 m39
      else
      if r4 = 24 then
        sh_bt (sf_170 r2 ⟨m.T, sh_u2 m.I 41 13 ((m.I 41 13) + 1), m.J, m.s⟩) (fun m => .inr ((none, m))) fun _ m40 =>
        sf_78_490 x1 m40
      else
      if r4 = 25 then
        sh_bt (sf_171 r2 ⟨m.T, sh_u2 m.I 41 13 ((m.I 41 13) + 1), m.J, m.s⟩) (fun m => .inr ((none, m))) fun _ m41 =>
        sf_78_490 x1 m41
      else
      if r4 = 26 then
        sh_bt (sf_192 r2 r3 ⟨m.T, sh_u2 m.I 41 13 ((m.I 41 13) + 1), m.J, m.s⟩) (fun m => .inr ((none, m))) fun _ m42 =>
        sf_78_490 x1 m42
      else
      if r4 = 27 then
        sh_bt (sf_194 r2 r3 ⟨m.T, sh_u2 m.I 41 13 ((m.I 41 13) + 1), m.J, m.s⟩) (fun m => .inr ((none, m))) fun _ m43 =>
        sf_78_490 x1 m43
      else
      if r4 = 28 then
        sh_bt (sf_195 r2 ⟨m.T, sh_u2 m.I 41 13 ((m.I 41 13) + 1), m.J, m.s⟩) (fun m => .inr ((none, m))) fun _ m44 =>
        sf_78_490 x1 m44
      else
      if r4 = 29 then
        sh_bt (sf_196 r2 ⟨m.T, sh_u2 m.I 41 13 ((m.I 41 13) + 1), m.J, m.s⟩) (fun m => .inr ((none, m))) fun _ m45 =>
        sf_78_490 x1 m45
      else
      if r4 = 30 then
        sh_bt (sf_197 r2 ⟨m.T, sh_u2 m.I 41 13 ((m.I 41 13) + 1), m.J, m.s⟩) (fun m => .inr ((none, m))) fun _ m46 =>
        sf_78_490 x1 m46
      else
        sf_78_490 x1 ⟨m.T, sh_u2 m.I 41 13 ((m.I 41 13) + 1), m.J, m.s⟩
    else
      some (.inr ((some (), m)))
  else
    some (.inr ((some (), m)))
noncomputable def sf_78_10 (x1 : Int32) (m : sh_X) : Option (Option Unit × sh_X) := sh_while (fun q => sf_78_10s q.1 q.2) (x1, m)
noncomputable def sf_78 (m : sh_X) : Option (Option Unit × sh_X) :=
  sh_bn (sf_79 m) fun _ m11 =>
  sh_bt (sf_82 m11) (fun m => (none, m)) fun _ m12 =>
  sf_78_10 0 m12
noncomputable def sf_16_74 (x1 : Int32) (m : sh_X) : Option (Int32 × sh_X) :=
  some ((x1, ⟨m.T, sh_u2 m.I 0 10 0, m.J, m.s⟩))
noncomputable def sf_16 (m : sh_X) : Option (Int32 × sh_X) :=
  if (m.I 0 11) < 24 then
    sh_bn (sf_17 m) fun _ m11 =>
    sh_bh (sf_24 (m11.I 0 10) m11) (fun m12 =>
      sf_16_74 (m12.I 2 9) ⟨m12.T, sh_u2 m12.I 0 12 (m12.I 2 10), m12.J, m12.s⟩) fun _ m12 =>
    sh_bh (sf_43 m12) (fun m13 =>
      sf_16_74 (m13.I 2 9) ⟨m13.T, sh_u2 m13.I 0 12 (m13.I 2 10), m13.J, m13.s⟩) fun _ m13 =>
    sh_bh (sf_78 m13) (fun m14 =>
      sf_16_74 (m14.I 2 9) ⟨m14.T, sh_u2 m14.I 0 12 (m14.I 2 10), m14.J, m14.s⟩) fun _ m14 =>
    sf_16_74 0 ⟨m14.T, sh_u2 m14.I 0 13 1, m14.J, m14.s⟩
  else
    some (((-1), m))
noncomputable def sf_202 (x1 : Int32) (m : sh_X) : Option Int32 :=
  if x1 < 0 then
    some ((-1))
  else
    if x1 < (m.I 58 6) then
      if x1 < (Int32.ofNat (sh_ln m.T (sh_rf m.T 58 5))) then
        if sh_okb x1 (sh_ln m.T (sh_rf m.T 58 5)) = true then
          some ((m.I (sh_rf m.T 58 5) (Int32.toNatClampNeg x1)) &&& 255)
        else none
      else
        some ((-1))
    else
      some ((-1))
noncomputable def sf_203 (x1 : Int32) (m : sh_X) : Option (Option Unit × sh_X) :=
  if m.T.length < 1000000 then some ((none, ⟨m.T ++ [.inr (13, [])], sh_u2 m.I 58 11 x1, m.J, m.s + 6⟩)) else none
noncomputable def sf_201_58 (x1 : Int32) (x2 : Int32) (x3 : Int32) (x4 : Int32) (x5 : Int32) (m : sh_X) : Option ((Int32 × Int32 × sh_X) ⊕ (Option Int32 × sh_X)) :=
  sh_bc (sf_202 (m.I 58 7) m) fun r1 =>
  some (.inl (x4 + 1, ((10 * x5) + r1) - 48, ⟨m.T, sh_u2 m.I 58 7 ((m.I 58 7) + 1), m.J, m.s⟩))
noncomputable def sf_201_50 (x1 : Int32) (x2 : Int32) (x3 : Int32) (x4 : Int32) (x5 : Int32) (m : sh_X) : Option ((Int32 × Int32 × sh_X) ⊕ (Option Int32 × sh_X)) :=
  sh_bt (sf_203 (m.I 58 7) m) (fun m => .inr ((none, m))) fun _ m11 =>
  sf_201_58 x1 x2 x3 x4 x5 m11
noncomputable def sf_201_110 (x3 : Int32) (x5 : Int32) (m : sh_X) : Option (Option Int32 × sh_X) :=
  sh_bt (sf_203 x3 m) (fun m => (none, m)) fun _ m11 =>
  some ((some x5, m11))
noncomputable def sf_201_93 (x1 : Int32) (x2 : Int32) (x3 : Int32) (x4 : Int32) (x5 : Int32) (m : sh_X) : Option (Option Int32 × sh_X) :=
  if x4 = 0 then
    sf_201_110 x3 x5 m
  else
    if x5 < x1 then
      sf_201_110 x3 x5 m
    else
      if x2 < x5 then
        sf_201_110 x3 x5 m
      else
        some ((some x5, m))
noncomputable def sf_201_11s (x1 : Int32) (x2 : Int32) (x3 : Int32) (x4 : Int32) (x5 : Int32) (m : sh_X) : Option ((Int32 × Int32 × sh_X) ⊕ (Option Int32 × sh_X)) :=
  if 9 < x4 then
    sh_up (sf_201_93 x1 x2 x3 x4 x5 m)
  else
    sh_bc (sf_202 (m.I 58 7) m) fun r1 =>
    if (sf_31 r1) = true then
      if x4 = 9 then
        sf_201_50 x1 x2 x3 x4 x5 m
      else
        if x4 = 1 then
          if x5 = 0 then
            sf_201_50 x1 x2 x3 x4 x5 m
          else
            sf_201_58 x1 x2 x3 x4 x5 m
        else
          sf_201_58 x1 x2 x3 x4 x5 m
    else
      sh_up (sf_201_93 x1 x2 x3 x4 x5 m)
noncomputable def sf_201_11 (x1 : Int32) (x2 : Int32) (x3 : Int32) (x4 : Int32) (x5 : Int32) (m : sh_X) : Option (Option Int32 × sh_X) := sh_while (fun q => sf_201_11s x1 x2 x3 q.1 q.2.1 q.2.2) (x4, x5, m)
noncomputable def sf_201 (x1 : Int32) (x2 : Int32) (m : sh_X) : Option (Option Int32 × sh_X) :=
  sf_201_11 x1 x2 (m.I 58 7) 0 0 m
noncomputable def sf_204_20 (m : sh_X) : Option (Option Unit × sh_X) :=
  some ((some (), ⟨m.T, sh_u2 m.I 58 7 ((m.I 58 7) + 1), m.J, m.s⟩))
noncomputable def sf_204 (x1 : Int32) (m : sh_X) : Option (Option Unit × sh_X) :=
  sh_bc (sf_202 (m.I 58 7) m) fun r1 =>
  if r1 = x1 then
    sf_204_20  m
  else
    sh_bt (sf_203 (m.I 58 7) m) (fun m => (none, m)) fun _ m12 =>
    sf_204_20  m12
noncomputable def sf_207_2s (x1 : Nat) (x2 : Int32) (x3 : Int32) (m : sh_X) : Option ((Int32 × sh_X) ⊕ (Unit × sh_X)) :=
  if x3 < x2 then
    sh_bn (sf_102 x1 (sf_21 64 (x2 - x3)) m) fun _ m12 =>
    some (.inl (x3 + 64, m12))
  else
    some (.inr (((), m)))
noncomputable def sf_207_2 (x1 : Nat) (x2 : Int32) (x3 : Int32) (m : sh_X) : Option (Unit × sh_X) := sh_while (fun q => sf_207_2s x1 x2 q.1 q.2) (x3, m)
noncomputable def sf_207 (x1 : Nat) (x2 : Int32) (m : sh_X) : Option (Unit × sh_X) :=
  sf_207_2 x1 x2 0 m
noncomputable def sf_206_9s (x1 : Nat) (x2 : Int32) (x3 : Int32) (x4 : Int32) (m : sh_X) : Option ((Int32 × sh_X) ⊕ (Unit × sh_X)) :=
  if x4 < (x2 + x3) then
    if x4 < 4000 then
      sh_bn (sf_99 m) fun r1 m11 =>
      if sh_okb x4 4000 = true then
        if sh_okb x4 4000 = true then
          sh_bn (sf_104 x1 ((sh_u2 m11.I 59 (Int32.toNatClampNeg x4) r1) 59 (Int32.toNatClampNeg x4)) ⟨m11.T, sh_u2 m11.I 59 (Int32.toNatClampNeg x4) r1, m11.J, m11.s⟩) fun _ m12 =>
          some (.inl (x4 + 1, m12))
        else none
      else none
    else
      some (.inr (((), m)))
  else
    some (.inr (((), m)))
noncomputable def sf_206_9 (x1 : Nat) (x2 : Int32) (x3 : Int32) (x4 : Int32) (m : sh_X) : Option (Unit × sh_X) := sh_while (fun q => sf_206_9s x1 x2 x3 q.1 q.2) (x4, m)
noncomputable def sf_206 (x1 : Nat) (x2 : Int32) (x3 : Int32) (m : sh_X) : Option (Unit × sh_X) :=
  sh_bn (sf_207 x1 x3 m) fun _ m11 =>
  sf_206_9 x1 x2 x3 x2 m11
noncomputable def sf_205 (m : sh_X) : Option (Option Unit × sh_X) :=
  sh_bt (sf_201 2 2 m) (fun m => (none, m)) fun r1 m11 =>
  sh_bt (sf_204 32 m11) (fun m => (none, m)) fun _ m12 =>
  sh_bt (sf_201 1 500 m12) (fun m => (none, m)) fun r3 m13 =>
  sh_bt (sf_204 32 m13) (fun m => (none, m)) fun _ m14 =>
  sh_bt (sf_201 1 (sf_21 500 ((m14.I 58 8) - r3)) m14) (fun m => (none, m)) fun r6 m16 =>
  sh_bt (sf_204 10 m16) (fun m => (none, m)) fun _ m17 =>
  sh_bn (sf_206 13 0 r3 m17) fun _ m18 =>
  sh_bn (sf_206 18 r3 r6 m18) fun _ m19 =>
  some ((some (), m19))
noncomputable def sf_209_39 (x2 : Int32) (m : sh_X) : Option (Option Int32 × sh_X) :=
  sh_bt (sf_204 32 m) (fun m => (none, m)) fun _ m11 =>
  if sh_okb x2 4000 = true then
    some ((some (m11.I 59 (Int32.toNatClampNeg x2)), m11))
  else none
noncomputable def sf_209_34 (x1 : Int32) (x2 : Int32) (m : sh_X) : Option (Option Int32 × sh_X) :=
  sh_bt (sf_203 x1 m) (fun m => (none, m)) fun _ m11 =>
  sf_209_39 x2 m11
noncomputable def sf_209 (m : sh_X) : Option (Option Int32 × sh_X) :=
  sh_bt (sf_201 0 ((m.I 58 8) - 1) m) (fun m => (none, m)) fun r1 m11 =>
  if r1 < 4000 then
    if sh_okb r1 4000 = true then
      if (m11.I 59 (Int32.toNatClampNeg r1)) = (-1) then
        sf_209_34 (m.I 58 7) r1 m11
      else
        sf_209_39 r1 m11
    else none
  else
    sf_209_34 (m.I 58 7) r1 m11
noncomputable def sf_210_39 (x2 : Int32) (m : sh_X) : Option (Option Int32 × sh_X) :=
  sh_bt (sf_204 32 m) (fun m => (none, m)) fun _ m11 =>
  some ((some x2, m11))
noncomputable def sf_210_34 (x1 : Int32) (x2 : Int32) (m : sh_X) : Option (Option Int32 × sh_X) :=
  sh_bt (sf_203 x1 m) (fun m => (none, m)) fun _ m11 =>
  sf_210_39 x2 m11
noncomputable def sf_210 (m : sh_X) : Option (Option Int32 × sh_X) :=
  sh_bt (sf_201 0 ((m.I 58 8) - 1) m) (fun m => (none, m)) fun r1 m11 =>
  if r1 < 4000 then
    if sh_okb r1 4000 = true then
      if (m11.I 59 (Int32.toNatClampNeg r1)) = (-1) then
        sf_210_39 r1 m11
      else
        sf_210_34 (m.I 58 7) r1 m11
    else none
  else
    sf_210_34 (m.I 58 7) r1 m11
noncomputable def sf_211_2s (x1 : Nat) (x2 : Int32) (m : sh_X) : Option ((Int32 × sh_X) ⊕ (Option Unit × sh_X)) :=
  if 0 < sh_txn x1 then
    if x2 < (sh_txl x1) then
      if sh_okb x2 (sh_txn x1) = true then
        sh_bt (sf_204 (sh_txc x1 x2) m) (fun m => .inr ((none, m))) fun _ m11 =>
        some (.inl (x2 + 1, m11))
      else none
    else
      some (.inr ((some (), m)))
  else none
noncomputable def sf_211_2 (x1 : Nat) (x2 : Int32) (m : sh_X) : Option (Option Unit × sh_X) := sh_while (fun q => sf_211_2s x1 q.1 q.2) (x2, m)
noncomputable def sf_211 (x1 : Nat) (m : sh_X) : Option (Option Unit × sh_X) :=
  sf_211_2 x1 0 m
noncomputable def sf_208_185 (m : sh_X) : Option (Option Unit × sh_X) :=
  sh_bt (sf_204 10 m) (fun m => (none, m)) fun _ m11 =>
  some ((some (), m11))
noncomputable def sf_208_94 (x1 : Int32) (x2 : Int32) (x3 : Int32) (x4 : Int32) (m : sh_X) : Option (Option Unit × sh_X) :=
  if x1 = 2 then
    sh_bt (sf_211 3 m) (fun m => (none, m)) fun _ m11 =>
    sh_bn (sf_132 x2 x3 m11) fun r2 m12 =>
    if sh_okb x4 4000 = true then
      sf_208_185  ⟨m12.T, sh_u2 (sh_u2 m12.I 59 (Int32.toNatClampNeg x4) r2) 58 10 ((m12.I 58 10) + 1), m12.J, m12.s⟩
    else none
  else
    sh_bc (sf_202 (m.I 58 7) m) fun r3 =>
    if r3 = 73 then
      sh_bt (sf_211 4 m) (fun m => (none, m)) fun _ m14 =>
      sh_bn (sf_141 x2 m14) fun r5 m15 =>
      if sh_okb x4 4000 = true then
        sf_208_185  ⟨m15.T, sh_u2 m15.I 59 (Int32.toNatClampNeg x4) r5, m15.J, m15.s⟩
      else none
    else
      sh_bt (sf_211 5 m) (fun m => (none, m)) fun _ m16 =>
      if sh_okb x4 4000 = true then
        sf_208_185  ⟨m16.T, sh_u2 m16.I 59 (Int32.toNatClampNeg x4) x2, m16.J, m16.s⟩
      else none
noncomputable def sf_208_44 (x1 : Int32) (x2 : Int32) (y0 : Int32) (m : sh_X) : Option (Option Unit × sh_X) :=
  sh_bt (sf_210 m) (fun m => (none, m)) fun r1 m11 =>
  if x1 = 2 then
    sh_bc (sf_202 (m11.I 58 7) m11) fun r2 =>
    if r2 = 88 then
      sh_bt (sf_211 2 m11) (fun m => (none, m)) fun _ m13 =>
      sh_bn (sf_130 x2 y0 m13) fun r4 m14 =>
      if sh_okb r1 4000 = true then
        sf_208_185  ⟨m14.T, sh_u2 m14.I 59 (Int32.toNatClampNeg r1) r4, m14.J, m14.s⟩
      else none
    else
      sf_208_94 x1 x2 y0 r1 m11
  else
    sf_208_94 x1 x2 y0 r1 m11
noncomputable def sf_208 (m : sh_X) : Option (Option Unit × sh_X) :=
  sh_bt (sf_201 1 2 m) (fun m => (none, m)) fun r1 m11 =>
  sh_bt (sf_204 32 m11) (fun m => (none, m)) fun _ m12 =>
  sh_bt (sf_201 1 1 m12) (fun m => (none, m)) fun r3 m13 =>
  sh_bt (sf_204 32 m13) (fun m => (none, m)) fun _ m14 =>
  sh_bt (sf_209 m14) (fun m => (none, m)) fun r5 m15 =>
  if r1 = 2 then
    sh_bt (sf_209 m15) (fun m => (none, m)) fun r6 m16 =>
    sf_208_44 r1 r5 r6 m16
  else
    sf_208_44 r1 r5 r5 m15
noncomputable def sf_212_53 (x2 : Int32) (m : sh_X) : Option ((Int32 × sh_X) ⊕ (Option Unit × sh_X)) :=
  if sh_okb x2 4000 = true then
    sh_bn (sf_104 23 (m.I 59 (Int32.toNatClampNeg x2)) m) fun _ m11 =>
    some (.inl (x2 + 1, m11))
  else none
noncomputable def sf_212_20s (x2 : Int32) (m : sh_X) : Option ((Int32 × sh_X) ⊕ (Option Unit × sh_X)) :=
  if x2 < (m.I 58 8) then
    if x2 < 4000 then
      if sh_okb x2 4000 = true then
        if (m.I 59 (Int32.toNatClampNeg x2)) = (-1) then
          sh_bt (sf_203 (m.I 58 6) m) (fun m => .inr ((none, m))) fun _ m11 =>
          sf_212_53 x2 m11
        else
          sf_212_53 x2 m
      else none
    else
      some (.inr ((some (), m)))
  else
    some (.inr ((some (), m)))
noncomputable def sf_212_20 (x2 : Int32) (m : sh_X) : Option (Option Unit × sh_X) := sh_while (fun q => sf_212_20s q.1 q.2) (x2, m)
noncomputable def sf_212 (x1 : Int32) (m : sh_X) : Option (Option Unit × sh_X) :=
  sh_bn (sf_207 23 x1 m) fun _ m11 =>
  sf_212_20 (sf_42 0 ((m11.I 58 8) - x1)) m11
noncomputable def sf_200_155 (x3 : Int32) (m : sh_X) : Option (Option Unit × sh_X) :=
  sh_bt (sf_212 x3 m) (fun m => (none, m)) fun _ m11 =>
  some ((some (), m11))
noncomputable def sf_200_117s (x3 : Int32) (x4 : Int32) (m : sh_X) : Option ((Int32 × sh_X) ⊕ (Option Unit × sh_X)) :=
  if x4 < (m.I 58 9) then
    sh_bt (sf_208 m) (fun m => .inr ((none, m))) fun _ m11 =>
    some (.inl (x4 + 1, m11))
  else
    if (m.I 58 7) < (m.I 58 6) then
      sh_bt (sf_203 (m.I 58 7) m) (fun m => .inr ((none, m))) fun _ m12 =>
      sh_up (sf_200_155 x3 m12)
    else
      sh_up (sf_200_155 x3 m)
noncomputable def sf_200_117 (x3 : Int32) (x4 : Int32) (m : sh_X) : Option (Option Unit × sh_X) := sh_while (fun q => sf_200_117s x3 q.1 q.2) (x4, m)
noncomputable def sf_200 (x2 : Int32) (m : sh_X) : Option (Option Unit × sh_X) :=
  sh_bn (sf_184 59 (-1) ⟨(sh_tx58 m.T), sh_u2 (sh_u2 (sh_u2 m.I 58 6 (sf_21 x2 4000)) 58 7 0) 58 10 0, m.J, m.s⟩) fun _ m12 =>
  sh_bt (sf_201 1 2000 m12) (fun m => (none, m)) fun r3 m13 =>
  sh_bt (sf_204 32 ⟨m13.T, sh_u2 m13.I 58 9 r3, m13.J, m13.s⟩) (fun m => (none, m)) fun _ m14 =>
  sh_bt (sf_201 1 4000 m14) (fun m => (none, m)) fun r5 m15 =>
  sh_bt (sf_204 10 ⟨m15.T, sh_u2 m15.I 58 8 r5, m15.J, m15.s⟩) (fun m => (none, m)) fun _ m16 =>
  sh_bt (sf_205 m16) (fun m => (none, m)) fun _ m17 =>
  sh_bt (sf_201 1 1 m17) (fun m => (none, m)) fun r8 m18 =>
  sh_bt (sf_204 32 m18) (fun m => (none, m)) fun _ m19 =>
  sh_bt (sf_201 1 (sf_21 500 (m19.I 58 8)) m19) (fun m => (none, m)) fun r11 m21 =>
  sh_bt (sf_204 10 m21) (fun m => (none, m)) fun _ m22 =>
  sh_bt (sf_204 10 m22) (fun m => (none, m)) fun _ m23 =>
  sf_200_117 r11 0 m23
noncomputable def sf_199_54 (x1 : Int32) (m : sh_X) : Option (Int32 × sh_X) :=
  some ((x1, ⟨m.T, sh_u2 m.I 0 10 0, m.J, m.s⟩))
noncomputable def sf_199 (m : sh_X) : Option (Int32 × sh_X) :=
  if (m.I 0 11) < 24 then
    sh_bn (sf_17 m) fun _ m11 =>
    sh_bh (sf_200 (m11.I 0 10) m11) (fun m12 =>
      sf_199_54 2 ⟨m12.T, sh_u2 m12.I 0 12 (m12.I 58 11), m12.J, m12.s⟩) fun _ m12 =>
    sf_199_54 0 ⟨m12.T, sh_u2 m12.I 0 13 2, m12.J, m12.s⟩
  else
    some (((-1), m))
noncomputable def sf_213 (m : sh_X) : Option Int32 :=
  some (m.I 0 12)
noncomputable def sf_215 (x1 : Int32) (m : sh_X) : Option Int32 :=
  if x1 = 4 then
    some (m.I 58 10)
  else
    if x1 = 5 then
      some (m.I 58 9)
    else
      some (m.I 58 8)
noncomputable def sf_214_54 (x1 : Int32) (m : sh_X) : Option (Int32 × sh_X) :=
  if x1 = 0 then
    some ((m.I 13 4, m))
  else
    if x1 = 1 then
      some ((m.I 18 4, m))
    else
      if x1 = 2 then
        some ((m.I 23 4, m))
      else
        some (((-1), m))
noncomputable def sf_214 (x1 : Int32) (m : sh_X) : Option (Int32 × sh_X) :=
  if (m.I 0 13) = 0 then
    some (((-1), m))
  else
    if x1 = 3 then
      some ((m.I 23 5, m))
    else
      if x1 < 4 then
        sf_214_54 x1 m
      else
        if 6 < x1 then
          sf_214_54 x1 m
        else
          if (m.I 0 13) = 2 then
            sh_bc (sf_215 x1 m) fun r1 =>
            some ((r1, m))
          else
            some (((-1), m))
noncomputable def sf_218 (x1 : Int32) (x2 : Int64) (m : sh_X) : Option (Unit × sh_X) :=
  if x1 < 0 then
    some (((), m))
  else
    if x1 < 2 then
      if sh_okb x1 2 = true then
        some (((), ⟨m.T, m.I, sh_u2 m.J 62 (Int32.toNatClampNeg x1) x2, m.s⟩))
      else none
    else
      some (((), m))
noncomputable def sf_217_9 (x1 : Int32) (x2 : Int32) (x3 : Int32) (m : sh_X) : Option (Unit × sh_X) :=
  sh_bn (sf_218 x1 (((Int32.toInt64 x2) <<< (Int32.toInt64 32 &&& 63)) ||| ((Int32.toInt64 x3) &&& (4294967295 : Int64))) m) fun _ m11 =>
  some (((), m11))
noncomputable def sf_217 (x1 : Int32) (x2 : Int32) (x3 : Int32) (m : sh_X) : Option (Unit × sh_X) :=
  if x1 = 0 then
    sf_217_9 x1 x2 x3 m
  else
    if x1 = 1 then
      sf_217_9 x1 x2 x3 m
    else
      some (((), m))
noncomputable def sf_223 (x0 : Int64) : Int64 :=
  ((((x0 ^^^ ((x0.toUInt64 >>> ((Int32.toInt64 30).toUInt64 &&& Int64.toUInt64 63)).toInt64)) * (-4658895280553007687 : Int64)) ^^^ ((((x0 ^^^ ((x0.toUInt64 >>> ((Int32.toInt64 30).toUInt64 &&& Int64.toUInt64 63)).toInt64)) * (-4658895280553007687 : Int64)).toUInt64 >>> ((Int32.toInt64 27).toUInt64 &&& Int64.toUInt64 63)).toInt64)) * (-7723592293110705685 : Int64)) ^^^ ((((((x0 ^^^ ((x0.toUInt64 >>> ((Int32.toInt64 30).toUInt64 &&& Int64.toUInt64 63)).toInt64)) * (-4658895280553007687 : Int64)) ^^^ ((((x0 ^^^ ((x0.toUInt64 >>> ((Int32.toInt64 30).toUInt64 &&& Int64.toUInt64 63)).toInt64)) * (-4658895280553007687 : Int64)).toUInt64 >>> ((Int32.toInt64 27).toUInt64 &&& Int64.toUInt64 63)).toInt64)) * (-7723592293110705685 : Int64)).toUInt64 >>> ((Int32.toInt64 31).toUInt64 &&& Int64.toUInt64 63)).toInt64)
noncomputable def sf_222 (x1 : Int32) (m : sh_X) : Option (Int64 × sh_X) :=
  if sh_okb x1 2 = true then
    if sh_okb x1 2 = true then
      if sh_okb x1 2 = true then
        some ((sf_223 ((sh_u2 m.J 62 (Int32.toNatClampNeg x1) ((m.J 62 (Int32.toNatClampNeg x1)) + (-7046029254386353131 : Int64))) 62 (Int32.toNatClampNeg x1)), ⟨m.T, m.I, sh_u2 m.J 62 (Int32.toNatClampNeg x1) ((m.J 62 (Int32.toNatClampNeg x1)) + (-7046029254386353131 : Int64)), m.s⟩))
      else none
    else none
  else none
noncomputable def sf_225 (x1 : Int32) (m : sh_X) : Option Bool :=
  if x1 < 0 then
    some (false)
  else
    if x1 < (m.I 9 3) then
      if x1 < (Int32.ofNat (sh_ln m.T (sh_rf m.T 61 3))) then
        if x1 < (Int32.ofNat (sh_ln m.T (sh_rf m.T 61 4))) then
          some (true)
        else
          some (false)
      else
        some (false)
    else
      some (false)
noncomputable def sf_224 (m : sh_X) : Option (Unit × sh_X) :=
  sh_bc (sf_225 1 m) fun r1 =>
  if r1 = true then
    sh_bn (sf_222 0 m) fun r2 m12 =>
    if sh_okb 0 (sh_ln m.T (sh_rf m.T 61 3)) = true then
      sh_bn (sf_222 0 ⟨m12.T, m12.I, sh_u2 m12.J (sh_rf m.T 61 3) 0 r2, m12.s⟩) fun r3 m13 =>
      if sh_okb 1 (sh_ln m12.T (sh_rf m12.T 61 3)) = true then
        if sh_okb 0 (sh_ln m13.T (sh_rf m13.T 61 3)) = true then
          if sh_okb 0 (sh_ln m13.T (sh_rf m13.T 61 4)) = true then
            if sh_okb 1 (sh_ln m13.T (sh_rf m13.T 61 3)) = true then
              if sh_okb 1 (sh_ln m13.T (sh_rf m13.T 61 4)) = true then
                some (((), ⟨m13.T, m13.I, sh_u2 (sh_u2 (sh_u2 m13.J (sh_rf m12.T 61 3) 1 r3) (sh_rf m13.T 61 4) 0 ((sh_u2 m13.J (sh_rf m12.T 61 3) 1 r3) (sh_rf m13.T 61 3) 0)) (sh_rf m13.T 61 4) 1 (((sh_u2 (sh_u2 m13.J (sh_rf m12.T 61 3) 1 r3) (sh_rf m13.T 61 4) 0 ((sh_u2 m13.J (sh_rf m12.T 61 3) 1 r3) (sh_rf m13.T 61 3) 0)) (sh_rf m13.T 61 3) 1) ^^^ ((sh_u2 (sh_u2 m13.J (sh_rf m12.T 61 3) 1 r3) (sh_rf m13.T 61 4) 0 ((sh_u2 m13.J (sh_rf m12.T 61 3) 1 r3) (sh_rf m13.T 61 3) 0)) 61 5)), m13.s⟩))
              else none
            else none
          else none
        else none
      else none
    else none
  else
    some (((), m))
noncomputable def sf_228 (x0 : Nat) (x1 : Int32) (m : sh_X) : Option Bool :=
  if x1 < 0 then
    some (false)
  else
    if x1 < (m.I x0 4) then
      some (true)
    else
      some (false)
noncomputable def sf_227_20 (x0 : Nat) (y0 : Int32) (m : sh_X) : Option Int32 :=
  if y0 < 0 then
    some (0)
  else
    if y0 < (m.I x0 5) then
      if sh_okb y0 1000 = true then
        some (m.I (x0 + 4) (Int32.toNatClampNeg y0))
      else none
    else
      some (0)
noncomputable def sf_227 (x0 : Nat) (x1 : Int32) (x2 : Int32) (m : sh_X) : Option Int32 :=
  sh_bc (sf_228 x0 x1 m) fun r1 =>
  if r1 = true then
    if sh_okb x1 256 = true then
      sf_227_20 x0 ((m.I (x0 + 1) (Int32.toNatClampNeg x1)) + x2) m
    else none
  else
    sf_227_20 x0 (-1) m
noncomputable def sf_226_81 (x2 : Int32) (x3 : Int32) (m : sh_X) : Option ((Int32 × sh_X) ⊕ ((Int32 × sh_X) ⊕ (Unit × sh_X))) :=
  some (.inl (x3 + 1, m))
noncomputable def sf_226_12s (x2 : Int32) (x3 : Int32) (m : sh_X) : Option ((Int32 × sh_X) ⊕ ((Int32 × sh_X) ⊕ (Unit × sh_X))) :=
  if sh_okb x2 256 = true then
    if x3 < (m.I 15 (Int32.toNatClampNeg x2)) then
      sh_bc (sf_227 13 x2 x3 m) fun r1 =>
      sh_bc (sf_225 r1 m) fun r2 =>
      if r2 = true then
        sh_bn (sf_222 0 m) fun r3 m13 =>
        if sh_okb r1 (sh_ln m.T (sh_rf m.T 61 3)) = true then
          if sh_okb r1 (sh_ln m13.T (sh_rf m13.T 61 3)) = true then
            if sh_okb x2 256 = true then
              if sh_okb r1 (sh_ln m13.T (sh_rf m13.T 61 4)) = true then
                sf_226_81 x2 x3 ⟨m13.T, m13.I, sh_u2 (sh_u2 m13.J (sh_rf m.T 61 3) (Int32.toNatClampNeg r1) r3) (sh_rf m13.T 61 4) (Int32.toNatClampNeg r1) (((sh_u2 m13.J (sh_rf m.T 61 3) (Int32.toNatClampNeg r1) r3) (sh_rf m13.T 61 3) (Int32.toNatClampNeg r1)) ^^^ ((((((sh_u2 m13.J (sh_rf m.T 61 3) (Int32.toNatClampNeg r1) r3) 16 (Int32.toNatClampNeg x2)).toUInt64 >>> ((Int32.toInt64 x3).toUInt64 &&& Int64.toUInt64 63)).toInt64) &&& (1 : Int64)) * ((sh_u2 m13.J (sh_rf m.T 61 3) (Int32.toNatClampNeg r1) r3) 61 5))), m13.s⟩
              else none
            else none
          else none
        else none
      else
        sf_226_81 x2 x3 m
    else
      some (.inr (.inl (x2 + 1, m)))
  else none
noncomputable def sf_226_12 (x2 : Int32) (x3 : Int32) (m : sh_X) : Option ((Int32 × sh_X) ⊕ (Unit × sh_X)) := sh_while (fun q => sf_226_12s x2 q.1 q.2) (x3, m)
noncomputable def sf_226_2s (x2 : Int32) (m : sh_X) : Option ((Int32 × sh_X) ⊕ (Unit × sh_X)) :=
  if x2 < (m.I 13 4) then
    sf_226_12 x2 0 m
  else
    some (.inr (((), m)))
noncomputable def sf_226_2 (x2 : Int32) (m : sh_X) : Option (Unit × sh_X) := sh_while (fun q => sf_226_2s q.1 q.2) (x2, m)
noncomputable def sf_226 (m : sh_X) : Option (Unit × sh_X) :=
  sf_226_2 0 m
noncomputable def sf_230_92 (x9 : Int64) (y0 : Int64) (m : sh_X) : Option (Int64 × sh_X) :=
  some ((y0 ^^^ x9, m))
noncomputable def sf_230_78 (x3 : Int32) (x9 : Int64) (x12 : Int64) (y0 : Int64) (y1 : Int64) (m : sh_X) : Option (Int64 × sh_X) :=
  if x3 = 0 then
    sf_230_92 x9 x12 m
  else
    sf_230_92 x9 (y0 ^^^ y1) m
noncomputable def sf_230_57 (x1 : Int64) (x3 : Int32) (x4 : Int64) (x6 : Int64) (x9 : Int64) (x11 : Int32) (y0 : Int64) (y1 : Int64) (m : sh_X) : Option (Int64 × sh_X) :=
  if x11 = 0 then
    sf_230_78 x3 x9 (y0 ^^^ y1) (x1 ^^^ (m.J 61 5)) x6 m
  else
    sf_230_78 x3 x9 (y0 ^^^ y1) (x1 ^^^ (m.J 61 5)) x4 m
noncomputable def sf_230_36 (x1 : Int64) (x3 : Int32) (x4 : Int64) (x6 : Int64) (x8 : Int32) (y0 : Int64) (m : sh_X) : Option (Int64 × sh_X) :=
  if (x3 ^^^ x8) = 0 then
    sf_230_57 x1 x3 x4 x6 y0 (x3 ^^^ x8) x1 x4 m
  else
    sf_230_57 x1 x3 x4 x6 y0 (x3 ^^^ x8) x1 x6 m
noncomputable def sf_230 (x1 : Int64) (x3 : Int32) (m : sh_X) : Option (Int64 × sh_X) :=
  sh_bn (sf_222 0 m) fun r1 m11 =>
  sh_bn (sf_222 0 m11) fun r2 m12 =>
  sh_bn (sf_222 1 m12) fun r3 m13 =>
  if (Int64.toInt32 (r3 &&& (1 : Int64))) = 0 then
    sf_230_36 x1 x3 r1 r2 (Int64.toInt32 (r3 &&& (1 : Int64))) r1 m13
  else
    sf_230_36 x1 x3 r1 r2 (Int64.toInt32 (r3 &&& (1 : Int64))) r2 m13
noncomputable def sf_229_80 (x2 : Int32) (x3 : Int32) (m : sh_X) : Option ((Int32 × sh_X) ⊕ ((Int32 × sh_X) ⊕ (Unit × sh_X))) :=
  some (.inl (x3 + 1, m))
noncomputable def sf_229_12s (x2 : Int32) (x3 : Int32) (m : sh_X) : Option ((Int32 × sh_X) ⊕ ((Int32 × sh_X) ⊕ (Unit × sh_X))) :=
  if sh_okb x2 256 = true then
    if x3 < (m.I 20 (Int32.toNatClampNeg x2)) then
      sh_bc (sf_227 18 x2 x3 m) fun r1 =>
      sh_bc (sf_225 r1 m) fun r2 =>
      if r2 = true then
        sh_bn (sf_222 0 m) fun r3 m13 =>
        if sh_okb r1 (sh_ln m.T (sh_rf m.T 61 3)) = true then
          if sh_okb r1 (sh_ln m13.T (sh_rf m13.T 61 3)) = true then
            if sh_okb x2 256 = true then
              sh_bn (sf_230 ((sh_u2 m13.J (sh_rf m.T 61 3) (Int32.toNatClampNeg r1) r3) (sh_rf m13.T 61 3) (Int32.toNatClampNeg r1)) (Int64.toInt32 (((((sh_u2 m13.J (sh_rf m.T 61 3) (Int32.toNatClampNeg r1) r3) 21 (Int32.toNatClampNeg x2)).toUInt64 >>> ((Int32.toInt64 x3).toUInt64 &&& Int64.toUInt64 63)).toInt64) &&& (1 : Int64))) ⟨m13.T, m13.I, sh_u2 m13.J (sh_rf m.T 61 3) (Int32.toNatClampNeg r1) r3, m13.s⟩) fun r4 m14 =>
              if sh_okb r1 (sh_ln m13.T (sh_rf m13.T 61 4)) = true then
                sf_229_80 x2 x3 ⟨m14.T, m14.I, sh_u2 m14.J (sh_rf m13.T 61 4) (Int32.toNatClampNeg r1) r4, m14.s⟩
              else none
            else none
          else none
        else none
      else
        sf_229_80 x2 x3 m
    else
      some (.inr (.inl (x2 + 1, m)))
  else none
noncomputable def sf_229_12 (x2 : Int32) (x3 : Int32) (m : sh_X) : Option ((Int32 × sh_X) ⊕ (Unit × sh_X)) := sh_while (fun q => sf_229_12s x2 q.1 q.2) (x3, m)
noncomputable def sf_229_2s (x2 : Int32) (m : sh_X) : Option ((Int32 × sh_X) ⊕ (Unit × sh_X)) :=
  if x2 < (m.I 18 4) then
    sf_229_12 x2 0 m
  else
    some (.inr (((), m)))
noncomputable def sf_229_2 (x2 : Int32) (m : sh_X) : Option (Unit × sh_X) := sh_while (fun q => sf_229_2s q.1 q.2) (x2, m)
noncomputable def sf_229 (m : sh_X) : Option (Unit × sh_X) :=
  sf_229_2 0 m
noncomputable def sf_232 (x0 : Int64) (x2 : Int64) (x4 : Int32) : Int64 :=
  sf_223 (((x0 * (-7046029254386353131 : Int64)) + ((x2 <<< (Int32.toInt64 23 &&& 63)) ||| ((x2.toUInt64 >>> ((Int32.toInt64 41).toUInt64 &&& Int64.toUInt64 63)).toInt64))) + (Int32.toInt64 x4))
noncomputable def sf_231_10s (x1 : Int32) (x2 : Int64) (x4 : Int64) (x6 : Int64) (x8 : Int32) (m : sh_X) : Option ((Int32 × sh_X) ⊕ (Unit × sh_X)) :=
  if x8 < 4 then
    if sh_okb (Int64.toInt32 (((2 : Int64) * ((x2 ^^^ ((Int32.toInt64 (x8 >>> (1 &&& 31))) * (m.J 61 5))) &&& (1 : Int64))) + ((x4 ^^^ ((Int32.toInt64 (x8 &&& 1)) * (m.J 61 5))) &&& (1 : Int64)))) 4 = true then
      some (.inl (x8 + 1, ⟨m.T, m.I, sh_u2 m.J 63 (Int32.toNatClampNeg (Int64.toInt32 (((2 : Int64) * ((x2 ^^^ ((Int32.toInt64 (x8 >>> (1 &&& 31))) * (m.J 61 5))) &&& (1 : Int64))) + ((x4 ^^^ ((Int32.toInt64 (x8 &&& 1)) * (m.J 61 5))) &&& (1 : Int64))))) ((x6 ^^^ ((Int32.toInt64 ((x8 >>> (1 &&& 31)) &&& (x8 &&& 1))) * (m.J 61 5))) ^^^ (sf_232 (x2 ^^^ ((Int32.toInt64 (x8 >>> (1 &&& 31))) * (m.J 61 5))) (x4 ^^^ ((Int32.toInt64 (x8 &&& 1)) * (m.J 61 5))) x1)), m.s⟩))
    else none
  else
    sh_bc (sf_225 x1 m) fun r2 =>
    if r2 = true then
      if sh_okb x1 (sh_ln m.T (sh_rf m.T 61 3)) = true then
        some (.inr (((), ⟨m.T, m.I, sh_u2 m.J (sh_rf m.T 61 3) (Int32.toNatClampNeg x1) x6, m.s⟩)))
      else none
    else
      some (.inr (((), m)))
noncomputable def sf_231_10 (x1 : Int32) (x2 : Int64) (x4 : Int64) (x6 : Int64) (x8 : Int32) (m : sh_X) : Option (Unit × sh_X) := sh_while (fun q => sf_231_10s x1 x2 x4 x6 q.1 q.2) (x8, m)
noncomputable def sf_231 (x1 : Int32) (x2 : Int64) (x4 : Int64) (m : sh_X) : Option (Unit × sh_X) :=
  sh_bn (sf_222 0 m) fun r1 m11 =>
  sf_231_10 x1 x2 x4 r1 0 m11
noncomputable def sf_233 (x1 : Int32) (x2 : Int64) (x4 : Int64) (m : sh_X) : Option (Unit × sh_X) :=
  sh_bc (sf_225 x1 m) fun r1 =>
  if r1 = true then
    if sh_okb (Int64.toInt32 (((2 : Int64) * (x2 &&& (1 : Int64))) + (x4 &&& (1 : Int64)))) 4 = true then
      if sh_okb x1 (sh_ln m.T (sh_rf m.T 61 4)) = true then
        some (((), ⟨m.T, m.I, sh_u2 m.J (sh_rf m.T 61 4) (Int32.toNatClampNeg x1) ((m.J 63 (Int32.toNatClampNeg (Int64.toInt32 (((2 : Int64) * (x2 &&& (1 : Int64))) + (x4 &&& (1 : Int64)))))) ^^^ (sf_232 x2 x4 x1)), m.s⟩))
      else none
    else none
  else
    some (((), m))
noncomputable def sf_235_40 (x0 : Nat) (y1 : Int32) (y2 : Int64) (m : sh_X) : Option (Unit × sh_X) :=
  if sh_okb y1 256 = true then
    some (((), ⟨m.T, m.I, sh_u2 m.J (x0 + 3) (Int32.toNatClampNeg y1) y2, m.s⟩))
  else none
noncomputable def sf_235 (x0 : Nat) (x1 : Int32) (x2 : Int64) (m : sh_X) : Option (Unit × sh_X) :=
  sh_bc (sf_228 x0 x1 m) fun r1 =>
  if r1 = true then
    if sh_okb x1 256 = true then
      if (m.I (x0 + 2) (Int32.toNatClampNeg x1)) < 64 then
        if sh_okb x1 256 = true then
          sf_235_40 x0 x1 (x2 &&& (((1 : Int64) <<< (Int32.toInt64 (m.I (x0 + 2) (Int32.toNatClampNeg x1)) &&& 63)) - (1 : Int64))) m
        else none
      else
        sf_235_40 x0 x1 x2 m
    else none
  else
    some (((), m))
noncomputable def sf_234_67 (x2 : Int32) (x3 : Int64) (x5 : Int32) (m : sh_X) : Option ((Int64 × Int32 × sh_X) ⊕ ((Int32 × sh_X) ⊕ (Unit × sh_X))) :=
  some (.inl (x3, x5 + 1, m))
noncomputable def sf_234_15s (x2 : Int32) (x3 : Int64) (x5 : Int32) (m : sh_X) : Option ((Int64 × Int32 × sh_X) ⊕ ((Int32 × sh_X) ⊕ (Unit × sh_X))) :=
  if sh_okb x2 256 = true then
    if x5 < (m.I 25 (Int32.toNatClampNeg x2)) then
      sh_bc (sf_227 23 x2 x5 m) fun r1 =>
      sh_bc (sf_225 r1 m) fun r2 =>
      if r2 = true then
        if sh_okb r1 (sh_ln m.T (sh_rf m.T 61 3)) = true then
          if sh_okb r1 (sh_ln m.T (sh_rf m.T 61 4)) = true then
            sf_234_67 x2 (x3 ||| ((((m.J (sh_rf m.T 61 3) (Int32.toNatClampNeg r1)) ^^^ (m.J (sh_rf m.T 61 4) (Int32.toNatClampNeg r1))) &&& (1 : Int64)) <<< (Int32.toInt64 x5 &&& 63))) x5 m
          else none
        else none
      else
        sf_234_67 x2 x3 x5 m
    else
      sh_bn (sf_235 23 x2 x3 m) fun _ m13 =>
      some (.inr (.inl (x2 + 1, m13)))
  else none
noncomputable def sf_234_15 (x2 : Int32) (x3 : Int64) (x5 : Int32) (m : sh_X) : Option ((Int32 × sh_X) ⊕ (Unit × sh_X)) := sh_while (fun q => sf_234_15s x2 q.1 q.2.1 q.2.2) (x3, x5, m)
noncomputable def sf_234_2s (x2 : Int32) (m : sh_X) : Option ((Int32 × sh_X) ⊕ (Unit × sh_X)) :=
  if x2 < (m.I 23 4) then
    sf_234_15 x2 0 0 m
  else
    some (.inr (((), m)))
noncomputable def sf_234_2 (x2 : Int32) (m : sh_X) : Option (Unit × sh_X) := sh_while (fun q => sf_234_2s q.1 q.2) (x2, m)
noncomputable def sf_234 (m : sh_X) : Option (Unit × sh_X) :=
  sf_234_2 0 m
noncomputable def sf_220_219 (x4 : Int32) (m : sh_X) : Option ((Int32 × sh_X) ⊕ (Unit × sh_X)) :=
  some (.inl (x4 + 1, m))
noncomputable def sf_220_225 (m : sh_X) : Option (Unit × sh_X) :=
  sh_bn (sf_234 m) fun _ m11 =>
  some (((), m11))
noncomputable def sf_220_32s (x4 : Int32) (m : sh_X) : Option ((Int32 × sh_X) ⊕ (Unit × sh_X)) :=
  if x4 < (m.I 9 3) then
    sh_bc (sf_225 x4 m) fun r1 =>
    if r1 = true then
      if sh_okb x4 (sh_ln m.T (sh_rf m.T 9 1)) = true then
        if sh_okb x4 (sh_ln m.T (sh_rf m.T 9 2)) = true then
          if (m.I (sh_rf m.T 9 1) (Int32.toNatClampNeg x4)) < 0 then
            sf_220_219 x4 m
          else
            if (m.I (sh_rf m.T 9 1) (Int32.toNatClampNeg x4)) < x4 then
              if (m.I (sh_rf m.T 9 2) (Int32.toNatClampNeg x4)) < 0 then
                sf_220_219 x4 m
              else
                if (m.I (sh_rf m.T 9 2) (Int32.toNatClampNeg x4)) < x4 then
                  if sh_okb x4 (sh_ln m.T (sh_rf m.T 9 0)) = true then
                    if (m.I (sh_rf m.T 9 0) (Int32.toNatClampNeg x4)) = 1 then
                      if sh_okb (m.I (sh_rf m.T 9 1) (Int32.toNatClampNeg x4)) (sh_ln m.T (sh_rf m.T 61 3)) = true then
                        if sh_okb (m.I (sh_rf m.T 9 2) (Int32.toNatClampNeg x4)) (sh_ln m.T (sh_rf m.T 61 3)) = true then
                          if sh_okb x4 (sh_ln m.T (sh_rf m.T 61 3)) = true then
                            if sh_okb (m.I (sh_rf m.T 9 1) (Int32.toNatClampNeg x4)) (sh_ln m.T (sh_rf m.T 61 4)) = true then
                              if sh_okb (m.I (sh_rf m.T 9 2) (Int32.toNatClampNeg x4)) (sh_ln m.T (sh_rf m.T 61 4)) = true then
                                if sh_okb x4 (sh_ln m.T (sh_rf m.T 61 4)) = true then
                                  sf_220_219 x4 ⟨m.T, m.I, sh_u2 (sh_u2 m.J (sh_rf m.T 61 3) (Int32.toNatClampNeg x4) ((m.J (sh_rf m.T 61 3) (Int32.toNatClampNeg (m.I (sh_rf m.T 9 1) (Int32.toNatClampNeg x4)))) ^^^ (m.J (sh_rf m.T 61 3) (Int32.toNatClampNeg (m.I (sh_rf m.T 9 2) (Int32.toNatClampNeg x4)))))) (sh_rf m.T 61 4) (Int32.toNatClampNeg x4) (((sh_u2 m.J (sh_rf m.T 61 3) (Int32.toNatClampNeg x4) ((m.J (sh_rf m.T 61 3) (Int32.toNatClampNeg (m.I (sh_rf m.T 9 1) (Int32.toNatClampNeg x4)))) ^^^ (m.J (sh_rf m.T 61 3) (Int32.toNatClampNeg (m.I (sh_rf m.T 9 2) (Int32.toNatClampNeg x4)))))) (sh_rf m.T 61 4) (Int32.toNatClampNeg (m.I (sh_rf m.T 9 1) (Int32.toNatClampNeg x4)))) ^^^ ((sh_u2 m.J (sh_rf m.T 61 3) (Int32.toNatClampNeg x4) ((m.J (sh_rf m.T 61 3) (Int32.toNatClampNeg (m.I (sh_rf m.T 9 1) (Int32.toNatClampNeg x4)))) ^^^ (m.J (sh_rf m.T 61 3) (Int32.toNatClampNeg (m.I (sh_rf m.T 9 2) (Int32.toNatClampNeg x4)))))) (sh_rf m.T 61 4) (Int32.toNatClampNeg (m.I (sh_rf m.T 9 2) (Int32.toNatClampNeg x4))))), m.s⟩
                                else none
                              else none
                            else none
                          else none
                        else none
                      else none
                    else
                      if sh_okb x4 (sh_ln m.T (sh_rf m.T 9 0)) = true then
                        if (m.I (sh_rf m.T 9 0) (Int32.toNatClampNeg x4)) = 2 then
                          if sh_okb (m.I (sh_rf m.T 9 1) (Int32.toNatClampNeg x4)) (sh_ln m.T (sh_rf m.T 61 3)) = true then
                            if sh_okb (m.I (sh_rf m.T 9 2) (Int32.toNatClampNeg x4)) (sh_ln m.T (sh_rf m.T 61 3)) = true then
                              sh_bn (sf_231 x4 (m.J (sh_rf m.T 61 3) (Int32.toNatClampNeg (m.I (sh_rf m.T 9 1) (Int32.toNatClampNeg x4)))) (m.J (sh_rf m.T 61 3) (Int32.toNatClampNeg (m.I (sh_rf m.T 9 2) (Int32.toNatClampNeg x4)))) m) fun _ m12 =>
                              if sh_okb (m.I (sh_rf m.T 9 1) (Int32.toNatClampNeg x4)) (sh_ln m12.T (sh_rf m12.T 61 4)) = true then
                                if sh_okb (m.I (sh_rf m.T 9 2) (Int32.toNatClampNeg x4)) (sh_ln m12.T (sh_rf m12.T 61 4)) = true then
                                  sh_bn (sf_233 x4 (m12.J (sh_rf m12.T 61 4) (Int32.toNatClampNeg (m.I (sh_rf m.T 9 1) (Int32.toNatClampNeg x4)))) (m12.J (sh_rf m12.T 61 4) (Int32.toNatClampNeg (m.I (sh_rf m.T 9 2) (Int32.toNatClampNeg x4)))) m12) fun _ m13 =>
                                  sf_220_219 x4 m13
                                else none
                              else none
                            else none
                          else none
                        else
                          sf_220_219 x4 m
                      else none
                  else none
                else
                  sf_220_219 x4 m
            else
              sf_220_219 x4 m
        else none
      else none
    else
      sh_up (sf_220_225  m)
  else
    sh_up (sf_220_225  m)
noncomputable def sf_220_32 (x4 : Int32) (m : sh_X) : Option (Unit × sh_X) := sh_while (fun q => sf_220_32s q.1 q.2) (x4, m)
noncomputable def sf_220 (m : sh_X) : Option (Unit × sh_X) :=
  sh_bn (sf_221 m) fun _ m11 =>
  sh_bn (sf_222 0 m11) fun r2 m12 =>
  sh_bn (sf_224 ⟨m12.T, m12.I, sh_u2 m12.J 61 5 (r2 ||| (1 : Int64)), m12.s⟩) fun _ m13 =>
  sh_bn (sf_226 m13) fun _ m14 =>
  sh_bn (sf_229 m14) fun _ m15 =>
  sf_220_32 0 m15
noncomputable def sf_219 (m : sh_X) : Option (Bool × sh_X) :=
  if (m.I 0 13) = 0 then
    some ((false, m))
  else
    sh_bn (sf_220 m) fun _ m11 =>
    some ((true, ⟨m11.T, sh_u2 m11.I 0 14 1, m11.J, m11.s⟩))
noncomputable def sf_237_25 (m : sh_X) : Option (Option Int32 × sh_X) :=
  if m.T.length < 1000000 then some ((none, ⟨m.T ++ [.inr (14, [])], m.I, m.J, m.s + 6⟩)) else none
noncomputable def sf_237 (x1 : Int32) (x2 : Int32) (m : sh_X) : Option (Option Int32 × sh_X) :=
  if x1 = 0 then
    if (m.I 0 13) = 0 then
      sf_237_25  m
    else
      sh_bc (sf_228 13 x2 m) fun r1 =>
      if r1 = true then
        if sh_okb x2 256 = true then
          some ((some (m.I 15 (Int32.toNatClampNeg x2)), m))
        else none
      else
        sf_237_25  m
  else
    if x1 = 1 then
      if (m.I 0 13) = 0 then
        sf_237_25  m
      else
        sh_bc (sf_228 18 x2 m) fun r2 =>
        if r2 = true then
          if sh_okb x2 256 = true then
            some ((some (m.I 20 (Int32.toNatClampNeg x2)), m))
          else none
        else
          sf_237_25  m
    else
      if x1 = 2 then
        if (m.I 0 13) = 0 then
          sf_237_25  m
        else
          sh_bc (sf_228 23 x2 m) fun r3 =>
          if r3 = true then
            if sh_okb x2 256 = true then
              some ((some (m.I 25 (Int32.toNatClampNeg x2)), m))
            else none
          else
            sf_237_25  m
      else
        if (m.I 0 13) = 0 then
          sf_237_25  m
        else
          sf_237_25  m
noncomputable def sf_236 (x1 : Int32) (x2 : Int32) (m : sh_X) : Option (Int32 × sh_X) :=
  sh_bh (sf_237 x1 x2 m) (fun m11 =>
    some ((1, m11))) fun r1 m11 =>
  some ((0, ⟨m11.T, m11.I, sh_u2 m11.J 124 0 (Int32.toInt64 r1), m11.s⟩))
noncomputable def sf_239_41 (m : sh_X) : Option (Option Unit × sh_X) :=
  if m.T.length < 1000000 then some ((none, ⟨m.T ++ [.inr (14, [])], m.I, m.J, m.s + 6⟩)) else none
noncomputable def sf_239_9 (x1 : Int32) (x2 : Int32) (x3 : Int32) (x4 : Int32) (m : sh_X) : Option (Option Unit × sh_X) :=
  if x1 = 0 then
    if (m.I 0 13) = 0 then
      sf_239_41  m
    else
      sh_bc (sf_228 13 x2 m) fun r1 =>
      if r1 = true then
        sh_bn (sf_235 13 x2 (((Int32.toInt64 x3) <<< (Int32.toInt64 32 &&& 63)) ||| ((Int32.toInt64 x4) &&& (4294967295 : Int64))) m) fun _ m12 =>
        some ((some (), m12))
      else
        sf_239_41  m
  else
    if x1 = 1 then
      if (m.I 0 13) = 0 then
        sf_239_41  m
      else
        sh_bc (sf_228 18 x2 m) fun r3 =>
        if r3 = true then
          sh_bn (sf_235 18 x2 (((Int32.toInt64 x3) <<< (Int32.toInt64 32 &&& 63)) ||| ((Int32.toInt64 x4) &&& (4294967295 : Int64))) m) fun _ m14 =>
          some ((some (), m14))
        else
          sf_239_41  m
    else
      if x1 = 2 then
        if (m.I 0 13) = 0 then
          sf_239_41  m
        else
          sh_bc (sf_228 23 x2 m) fun r5 =>
          if r5 = true then
            sh_bn (sf_235 23 x2 (((Int32.toInt64 x3) <<< (Int32.toInt64 32 &&& 63)) ||| ((Int32.toInt64 x4) &&& (4294967295 : Int64))) m) fun _ m16 =>
            some ((some (), m16))
          else
            sf_239_41  m
      else
        if (m.I 0 13) = 0 then
          sf_239_41  m
        else
          sf_239_41  m
noncomputable def sf_239 (x1 : Int32) (x2 : Int32) (x3 : Int32) (x4 : Int32) (m : sh_X) : Option (Option Unit × sh_X) :=
  if x1 = 0 then
    sf_239_9 x1 x2 x3 x4 m
  else
    if x1 = 1 then
      sf_239_9 x1 x2 x3 x4 m
    else
      if (m.I 0 13) = 0 then
        sf_239_41  m
      else
        sf_239_41  m
noncomputable def sf_238 (x1 : Int32) (x2 : Int32) (x3 : Int32) (x4 : Int32) (m : sh_X) : Option (Int32 × sh_X) :=
  sh_bh (sf_239 x1 x2 x3 x4 m) (fun m11 =>
    some ((1, m11))) fun _ m11 =>
  some ((0, m11))
noncomputable def sf_241_25 (m : sh_X) : Option (Option Int64 × sh_X) :=
  if m.T.length < 1000000 then some ((none, ⟨m.T ++ [.inr (14, [])], m.I, m.J, m.s + 6⟩)) else none
noncomputable def sf_241 (x1 : Int32) (m : sh_X) : Option (Option Int64 × sh_X) :=
  if (m.I 0 13) = 0 then
    sf_241_25  m
  else
    if (m.I 0 14) = 0 then
      sf_241_25  m
    else
      sh_bc (sf_228 23 x1 m) fun r1 =>
      if r1 = true then
        if sh_okb x1 256 = true then
          some ((some (m.J 26 (Int32.toNatClampNeg x1)), m))
        else none
      else
        sf_241_25  m
noncomputable def sf_240 (x1 : Int32) (m : sh_X) : Option (Int32 × sh_X) :=
  sh_bh (sf_241 x1 m) (fun m11 =>
    some ((1, m11))) fun r1 m11 =>
  some ((0, ⟨m11.T, m11.I, sh_u2 m11.J 124 0 r1, m11.s⟩))
noncomputable def sf_243 (m : sh_X) : Option Int32 :=
  some (m.I 66 0)
noncomputable def sf_244_74 (x1 : Int32) (x2 : Int32) (x3 : Int32) (x4 : Int32) (x5 : Int32) (x6 : Int32) (x7 : Int32) (m : sh_X) : Option ((Int32 × sh_X) ⊕ (Bool × sh_X)) :=
  if sh_okb (m.I 66 2) 4000 = true then
    some (.inl (x6 + 1, ⟨m.T, sh_u2 (sh_u2 m.I 67 (Int32.toNatClampNeg (m.I 66 2)) (vp_nar .byte ((Int32.toInt8 (x7 >>> ((24 - (8 * (x6 &&& 3))) &&& 31))).toInt32))) 66 2 ((m.I 66 2) + 1), m.J, m.s⟩))
  else none
noncomputable def sf_244_63 (x1 : Int32) (x2 : Int32) (x3 : Int32) (x4 : Int32) (x5 : Int32) (x6 : Int32) (x7 : Int32) (m : sh_X) : Option ((Int32 × sh_X) ⊕ (Bool × sh_X)) :=
  if x6 < 16 then
    sf_244_74 x1 x2 x3 x4 x5 x6 x7 m
  else
    sf_244_74 x1 x2 x3 x4 x5 x6 x5 m
noncomputable def sf_244_52 (x1 : Int32) (x2 : Int32) (x3 : Int32) (x4 : Int32) (x5 : Int32) (x6 : Int32) (x7 : Int32) (m : sh_X) : Option ((Int32 × sh_X) ⊕ (Bool × sh_X)) :=
  if x6 < 12 then
    sf_244_63 x1 x2 x3 x4 x5 x6 x7 m
  else
    sf_244_63 x1 x2 x3 x4 x5 x6 x4 m
noncomputable def sf_244_42 (x1 : Int32) (x2 : Int32) (x3 : Int32) (x4 : Int32) (x5 : Int32) (x6 : Int32) (x7 : Int32) (m : sh_X) : Option ((Int32 × sh_X) ⊕ (Bool × sh_X)) :=
  if x6 < 8 then
    sf_244_52 x1 x2 x3 x4 x5 x6 x7 m
  else
    sf_244_52 x1 x2 x3 x4 x5 x6 x3 m
noncomputable def sf_244_23s (x1 : Int32) (x2 : Int32) (x3 : Int32) (x4 : Int32) (x5 : Int32) (x6 : Int32) (m : sh_X) : Option ((Int32 × sh_X) ⊕ (Bool × sh_X)) :=
  if x6 < 20 then
    if x6 < 4 then
      sf_244_42 x1 x2 x3 x4 x5 x6 x1 m
    else
      sf_244_42 x1 x2 x3 x4 x5 x6 x2 m
  else
    some (.inr ((true, m)))
noncomputable def sf_244_23 (x1 : Int32) (x2 : Int32) (x3 : Int32) (x4 : Int32) (x5 : Int32) (x6 : Int32) (m : sh_X) : Option (Bool × sh_X) := sh_while (fun q => sf_244_23s x1 x2 x3 x4 x5 q.1 q.2) (x6, m)
noncomputable def sf_244 (x1 : Int32) (x2 : Int32) (x3 : Int32) (x4 : Int32) (x5 : Int32) (m : sh_X) : Option (Bool × sh_X) :=
  if 4000 < ((m.I 66 2) + 20) then
    some ((false, ⟨m.T, sh_u2 m.I 66 0 0, m.J, m.s⟩))
  else
    sf_244_23 x1 x2 x3 x4 x5 0 ⟨m.T, sh_u2 m.I 66 0 0, m.J, m.s⟩
noncomputable def sf_245 (x1 : Int32) (m : sh_X) : Option (Bool × sh_X) :=
  if x1 < 0 then
    some ((false, ⟨m.T, sh_u2 m.I 66 0 0, m.J, m.s⟩))
  else
    if (m.I 66 2) < x1 then
      some ((false, ⟨m.T, sh_u2 m.I 66 0 0, m.J, m.s⟩))
    else
      some ((true, ⟨m.T, sh_u2 (sh_u2 m.I 66 0 0) 66 2 x1, m.J, m.s⟩))
noncomputable def sf_247_45s (x1 : Int32) (m : sh_X) : Option ((Int32 × sh_X) ⊕ (Unit × sh_X)) :=
  if x1 < 512 then
    if sh_okb x1 512 = true then
      some (.inl (x1 + 1, ⟨m.T, m.I, sh_u2 m.J 103 (Int32.toNatClampNeg x1) 0, m.s⟩))
    else none
  else
    some (.inr (((), m)))
noncomputable def sf_247_45 (x1 : Int32) (m : sh_X) : Option (Unit × sh_X) := sh_while (fun q => sf_247_45s q.1 q.2) (x1, m)
noncomputable def sf_247 (m : sh_X) : Option (Unit × sh_X) :=
  sf_247_45 0 ⟨m.T, sh_u2 (sh_u2 (sh_u2 (sh_u2 (sh_u2 (sh_u2 (sh_u2 m.I 66 80 ((m.I 66 80) + 1)) 66 3 (m.I 66 2)) 66 2 0) 66 5 0) 66 4 0) 66 6 0) 66 7 (-1), m.J, m.s⟩
noncomputable def sf_249 (x1 : Int32) (m : sh_X) : Option Int32 :=
  if x1 < (m.I 66 3) then
    if sh_okb x1 4000 = true then
      some ((m.I 67 (Int32.toNatClampNeg x1)) &&& 255)
    else none
  else
    some ((-1))
noncomputable def sf_250_24 : Bool :=
  true
noncomputable def sf_250_12 (x0 : Int32) : Bool :=
  if x0 < 65 then
    false
  else
    if 90 < x0 then
      false
    else
      sf_250_24 
noncomputable def sf_250 (x0 : Int32) : Bool :=
  if x0 < 97 then
    sf_250_12 x0
  else
    if 122 < x0 then
      sf_250_12 x0
    else
      sf_250_24 
noncomputable def sf_251 (x0 : Int32) : Bool :=
  if x0 < 48 then
    false
  else
    if 57 < x0 then
      false
    else
      true
noncomputable def sf_252 (x1 : Int32) (x2 : Int32) (m : sh_X) : Option (Bool × sh_X) :=
  some ((false, ⟨m.T, sh_u2 (sh_u2 m.I 66 6 x1) 66 7 x2, m.J, m.s⟩))
noncomputable def sf_253_18 : Bool :=
  true
noncomputable def sf_253_42 : Bool :=
  true
noncomputable def sf_253_60 (x2 : Int32) : Bool :=
  if x2 = 61 then
    true
  else
    false
noncomputable def sf_253_95 : Bool :=
  true
noncomputable def sf_253 (x1 : Int32) (x2 : Int32) : Bool :=
  if x1 = 60 then
    if x2 = 61 then
      sf_253_18 
    else
      if x2 = 60 then
        sf_253_18 
      else
        false
  else
    if x1 = 62 then
      if x2 = 61 then
        sf_253_42 
      else
        if x2 = 62 then
          sf_253_42 
        else
          false
    else
      if x1 = 61 then
        sf_253_60 x2
      else
        if x1 = 33 then
          sf_253_60 x2
        else
          if x1 = x2 then
            if x1 = 38 then
              sf_253_95 
            else
              if x1 = 124 then
                sf_253_95 
              else
                if x1 = 46 then
                  sf_253_95 
                else
                  false
          else
            false
noncomputable def sf_254 (x0 : Int32) (m : sh_X) : Option Bool :=
  if x0 < 0 then
    some (false)
  else
    if (sh_txi 6 x0) < 0 then
      some (false)
    else
      some (true)
noncomputable def sf_248_47 (x1 : Int32) (m : sh_X) : Option ((Int32 × sh_X) ⊕ (Bool × sh_X)) :=
  some (.inl (x1 + 1, m))
noncomputable def sf_248_59s (x1 : Int32) (m : sh_X) : Option ((Int32 × sh_X) ⊕ ((Int32 × sh_X) ⊕ (Bool × sh_X))) :=
  if x1 < (m.I 66 3) then
    sh_bc (sf_249 x1 m) fun r1 =>
    if r1 = 10 then
      some (.inr (.inl (x1, m)))
    else
      some (.inl (x1 + 1, m))
  else
    some (.inr (.inl (x1, m)))
noncomputable def sf_248_59 (x1 : Int32) (m : sh_X) : Option ((Int32 × sh_X) ⊕ (Bool × sh_X)) := sh_while (fun q => sf_248_59s q.1 q.2) (x1, m)
noncomputable def sf_248_122 (x1 : Int32) (x3 : Int32) (m : sh_X) : Option ((Int32 × sh_X) ⊕ ((Int32 × sh_X) ⊕ (Bool × sh_X))) :=
  some (.inl (x1 + 1, m))
noncomputable def sf_248_281 (x1 : Int32) (x3 : Int32) (m : sh_X) : Option ((Int32 × sh_X) ⊕ (Bool × sh_X)) :=
  if sh_okb (m.I 66 11) 4002 = true then
    if sh_okb (m.I 66 11) 4002 = true then
      some (.inl (x1, ⟨m.T, sh_u2 (sh_u2 (sh_u2 m.I 69 (Int32.toNatClampNeg (m.I 66 11)) x3) 70 (Int32.toNatClampNeg (m.I 66 11)) (x1 - x3)) 66 11 ((m.I 66 11) + 1), m.J, m.s⟩))
    else none
  else none
noncomputable def sf_248_90s (x1 : Int32) (x3 : Int32) (m : sh_X) : Option ((Int32 × sh_X) ⊕ ((Int32 × sh_X) ⊕ (Bool × sh_X))) :=
  sh_bc (sf_249 x1 m) fun r1 =>
  if (sf_250 r1) = true then
    sf_248_122 x1 x3 m
  else
    sh_bc (sf_249 x1 m) fun r3 =>
    if (sf_251 r3) = true then
      sf_248_122 x1 x3 m
    else
      sh_bc (sf_249 x1 m) fun r5 =>
      if r5 = 95 then
        sf_248_122 x1 x3 m
      else
        if 12 < (x1 - x3) then
          sh_bn (sf_252 1 x3 m) fun r6 m16 =>
          some (.inr (.inr ((r6, m16))))
        else
          if sh_okb (m.I 66 11) 4002 = true then
            sh_up (sf_248_281 x1 x3 ⟨m.T, sh_u2 m.I 68 (Int32.toNatClampNeg (m.I 66 11)) 1, m.J, m.s⟩)
          else none
noncomputable def sf_248_90 (x1 : Int32) (x3 : Int32) (m : sh_X) : Option ((Int32 × sh_X) ⊕ (Bool × sh_X)) := sh_while (fun q => sf_248_90s q.1 x3 q.2) (x1, m)
noncomputable def sf_248_163s (x1 : Int32) (x3 : Int32) (m : sh_X) : Option ((Int32 × sh_X) ⊕ ((Int32 × sh_X) ⊕ (Bool × sh_X))) :=
  sh_bc (sf_249 x1 m) fun r1 =>
  if (sf_251 r1) = true then
    some (.inl (x1 + 1, m))
  else
    if 18 < (x1 - x3) then
      sh_bn (sf_252 1 x3 m) fun r3 m13 =>
      some (.inr (.inr ((r3, m13))))
    else
      if sh_okb (m.I 66 11) 4002 = true then
        sh_up (sf_248_281 x1 x3 ⟨m.T, sh_u2 m.I 68 (Int32.toNatClampNeg (m.I 66 11)) 2, m.J, m.s⟩)
      else none
noncomputable def sf_248_163 (x1 : Int32) (x3 : Int32) (m : sh_X) : Option ((Int32 × sh_X) ⊕ (Bool × sh_X)) := sh_while (fun q => sf_248_163s q.1 x3 q.2) (x1, m)
noncomputable def sf_248_7s (x1 : Int32) (m : sh_X) : Option ((Int32 × sh_X) ⊕ (Bool × sh_X)) :=
  if x1 < (m.I 66 3) then
    sh_bc (sf_249 x1 m) fun r1 =>
    if r1 = 32 then
      sf_248_47 x1 m
    else
      if r1 = 9 then
        sf_248_47 x1 m
      else
        if r1 = 10 then
          sf_248_47 x1 m
        else
          if r1 = 13 then
            sf_248_47 x1 m
          else
            if r1 = 35 then
              sf_248_59 x1 m
            else
              if (sf_250 r1) = true then
                sf_248_90 x1 x1 m
              else
                if (sf_251 r1) = true then
                  sf_248_163 x1 x1 m
                else
                  sh_bc (sf_249 (x1 + 1) m) fun r4 =>
                  if (sf_253 r1 r4) = true then
                    sh_bc (sf_249 (x1 + 1) m) fun r6 =>
                    if sh_okb (m.I 66 11) 4002 = true then
                      sf_248_281 (x1 + 2) x1 ⟨m.T, sh_u2 m.I 68 (Int32.toNatClampNeg (m.I 66 11)) ((256 * r1) + r6), m.J, m.s⟩
                    else none
                  else
                    sh_bc (sf_254 r1 m) fun r7 =>
                    if r7 = true then
                      if sh_okb (m.I 66 11) 4002 = true then
                        sf_248_281 (x1 + 1) x1 ⟨m.T, sh_u2 m.I 68 (Int32.toNatClampNeg (m.I 66 11)) r1, m.J, m.s⟩
                      else none
                    else
                      sh_bn (sf_252 1 x1 m) fun r8 m18 =>
                      some (.inr ((r8, m18)))
  else
    if sh_okb (m.I 66 11) 4002 = true then
      if sh_okb (m.I 66 11) 4002 = true then
        if sh_okb (m.I 66 11) 4002 = true then
          some (.inr ((true, ⟨m.T, sh_u2 (sh_u2 (sh_u2 m.I 68 (Int32.toNatClampNeg (m.I 66 11)) 0) 69 (Int32.toNatClampNeg (m.I 66 11)) (m.I 66 3)) 70 (Int32.toNatClampNeg (m.I 66 11)) 0, m.J, m.s⟩)))
        else none
      else none
    else none
noncomputable def sf_248_7 (x1 : Int32) (m : sh_X) : Option (Bool × sh_X) := sh_while (fun q => sf_248_7s q.1 q.2) (x1, m)
noncomputable def sf_248 (m : sh_X) : Option (Bool × sh_X) :=
  sf_248_7 0 ⟨m.T, sh_u2 m.I 66 11 0, m.J, m.s⟩
noncomputable def sf_256_27s (x1 : Int32) (x2 : Nat) (x3 : Int32) (m : sh_X) : Option (Int32 ⊕ Bool) :=
  if sh_okb x1 4002 = true then
    if x3 < (m.I 70 (Int32.toNatClampNeg x1)) then
      if sh_okb x1 4002 = true then
        if sh_okb ((m.I 69 (Int32.toNatClampNeg x1)) + x3) 4000 = true then
          if sh_okb x3 (sh_txn x2) = true then
            if (m.I 67 (Int32.toNatClampNeg ((m.I 69 (Int32.toNatClampNeg x1)) + x3))) = (sh_txc x2 x3) then
              some (.inl (x3 + 1))
            else
              some (.inr (false))
          else none
        else none
      else none
    else
      some (.inr (true))
  else none
noncomputable def sf_256_27 (x1 : Int32) (x2 : Nat) (x3 : Int32) (m : sh_X) : Option Bool := sh_while (fun q => sf_256_27s x1 x2 q m) x3
noncomputable def sf_256 (x1 : Int32) (x2 : Nat) (m : sh_X) : Option Bool :=
  if sh_okb x1 4002 = true then
    if (m.I 68 (Int32.toNatClampNeg x1)) = 1 then
      if sh_okb x1 4002 = true then
        if 0 < sh_txn x2 then
          if (m.I 70 (Int32.toNatClampNeg x1)) = (sh_txl x2) then
            sf_256_27 x1 x2 0 m
          else
            some (false)
        else none
      else none
    else
      some (false)
  else none
noncomputable def sf_260_139 (m : sh_X) : Option Bool :=
  some (true)
noncomputable def sf_260 (x1 : Int32) (m : sh_X) : Option Bool :=
  sh_bc (sf_256 x1 8 m) fun r1 =>
  if r1 = true then
    sf_260_139  m
  else
    sh_bc (sf_256 x1 9 m) fun r2 =>
    if r2 = true then
      sf_260_139  m
    else
      sh_bc (sf_256 x1 10 m) fun r3 =>
      if r3 = true then
        sf_260_139  m
      else
        sh_bc (sf_256 x1 11 m) fun r4 =>
        if r4 = true then
          sf_260_139  m
        else
          sh_bc (sf_256 x1 12 m) fun r5 =>
          if r5 = true then
            sf_260_139  m
          else
            sh_bc (sf_256 x1 7 m) fun r6 =>
            if r6 = true then
              sf_260_139  m
            else
              sh_bc (sf_256 x1 13 m) fun r7 =>
              if r7 = true then
                sf_260_139  m
              else
                sh_bc (sf_256 x1 14 m) fun r8 =>
                if r8 = true then
                  sf_260_139  m
                else
                  sh_bc (sf_256 x1 15 m) fun r9 =>
                  if r9 = true then
                    sf_260_139  m
                  else
                    sh_bc (sf_256 x1 16 m) fun r10 =>
                    if r10 = true then
                      sf_260_139  m
                    else
                      sh_bc (sf_256 x1 17 m) fun r11 =>
                      if r11 = true then
                        sf_260_139  m
                      else
                        sh_bc (sf_256 x1 18 m) fun r12 =>
                        if r12 = true then
                          sf_260_139  m
                        else
                          sh_bc (sf_256 x1 19 m) fun r13 =>
                          if r13 = true then
                            sf_260_139  m
                          else
                            some (false)
noncomputable def sf_261_177 (x3 : Int32) (y0 : Int32) (y1 : Int32) (m : sh_X) : Option Int32 :=
  some (((y0 * y1) + x3) - 1)
noncomputable def sf_261_164 (x2 : Int32) (x3 : Int32) (m : sh_X) : Option Int32 :=
  if x2 = 117 then
    sf_261_177 x3 64 1 m
  else
    sf_261_177 x3 64 2 m
noncomputable def sf_261_151 (x2 : Int32) (x3 : Int32) (m : sh_X) : Option Int32 :=
  if x2 = 105 then
    if x3 < 2 then
      some ((-1))
    else
      sf_261_164 x2 x3 m
  else
    sf_261_164 x2 x3 m
noncomputable def sf_261_61s (x1 : Int32) (x2 : Int32) (x3 : Int32) (x4 : Int32) (m : sh_X) : Option ((Int32 × Int32) ⊕ Int32) :=
  if sh_okb x1 4002 = true then
    if x4 < (m.I 70 (Int32.toNatClampNeg x1)) then
      if sh_okb x1 4002 = true then
        if sh_okb ((m.I 69 (Int32.toNatClampNeg x1)) + x4) 4000 = true then
          if (sf_251 (m.I 67 (Int32.toNatClampNeg ((m.I 69 (Int32.toNatClampNeg x1)) + x4)))) = true then
            some (.inl (((10 * x3) + (m.I 67 (Int32.toNatClampNeg ((m.I 69 (Int32.toNatClampNeg x1)) + x4)))) - 48, x4 + 1))
          else
            some (.inr ((-1)))
        else none
      else none
    else
      if sh_okb x1 4002 = true then
        if sh_okb ((m.I 69 (Int32.toNatClampNeg x1)) + 1) 4000 = true then
          if (m.I 67 (Int32.toNatClampNeg ((m.I 69 (Int32.toNatClampNeg x1)) + 1))) = 48 then
            some (.inr ((-1)))
          else
            if 64 < x3 then
              some (.inr ((-1)))
            else
              if x2 = 117 then
                sh_up (sf_261_151 x2 x3 m)
              else
                if x2 = 105 then
                  sh_up (sf_261_151 x2 x3 m)
                else
                  some (.inr ((-1)))
        else none
      else none
  else none
noncomputable def sf_261_61 (x1 : Int32) (x2 : Int32) (x3 : Int32) (x4 : Int32) (m : sh_X) : Option Int32 := sh_while (fun q => sf_261_61s x1 x2 q.1 q.2 m) (x3, x4)
noncomputable def sf_261 (x1 : Int32) (m : sh_X) : Option Int32 :=
  sh_bc (sf_256 x1 10 m) fun r1 =>
  if r1 = true then
    some (0)
  else
    if sh_okb x1 4002 = true then
      if (m.I 68 (Int32.toNatClampNeg x1)) = 1 then
        if sh_okb x1 4002 = true then
          if (m.I 70 (Int32.toNatClampNeg x1)) < 2 then
            some ((-1))
          else
            if sh_okb x1 4002 = true then
              if 3 < (m.I 70 (Int32.toNatClampNeg x1)) then
                some ((-1))
              else
                if sh_okb x1 4002 = true then
                  if sh_okb (m.I 69 (Int32.toNatClampNeg x1)) 4000 = true then
                    sf_261_61 x1 (m.I 67 (Int32.toNatClampNeg (m.I 69 (Int32.toNatClampNeg x1)))) 0 1 m
                  else none
                else none
            else none
        else none
      else
        some ((-1))
    else none
noncomputable def sf_259 (x1 : Int32) (m : sh_X) : Option Bool :=
  if sh_okb x1 4002 = true then
    if (m.I 68 (Int32.toNatClampNeg x1)) = 1 then
      sh_bc (sf_260 x1 m) fun r1 =>
      if r1 = true then
        some (false)
      else
        sh_bc (sf_261 x1 m) fun r2 =>
        if r2 < 0 then
          some (true)
        else
          some (false)
    else
      some (false)
  else none
noncomputable def sf_258 (m : sh_X) : Option (Bool × sh_X) :=
  sh_bc (sf_259 (m.I 66 21) m) fun r1 =>
  if r1 = true then
    some ((true, ⟨m.T, sh_u2 m.I 66 21 ((m.I 66 21) + 1), m.J, m.s⟩))
  else
    if sh_okb (m.I 66 21) 4002 = true then
      sh_bn (sf_252 2 (m.I 69 (Int32.toNatClampNeg (m.I 66 21))) m) fun r2 m12 =>
      some ((r2, m12))
    else none
noncomputable def sf_262 (x1 : Int32) (m : sh_X) : Option (Bool × sh_X) :=
  if sh_okb (m.I 66 21) 4002 = true then
    if (m.I 68 (Int32.toNatClampNeg (m.I 66 21))) = x1 then
      some ((true, ⟨m.T, sh_u2 m.I 66 21 ((m.I 66 21) + 1), m.J, m.s⟩))
    else
      if sh_okb (m.I 66 21) 4002 = true then
        sh_bn (sf_252 2 (m.I 69 (Int32.toNatClampNeg (m.I 66 21))) m) fun r1 m11 =>
        some ((r1, m11))
      else none
  else none
noncomputable def sf_263 (m : sh_X) : Option (Bool × sh_X) :=
  sh_bc (sf_261 (m.I 66 21) m) fun r1 =>
  if r1 < 0 then
    if sh_okb (m.I 66 21) 4002 = true then
      sh_bn (sf_252 2 (m.I 69 (Int32.toNatClampNeg (m.I 66 21))) m) fun r2 m12 =>
      some ((r2, m12))
    else none
  else
    if sh_okb ((m.I 66 21) + 1) 4002 = true then
      if (m.I 68 (Int32.toNatClampNeg ((m.I 66 21) + 1))) = 91 then
        if sh_okb (((m.I 66 21) + 1) + 1) 4002 = true then
          if (m.I 68 (Int32.toNatClampNeg (((m.I 66 21) + 1) + 1))) = 2 then
            sh_bn (sf_262 93 ⟨m.T, sh_u2 (sh_u2 (sh_u2 (sh_u2 (sh_u2 (sh_u2 m.I 66 38 (m.I 66 21)) 66 39 (-1)) 66 21 ((m.I 66 21) + 1)) 66 21 (((m.I 66 21) + 1) + 1)) 66 39 (((m.I 66 21) + 1) + 1)) 66 21 ((((m.I 66 21) + 1) + 1) + 1), m.J, m.s⟩) fun r3 m13 =>
            some ((r3, m13))
          else
            if sh_okb (((m.I 66 21) + 1) + 1) 4002 = true then
              sh_bn (sf_252 2 (m.I 69 (Int32.toNatClampNeg (((m.I 66 21) + 1) + 1))) ⟨m.T, sh_u2 (sh_u2 (sh_u2 (sh_u2 m.I 66 38 (m.I 66 21)) 66 39 (-1)) 66 21 ((m.I 66 21) + 1)) 66 21 (((m.I 66 21) + 1) + 1), m.J, m.s⟩) fun r4 m14 =>
              some ((r4, m14))
            else none
        else none
      else
        some ((true, ⟨m.T, sh_u2 (sh_u2 (sh_u2 m.I 66 38 (m.I 66 21)) 66 39 (-1)) 66 21 ((m.I 66 21) + 1), m.J, m.s⟩))
    else none
noncomputable def sf_266 (x1 : Int32) (x2 : Int32) (x3 : Int32) (x4 : Int32) (m : sh_X) : Option (Int32 × sh_X) :=
  if sh_okb (m.I 66 20) 9000 = true then
    if sh_okb (m.I 66 20) 9000 = true then
      if sh_okb (m.I 66 20) 9000 = true then
        if sh_okb (m.I 66 20) 9000 = true then
          if sh_okb (m.I 66 20) 9000 = true then
            if sh_okb (m.I 66 20) 9000 = true then
              if sh_okb (m.I 66 20) 9000 = true then
                some ((((m.I 66 20) + 1) - 1, ⟨m.T, sh_u2 (sh_u2 (sh_u2 (sh_u2 (sh_u2 (sh_u2 (sh_u2 (sh_u2 m.I 72 (Int32.toNatClampNeg (m.I 66 20)) x1) 73 (Int32.toNatClampNeg (m.I 66 20)) x2) 74 (Int32.toNatClampNeg (m.I 66 20)) x3) 75 (Int32.toNatClampNeg (m.I 66 20)) x4) 76 (Int32.toNatClampNeg (m.I 66 20)) (-1)) 77 (Int32.toNatClampNeg (m.I 66 20)) (-1)) 78 (Int32.toNatClampNeg (m.I 66 20)) x2) 66 20 ((m.I 66 20) + 1), m.J, m.s⟩))
              else none
            else none
          else none
        else none
      else none
    else none
  else none
noncomputable def sf_268 (m : sh_X) : Option (Int32 × sh_X) :=
  if sh_okb (m.I 66 21) 4002 = true then
    sh_bn (sf_252 2 (m.I 69 (Int32.toNatClampNeg (m.I 66 21))) m) fun r1 m11 =>
    some (((-1), m11))
  else none
noncomputable def sf_274 (x0 : Int32) : Int32 :=
  if x0 = 37 ∨ x0 = 42 ∨ x0 = 47 then
    10
  else
  if x0 = 38 then
    5
  else
  if x0 = 43 ∨ x0 = 45 then
    9
  else
  if x0 = 60 ∨ x0 = 62 ∨ x0 = 15421 ∨ x0 = 15933 then
    7
  else
  if x0 = 94 then
    4
  else
  if x0 = 124 then
    3
  else
  if x0 = 8509 ∨ x0 = 15677 then
    6
  else
  if x0 = 9766 then
    2
  else
  if x0 = 15420 ∨ x0 = 15934 then
    8
  else
  if x0 = 31868 then
    1
  else
    0
abbrev sh_Q240 : Type := (Int32 → sh_X → Option (Int32 × sh_X)) × (Int32 → Int32 → sh_X → Option (Int32 × sh_X)) × (Int32 → sh_X → Option (Int32 × sh_X)) × (Int32 → sh_X → Option (Int32 × sh_X)) × (Int32 → sh_X → Option (Int32 × sh_X)) × (Int32 → Int32 → Int32 → sh_X → Option (Bool × sh_X))
abbrev sh_Q240.f267 (Q : sh_Q240) : (Int32 → sh_X → Option (Int32 × sh_X)) := Q.1
abbrev sh_Q240.f269 (Q : sh_Q240) : (Int32 → Int32 → sh_X → Option (Int32 × sh_X)) := Q.2.1
abbrev sh_Q240.f270 (Q : sh_Q240) : (Int32 → sh_X → Option (Int32 × sh_X)) := Q.2.2.1
abbrev sh_Q240.f271 (Q : sh_Q240) : (Int32 → sh_X → Option (Int32 × sh_X)) := Q.2.2.2.1
abbrev sh_Q240.f272 (Q : sh_Q240) : (Int32 → sh_X → Option (Int32 × sh_X)) := Q.2.2.2.2.1
abbrev sh_Q240.f273 (Q : sh_Q240) : (Int32 → Int32 → Int32 → sh_X → Option (Bool × sh_X)) := Q.2.2.2.2.2
noncomputable def sf_267 (Q : sh_Q240) (x1 : Int32) (m : sh_X) : Option (Int32 × sh_X) :=
  if 40 < x1 then
    sh_bn (sf_268 m) fun r1 m11 =>
    some ((r1, m11))
  else
    sh_bn (Q.f269 1 x1 m) fun r2 m12 =>
    some ((r2, m12))
noncomputable def sf_269_6s (Q : sh_Q240) (x1 : Int32) (x2 : Int32) (x3 : Int32) (m : sh_X) : Option ((Int32 × sh_X) ⊕ (Int32 × sh_X)) :=
  if x3 < 0 then
    some (.inr ((x3, m)))
  else
    if sh_okb (m.I 66 21) 4002 = true then
      if (sf_274 (m.I 68 (Int32.toNatClampNeg (m.I 66 21)))) < x1 then
        some (.inr ((x3, m)))
      else
        if sh_okb (m.I 66 21) 4002 = true then
          sh_bn (Q.f269 ((sf_274 (m.I 68 (Int32.toNatClampNeg (m.I 66 21)))) + 1) x2 ⟨m.T, sh_u2 m.I 66 21 ((m.I 66 21) + 1), m.J, m.s⟩) fun r3 m13 =>
          if r3 < 0 then
            some (.inr (((-1), m13)))
          else
            sh_bn (sf_266 10 (m.I 66 21) x3 r3 m13) fun r4 m14 =>
            if sh_okb x3 9000 = true then
              if sh_okb r4 9000 = true then
                some (.inl (r4, ⟨m14.T, sh_u2 m14.I 78 (Int32.toNatClampNeg r4) (m14.I 78 (Int32.toNatClampNeg x3)), m14.J, m14.s⟩))
              else none
            else none
        else none
    else none
noncomputable def sf_269_6 (Q : sh_Q240) (x1 : Int32) (x2 : Int32) (x3 : Int32) (m : sh_X) : Option (Int32 × sh_X) := sh_while (fun q => sf_269_6s Q x1 x2 q.1 q.2) (x3, m)
noncomputable def sf_269 (Q : sh_Q240) (x1 : Int32) (x2 : Int32) (m : sh_X) : Option (Int32 × sh_X) :=
  sh_bn (Q.f270 x2 m) fun r1 m11 =>
  sf_269_6 Q x1 x2 r1 m11
noncomputable def sf_270_59 (Q : sh_Q240) (x1 : Int32) (m : sh_X) : Option (Int32 × sh_X) :=
  sh_bn (Q.f270 (x1 + 1) ⟨m.T, sh_u2 m.I 66 21 ((m.I 66 21) + 1), m.J, m.s⟩) fun r1 m11 =>
  if r1 < 0 then
    some (((-1), m11))
  else
    sh_bn (sf_266 9 (m.I 66 21) r1 (-1) m11) fun r2 m12 =>
    some ((r2, m12))
noncomputable def sf_270 (Q : sh_Q240) (x1 : Int32) (m : sh_X) : Option (Int32 × sh_X) :=
  if 40 < x1 then
    sh_bn (sf_268 m) fun r1 m11 =>
    some ((r1, m11))
  else
    if sh_okb (m.I 66 21) 4002 = true then
      if (m.I 68 (Int32.toNatClampNeg (m.I 66 21))) = 45 then
        sf_270_59 Q x1 m
      else
        if sh_okb (m.I 66 21) 4002 = true then
          if (m.I 68 (Int32.toNatClampNeg (m.I 66 21))) = 33 then
            sf_270_59 Q x1 m
          else
            if sh_okb (m.I 66 21) 4002 = true then
              if (m.I 68 (Int32.toNatClampNeg (m.I 66 21))) = 126 then
                sf_270_59 Q x1 m
              else
                sh_bn (Q.f271 x1 m) fun r2 m12 =>
                some ((r2, m12))
            else none
        else none
    else none
noncomputable def sf_271_6s (Q : sh_Q240) (x1 : Int32) (x2 : Int32) (m : sh_X) : Option ((Int32 × sh_X) ⊕ (Int32 × sh_X)) :=
  if x2 < 0 then
    some (.inr ((x2, m)))
  else
    if sh_okb (m.I 66 21) 4002 = true then
      if (m.I 68 (Int32.toNatClampNeg (m.I 66 21))) = 91 then
        sh_bn (Q.f267 (x1 + 1) ⟨m.T, sh_u2 m.I 66 21 ((m.I 66 21) + 1), m.J, m.s⟩) fun r1 m11 =>
        if r1 < 0 then
          some (.inr (((-1), m11)))
        else
          sh_bn (sf_262 93 m11) fun r2 m12 =>
          if r2 = true then
            sh_bn (sf_266 8 (m.I 66 21) x2 r1 m12) fun r3 m13 =>
            if sh_okb x2 9000 = true then
              if sh_okb r3 9000 = true then
                some (.inl (r3, ⟨m13.T, sh_u2 m13.I 78 (Int32.toNatClampNeg r3) (m13.I 78 (Int32.toNatClampNeg x2)), m13.J, m13.s⟩))
              else none
            else none
          else
            some (.inr (((-1), m12)))
      else
        some (.inr ((x2, m)))
    else none
noncomputable def sf_271_6 (Q : sh_Q240) (x1 : Int32) (x2 : Int32) (m : sh_X) : Option (Int32 × sh_X) := sh_while (fun q => sf_271_6s Q x1 q.1 q.2) (x2, m)
noncomputable def sf_271 (Q : sh_Q240) (x1 : Int32) (m : sh_X) : Option (Int32 × sh_X) :=
  sh_bn (Q.f272 x1 m) fun r1 m11 =>
  sf_271_6 Q x1 r1 m11
noncomputable def sf_272_83 (Q : sh_Q240) (x2 : Int32) (y1 : Int32) (m : sh_X) : Option (Int32 × sh_X) :=
  sh_bn (sf_266 y1 x2 (-1) (-1) m) fun r1 m11 =>
  some ((r1, m11))
noncomputable def sf_272_56 (Q : sh_Q240) (x2 : Int32) (m : sh_X) : Option (Int32 × sh_X) :=
  sh_bc (sf_256 x2 19 ⟨m.T, sh_u2 m.I 66 21 ((m.I 66 21) + 1), m.J, m.s⟩) fun r1 =>
  if r1 = true then
    sf_272_83 Q x2 2 ⟨m.T, sh_u2 m.I 66 21 ((m.I 66 21) + 1), m.J, m.s⟩
  else
    sf_272_83 Q x2 3 ⟨m.T, sh_u2 m.I 66 21 ((m.I 66 21) + 1), m.J, m.s⟩
noncomputable def sf_272 (Q : sh_Q240) (x1 : Int32) (m : sh_X) : Option (Int32 × sh_X) :=
  if sh_okb (m.I 66 21) 4002 = true then
    if (m.I 68 (Int32.toNatClampNeg (m.I 66 21))) = 2 then
      sh_bn (sf_266 1 (m.I 66 21) (-1) (-1) ⟨m.T, sh_u2 m.I 66 21 ((m.I 66 21) + 1), m.J, m.s⟩) fun r1 m11 =>
      some ((r1, m11))
    else
      sh_bc (sf_256 (m.I 66 21) 19 m) fun r2 =>
      if r2 = true then
        sf_272_56 Q (m.I 66 21) m
      else
        sh_bc (sf_256 (m.I 66 21) 12 m) fun r3 =>
        if r3 = true then
          sf_272_56 Q (m.I 66 21) m
        else
          if sh_okb (m.I 66 21) 4002 = true then
            if (m.I 68 (Int32.toNatClampNeg (m.I 66 21))) = 40 then
              sh_bn (Q.f267 (x1 + 1) ⟨m.T, sh_u2 m.I 66 21 ((m.I 66 21) + 1), m.J, m.s⟩) fun r4 m14 =>
              if r4 < 0 then
                some (((-1), m14))
              else
                sh_bn (sf_262 41 m14) fun r5 m15 =>
                if r5 = true then
                  if sh_okb r4 9000 = true then
                    some ((r4, ⟨m15.T, sh_u2 m15.I 78 (Int32.toNatClampNeg r4) (m.I 66 21), m15.J, m15.s⟩))
                  else none
                else
                  some (((-1), m15))
            else
              if sh_okb (m.I 66 21) 4002 = true then
                if (m.I 68 (Int32.toNatClampNeg (m.I 66 21))) = 91 then
                  sh_bn (sf_266 7 (m.I 66 21) (-1) (-1) ⟨m.T, sh_u2 m.I 66 21 ((m.I 66 21) + 1), m.J, m.s⟩) fun r6 m16 =>
                  sh_bn (Q.f273 r6 x1 93 m16) fun r7 m17 =>
                  if r7 = true then
                    some ((r6, m17))
                  else
                    some (((-1), m17))
                else
                  sh_bc (sf_261 (m.I 66 21) m) fun r8 =>
                  if r8 < 0 then
                    sh_bc (sf_259 (m.I 66 21) m) fun r9 =>
                    if r9 = true then
                      if sh_okb ((m.I 66 21) + 1) 4002 = true then
                        if (m.I 68 (Int32.toNatClampNeg ((m.I 66 21) + 1))) = 40 then
                          sh_bn (sf_266 5 (m.I 66 21) (-1) x1 ⟨m.T, sh_u2 (sh_u2 m.I 66 21 ((m.I 66 21) + 1)) 66 21 (((m.I 66 21) + 1) + 1), m.J, m.s⟩) fun r10 m20 =>
                          if sh_okb (m20.I 66 21) 4002 = true then
                            if (m20.I 68 (Int32.toNatClampNeg (m20.I 66 21))) = 41 then
                              some ((r10, ⟨m20.T, sh_u2 m20.I 66 21 ((m20.I 66 21) + 1), m20.J, m20.s⟩))
                            else
                              sh_bn (Q.f273 r10 x1 41 m20) fun r11 m21 =>
                              if r11 = true then
                                some ((r10, m21))
                              else
                                some (((-1), m21))
                          else none
                        else
                          sh_bn (sf_266 4 (m.I 66 21) (-1) (-1) ⟨m.T, sh_u2 m.I 66 21 ((m.I 66 21) + 1), m.J, m.s⟩) fun r12 m22 =>
                          some ((r12, m22))
                      else none
                    else
                      sh_bn (sf_268 m) fun r13 m23 =>
                      some ((r13, m23))
                  else
                    sh_bn (sf_266 6 (m.I 66 21) (-1) ((m.I 66 21) + 1) ⟨m.T, sh_u2 m.I 66 21 ((m.I 66 21) + 1), m.J, m.s⟩) fun r14 m24 =>
                    sh_bn (sf_262 40 m24) fun r15 m25 =>
                    if r15 = true then
                      sh_bn (Q.f267 (x1 + 1) m25) fun r16 m26 =>
                      if sh_okb r14 9000 = true then
                        if sh_okb r14 9000 = true then
                          if ((sh_u2 m26.I 74 (Int32.toNatClampNeg r14) r16) 74 (Int32.toNatClampNeg r14)) < 0 then
                            some (((-1), ⟨m26.T, sh_u2 m26.I 74 (Int32.toNatClampNeg r14) r16, m26.J, m26.s⟩))
                          else
                            sh_bn (sf_262 41 ⟨m26.T, sh_u2 m26.I 74 (Int32.toNatClampNeg r14) r16, m26.J, m26.s⟩) fun r17 m27 =>
                            if r17 = true then
                              some ((r14, m27))
                            else
                              some (((-1), m27))
                        else none
                      else none
                    else
                      some (((-1), m25))
              else none
          else none
  else none
noncomputable def sf_273_44 (Q : sh_Q240) (x1 : Int32) (x2 : Int32) (x3 : Int32) (x5 : Int32) (m : sh_X) : Option ((Int32 × sh_X) ⊕ (Bool × sh_X)) :=
  if sh_okb (m.I 66 21) 4002 = true then
    if (m.I 68 (Int32.toNatClampNeg (m.I 66 21))) = x3 then
      some (.inr ((true, ⟨m.T, sh_u2 m.I 66 21 ((m.I 66 21) + 1), m.J, m.s⟩)))
    else
      sh_bn (sf_262 44 m) fun r1 m11 =>
      if r1 = true then
        some (.inl (x5, m11))
      else
        some (.inr ((false, m11)))
  else none
noncomputable def sf_273_3s (Q : sh_Q240) (x1 : Int32) (x2 : Int32) (x3 : Int32) (x4 : Int32) (m : sh_X) : Option ((Int32 × sh_X) ⊕ (Bool × sh_X)) :=
  sh_bn (Q.f267 (x2 + 1) m) fun r1 m11 =>
  if r1 < 0 then
    some (.inr ((false, m11)))
  else
    if x4 < 0 then
      if sh_okb x1 9000 = true then
        sf_273_44 Q x1 x2 x3 r1 ⟨m11.T, sh_u2 m11.I 74 (Int32.toNatClampNeg x1) r1, m11.J, m11.s⟩
      else none
    else
      if sh_okb x4 9000 = true then
        sf_273_44 Q x1 x2 x3 r1 ⟨m11.T, sh_u2 m11.I 77 (Int32.toNatClampNeg x4) r1, m11.J, m11.s⟩
      else none
noncomputable def sf_273_3 (Q : sh_Q240) (x1 : Int32) (x2 : Int32) (x3 : Int32) (x4 : Int32) (m : sh_X) : Option (Bool × sh_X) := sh_while (fun q => sf_273_3s Q x1 x2 x3 q.1 q.2) (x4, m)
noncomputable def sf_273 (Q : sh_Q240) (x1 : Int32) (x2 : Int32) (x3 : Int32) (m : sh_X) : Option (Bool × sh_X) :=
  sf_273_3 Q x1 x2 x3 (-1) m
noncomputable def sq_240 : Nat → sh_Q240
  | 0 => ⟨(fun _ _ => none), (fun _ _ _ => none), (fun _ _ => none), (fun _ _ => none), (fun _ _ => none), (fun _ _ _ _ => none)⟩
  | d + 1 => ⟨sf_267 (sq_240 d), sf_269 (sq_240 d), sf_270 (sq_240 d), sf_271 (sq_240 d), sf_272 (sq_240 d), sf_273 (sq_240 d)⟩
noncomputable def sf_277 (x1 : Nat) (m : sh_X) : Option (Bool × sh_X) :=
  sh_bc (sf_256 (m.I 66 21) x1 m) fun r1 =>
  if r1 = true then
    some ((true, ⟨m.T, sh_u2 m.I 66 21 ((m.I 66 21) + 1), m.J, m.s⟩))
  else
    if sh_okb (m.I 66 21) 4002 = true then
      sh_bn (sf_252 2 (m.I 69 (Int32.toNatClampNeg (m.I 66 21))) m) fun r2 m12 =>
      some ((r2, m12))
    else none
abbrev sh_Q242 : Type := (Int32 → sh_X → Option (Int32 × sh_X)) × (Int32 → sh_X → Option (Int32 × sh_X)) × (Int32 → Int32 → sh_X → Option (Int32 × sh_X)) × (Int32 → Int32 → sh_X → Option (Int32 × sh_X))
abbrev sh_Q242.f264 (Q : sh_Q242) : (Int32 → sh_X → Option (Int32 × sh_X)) := Q.1
abbrev sh_Q242.f265 (Q : sh_Q242) : (Int32 → sh_X → Option (Int32 × sh_X)) := Q.2.1
abbrev sh_Q242.f275 (Q : sh_Q242) : (Int32 → Int32 → sh_X → Option (Int32 × sh_X)) := Q.2.2.1
abbrev sh_Q242.f276 (Q : sh_Q242) : (Int32 → Int32 → sh_X → Option (Int32 × sh_X)) := Q.2.2.2
noncomputable def sf_264_128 (Q : sh_Q242) (x1 : Int32) (x2 : Int32) (x4 : Int32) (m : sh_X) : Option ((Int32 × Int32 × sh_X) ⊕ (Int32 × sh_X)) :=
  some (.inl (x2, x4, m))
noncomputable def sf_264_71 (Q : sh_Q242) (x1 : Int32) (x2 : Int32) (x3 : Int32) (m : sh_X) : Option ((Int32 × Int32 × sh_X) ⊕ (Int32 × sh_X)) :=
  if 40 < x1 then
    if sh_okb (m.I 66 21) 4002 = true then
      sh_bn (sf_252 2 (m.I 69 (Int32.toNatClampNeg (m.I 66 21))) m) fun r1 m11 =>
      some (.inr (((-2), m11)))
    else none
  else
    sh_bn (Q.f265 x1 m) fun r2 m12 =>
    if r2 < 0 then
      some (.inr (((-2), m12)))
    else
      if x2 < 0 then
        sf_264_128 Q x1 r2 r2 m12
      else
        if sh_okb x3 9000 = true then
          sf_264_128 Q x1 x2 r2 ⟨m12.T, sh_u2 m12.I 77 (Int32.toNatClampNeg x3) r2, m12.J, m12.s⟩
        else none
noncomputable def sf_264_4s (Q : sh_Q242) (x1 : Int32) (x2 : Int32) (x3 : Int32) (m : sh_X) : Option ((Int32 × Int32 × sh_X) ⊕ (Int32 × sh_X)) :=
  sh_bc (sf_256 (m.I 66 21) 16 m) fun r1 =>
  if r1 = true then
    sf_264_71 Q x1 x2 x3 m
  else
    sh_bc (sf_256 (m.I 66 21) 14 m) fun r2 =>
    if r2 = true then
      sf_264_71 Q x1 x2 x3 m
    else
      sh_bc (sf_256 (m.I 66 21) 13 m) fun r3 =>
      if r3 = true then
        sf_264_71 Q x1 x2 x3 m
      else
        sh_bc (sf_256 (m.I 66 21) 17 m) fun r4 =>
        if r4 = true then
          sf_264_71 Q x1 x2 x3 m
        else
          sh_bc (sf_259 (m.I 66 21) m) fun r5 =>
          if r5 = true then
            sf_264_71 Q x1 x2 x3 m
          else
            some (.inr ((x2, m)))
noncomputable def sf_264_4 (Q : sh_Q242) (x1 : Int32) (x2 : Int32) (x3 : Int32) (m : sh_X) : Option (Int32 × sh_X) := sh_while (fun q => sf_264_4s Q x1 q.1 q.2.1 q.2.2) (x2, x3, m)
noncomputable def sf_264 (Q : sh_Q242) (x1 : Int32) (m : sh_X) : Option (Int32 × sh_X) :=
  sf_264_4 Q x1 (-1) (-1) m
noncomputable def sf_265_261 (Q : sh_Q242) (x1 : Int32) (x3 : Int32) (m : sh_X) : Option (Int32 × sh_X) :=
  sh_bn (sf_262 61 m) fun r1 m11 =>
  if r1 = true then
    sh_bn ((sq_240 sh_dp).f267 x1 m11) fun r2 m12 =>
    if sh_okb x3 9000 = true then
      if sh_okb x3 9000 = true then
        if ((sh_u2 m12.I 74 (Int32.toNatClampNeg x3) r2) 74 (Int32.toNatClampNeg x3)) < 0 then
          some (((-1), ⟨m12.T, sh_u2 m12.I 74 (Int32.toNatClampNeg x3) r2, m12.J, m12.s⟩))
        else
          sh_bn (sf_262 59 ⟨m12.T, sh_u2 m12.I 74 (Int32.toNatClampNeg x3) r2, m12.J, m12.s⟩) fun r3 m13 =>
          if r3 = true then
            some ((x3, m13))
          else
            some (((-1), m13))
      else none
    else none
  else
    some (((-1), m11))
noncomputable def sf_265 (Q : sh_Q242) (x1 : Int32) (m : sh_X) : Option (Int32 × sh_X) :=
  sh_bc (sf_256 (m.I 66 21) 16 ⟨m.T, sh_u2 m.I 66 21 ((m.I 66 21) + 1), m.J, m.s⟩) fun r1 =>
  if r1 = true then
    sh_bn (sf_266 20 (m.I 66 21) (-1) ((m.I 66 21) + 1) ⟨m.T, sh_u2 m.I 66 21 ((m.I 66 21) + 1), m.J, m.s⟩) fun r2 m12 =>
    sh_bn (sf_258 m12) fun r3 m13 =>
    if r3 = true then
      sh_bn (sf_262 61 m13) fun r4 m14 =>
      if r4 = true then
        sh_bn ((sq_240 sh_dp).f267 x1 m14) fun r5 m15 =>
        if sh_okb r2 9000 = true then
          if sh_okb r2 9000 = true then
            if ((sh_u2 m15.I 74 (Int32.toNatClampNeg r2) r5) 74 (Int32.toNatClampNeg r2)) < 0 then
              some (((-1), ⟨m15.T, sh_u2 m15.I 74 (Int32.toNatClampNeg r2) r5, m15.J, m15.s⟩))
            else
              sh_bn (sf_262 59 ⟨m15.T, sh_u2 m15.I 74 (Int32.toNatClampNeg r2) r5, m15.J, m15.s⟩) fun r6 m16 =>
              if r6 = true then
                some ((r2, m16))
              else
                some (((-1), m16))
          else none
        else none
      else
        some (((-1), m14))
    else
      some (((-1), m13))
  else
    sh_bc (sf_256 (m.I 66 21) 17 ⟨m.T, sh_u2 m.I 66 21 ((m.I 66 21) + 1), m.J, m.s⟩) fun r7 =>
    if r7 = true then
      sh_bn (sf_266 24 (m.I 66 21) (-1) (-1) ⟨m.T, sh_u2 m.I 66 21 ((m.I 66 21) + 1), m.J, m.s⟩) fun r8 m18 =>
      sh_bn ((sq_240 sh_dp).f267 x1 m18) fun r9 m19 =>
      if sh_okb r8 9000 = true then
        if sh_okb r8 9000 = true then
          if ((sh_u2 m19.I 74 (Int32.toNatClampNeg r8) r9) 74 (Int32.toNatClampNeg r8)) < 0 then
            some (((-1), ⟨m19.T, sh_u2 m19.I 74 (Int32.toNatClampNeg r8) r9, m19.J, m19.s⟩))
          else
            sh_bn (sf_262 59 ⟨m19.T, sh_u2 m19.I 74 (Int32.toNatClampNeg r8) r9, m19.J, m19.s⟩) fun r10 m20 =>
            if r10 = true then
              some ((r8, m20))
            else
              some (((-1), m20))
        else none
      else none
    else
      sh_bc (sf_256 (m.I 66 21) 14 ⟨m.T, sh_u2 m.I 66 21 ((m.I 66 21) + 1), m.J, m.s⟩) fun r11 =>
      if r11 = true then
        sh_bn (Q.f275 (m.I 66 21) x1 ⟨m.T, sh_u2 m.I 66 21 ((m.I 66 21) + 1), m.J, m.s⟩) fun r12 m22 =>
        some ((r12, m22))
      else
        sh_bc (sf_256 (m.I 66 21) 13 ⟨m.T, sh_u2 m.I 66 21 ((m.I 66 21) + 1), m.J, m.s⟩) fun r13 =>
        if r13 = true then
          sh_bn (Q.f276 (m.I 66 21) x1 ⟨m.T, sh_u2 m.I 66 21 ((m.I 66 21) + 1), m.J, m.s⟩) fun r14 m24 =>
          some ((r14, m24))
        else
          sh_bn (sf_266 21 (m.I 66 21) (-1) (-1) ⟨m.T, sh_u2 m.I 66 21 ((m.I 66 21) + 1), m.J, m.s⟩) fun r15 m25 =>
          if sh_okb (m25.I 66 21) 4002 = true then
            if (m25.I 68 (Int32.toNatClampNeg (m25.I 66 21))) = 91 then
              if sh_okb r15 9000 = true then
                sh_bn ((sq_240 sh_dp).f267 (x1 + 1) ⟨m25.T, sh_u2 (sh_u2 m25.I 76 (Int32.toNatClampNeg r15) (m25.I 66 21)) 66 21 ((m25.I 66 21) + 1), m25.J, m25.s⟩) fun r16 m26 =>
                if sh_okb r15 9000 = true then
                  if sh_okb r15 9000 = true then
                    if ((sh_u2 m26.I 75 (Int32.toNatClampNeg r15) r16) 75 (Int32.toNatClampNeg r15)) < 0 then
                      some (((-1), ⟨m26.T, sh_u2 m26.I 75 (Int32.toNatClampNeg r15) r16, m26.J, m26.s⟩))
                    else
                      sh_bn (sf_262 93 ⟨m26.T, sh_u2 m26.I 75 (Int32.toNatClampNeg r15) r16, m26.J, m26.s⟩) fun r17 m27 =>
                      if r17 = true then
                        sf_265_261 Q x1 r15 m27
                      else
                        some (((-1), m27))
                  else none
                else none
              else none
            else
              sf_265_261 Q x1 r15 m25
          else none
noncomputable def sf_275 (Q : sh_Q242) (x1 : Int32) (x2 : Int32) (m : sh_X) : Option (Int32 × sh_X) :=
  sh_bn (sf_266 22 x1 (-1) (-1) m) fun r1 m11 =>
  sh_bn ((sq_240 sh_dp).f267 x2 m11) fun r2 m12 =>
  if sh_okb r1 9000 = true then
    if sh_okb r1 9000 = true then
      if ((sh_u2 m12.I 74 (Int32.toNatClampNeg r1) r2) 74 (Int32.toNatClampNeg r1)) < 0 then
        some (((-1), ⟨m12.T, sh_u2 m12.I 74 (Int32.toNatClampNeg r1) r2, m12.J, m12.s⟩))
      else
        sh_bn (sf_262 123 ⟨m12.T, sh_u2 m12.I 74 (Int32.toNatClampNeg r1) r2, m12.J, m12.s⟩) fun r3 m13 =>
        if r3 = true then
          sh_bn (Q.f264 (x2 + 1) m13) fun r4 m14 =>
          if sh_okb r1 9000 = true then
            if sh_okb r1 9000 = true then
              if ((sh_u2 m14.I 75 (Int32.toNatClampNeg r1) r4) 75 (Int32.toNatClampNeg r1)) = (-2) then
                some (((-1), ⟨m14.T, sh_u2 m14.I 75 (Int32.toNatClampNeg r1) r4, m14.J, m14.s⟩))
              else
                sh_bn (sf_262 125 ⟨m14.T, sh_u2 m14.I 75 (Int32.toNatClampNeg r1) r4, m14.J, m14.s⟩) fun r5 m15 =>
                if r5 = true then
                  sh_bc (sf_256 (m15.I 66 21) 11 m15) fun r6 =>
                  if r6 = true then
                    sh_bn (sf_262 123 ⟨m15.T, sh_u2 m15.I 66 21 ((m15.I 66 21) + 1), m15.J, m15.s⟩) fun r7 m17 =>
                    if r7 = true then
                      sh_bn (Q.f264 (x2 + 1) m17) fun r8 m18 =>
                      if sh_okb r1 9000 = true then
                        if sh_okb r1 9000 = true then
                          if ((sh_u2 m18.I 76 (Int32.toNatClampNeg r1) r8) 76 (Int32.toNatClampNeg r1)) = (-2) then
                            some (((-1), ⟨m18.T, sh_u2 m18.I 76 (Int32.toNatClampNeg r1) r8, m18.J, m18.s⟩))
                          else
                            sh_bn (sf_262 125 ⟨m18.T, sh_u2 m18.I 76 (Int32.toNatClampNeg r1) r8, m18.J, m18.s⟩) fun r9 m19 =>
                            if r9 = true then
                              some ((r1, m19))
                            else
                              some (((-1), m19))
                        else none
                      else none
                    else
                      some (((-1), m17))
                  else
                    some ((r1, m15))
                else
                  some (((-1), m15))
            else none
          else none
        else
          some (((-1), m13))
    else none
  else none
noncomputable def sf_276 (Q : sh_Q242) (x1 : Int32) (x2 : Int32) (m : sh_X) : Option (Int32 × sh_X) :=
  sh_bn (sf_266 23 x1 (-1) (m.I 66 21) m) fun r1 m11 =>
  sh_bn (sf_258 m11) fun r2 m12 =>
  if r2 = true then
    sh_bn (sf_277 15 m12) fun r3 m13 =>
    if r3 = true then
      if sh_okb r1 9000 = true then
        sh_bn (sf_262 2 ⟨m13.T, sh_u2 m13.I 76 (Int32.toNatClampNeg r1) (m13.I 66 21), m13.J, m13.s⟩) fun r4 m14 =>
        if r4 = true then
          sh_bn (sf_262 11822 m14) fun r5 m15 =>
          if r5 = true then
            sh_bn (sf_262 2 m15) fun r6 m16 =>
            if r6 = true then
              sh_bn (sf_262 123 m16) fun r7 m17 =>
              if r7 = true then
                sh_bn (Q.f264 (x2 + 1) m17) fun r8 m18 =>
                if sh_okb r1 9000 = true then
                  if sh_okb r1 9000 = true then
                    if ((sh_u2 m18.I 74 (Int32.toNatClampNeg r1) r8) 74 (Int32.toNatClampNeg r1)) = (-2) then
                      some (((-1), ⟨m18.T, sh_u2 m18.I 74 (Int32.toNatClampNeg r1) r8, m18.J, m18.s⟩))
                    else
                      sh_bn (sf_262 125 ⟨m18.T, sh_u2 m18.I 74 (Int32.toNatClampNeg r1) r8, m18.J, m18.s⟩) fun r9 m19 =>
                      if r9 = true then
                        some ((r1, m19))
                      else
                        some (((-1), m19))
                  else none
                else none
              else
                some (((-1), m17))
            else
              some (((-1), m16))
          else
            some (((-1), m15))
        else
          some (((-1), m14))
      else none
    else
      some (((-1), m13))
  else
    some (((-1), m12))
noncomputable def sq_242 : Nat → sh_Q242
  | 0 => ⟨(fun _ _ => none), (fun _ _ => none), (fun _ _ _ => none), (fun _ _ _ => none)⟩
  | d + 1 => ⟨sf_264 (sq_242 d), sf_265 (sq_242 d), sf_275 (sq_242 d), sf_276 (sq_242 d)⟩
noncomputable def sf_257_176 (x1 : Int32) (y0 : Bool) (m : sh_X) : Option ((Int32 × Bool × sh_X) ⊕ (Bool × sh_X)) :=
  if y0 = true then
    some (.inl (x1, y0, ⟨m.T, sh_u2 m.I 66 21 ((m.I 66 21) + 1), m.J, m.s⟩))
  else
    some (.inl (x1, y0, m))
noncomputable def sf_257_194 (x1 : Int32) (m : sh_X) : Option (Bool × sh_X) :=
  if sh_okb (m.I 66 31) 600 = true then
    sh_bn (sf_262 41 ⟨m.T, sh_u2 m.I 80 (Int32.toNatClampNeg (m.I 66 31)) x1, m.J, m.s⟩) fun r1 m11 =>
    if r1 = true then
      sh_bn (sf_263 m11) fun r2 m12 =>
      if r2 = true then
        if sh_okb (m12.I 66 31) 600 = true then
          if sh_okb (m12.I 66 31) 600 = true then
            sh_bn (sf_262 123 ⟨m12.T, sh_u2 (sh_u2 m12.I 84 (Int32.toNatClampNeg (m12.I 66 31)) (m12.I 66 38)) 85 (Int32.toNatClampNeg (m12.I 66 31)) (m12.I 66 39), m12.J, m12.s⟩) fun r3 m13 =>
            if r3 = true then
              sh_bn ((sq_242 sh_dp).f264 1 m13) fun r4 m14 =>
              if sh_okb (m13.I 66 31) 600 = true then
                if sh_okb (m14.I 66 31) 600 = true then
                  if ((sh_u2 m14.I 86 (Int32.toNatClampNeg (m13.I 66 31)) r4) 86 (Int32.toNatClampNeg (m14.I 66 31))) = (-2) then
                    some ((false, ⟨m14.T, sh_u2 m14.I 86 (Int32.toNatClampNeg (m13.I 66 31)) r4, m14.J, m14.s⟩))
                  else
                    sh_bn (sf_277 18 ⟨m14.T, sh_u2 m14.I 86 (Int32.toNatClampNeg (m13.I 66 31)) r4, m14.J, m14.s⟩) fun r5 m15 =>
                    if r5 = true then
                      sh_bn ((sq_240 sh_dp).f267 1 m15) fun r6 m16 =>
                      if sh_okb (m15.I 66 31) 600 = true then
                        if sh_okb (m16.I 66 31) 600 = true then
                          if ((sh_u2 m16.I 87 (Int32.toNatClampNeg (m15.I 66 31)) r6) 87 (Int32.toNatClampNeg (m16.I 66 31))) < 0 then
                            some ((false, ⟨m16.T, sh_u2 m16.I 87 (Int32.toNatClampNeg (m15.I 66 31)) r6, m16.J, m16.s⟩))
                          else
                            sh_bn (sf_262 59 ⟨m16.T, sh_u2 m16.I 87 (Int32.toNatClampNeg (m15.I 66 31)) r6, m16.J, m16.s⟩) fun r7 m17 =>
                            if r7 = true then
                              sh_bn (sf_262 125 m17) fun r8 m18 =>
                              if r8 = true then
                                some ((true, ⟨m18.T, sh_u2 m18.I 66 31 ((m18.I 66 31) + 1), m18.J, m18.s⟩))
                              else
                                some ((false, m18))
                            else
                              some ((false, m17))
                        else none
                      else none
                    else
                      some ((false, m15))
                else none
              else none
            else
              some ((false, m13))
          else none
        else none
      else
        some ((false, m12))
    else
      some ((false, m11))
  else none
noncomputable def sf_257_59s (x1 : Int32) (x2 : Bool) (m : sh_X) : Option ((Int32 × Bool × sh_X) ⊕ (Bool × sh_X)) :=
  if x2 = true then
    if x1 = 8 then
      if sh_okb (m.I 66 21) 4002 = true then
        sh_bn (sf_252 2 (m.I 69 (Int32.toNatClampNeg (m.I 66 21))) m) fun r1 m11 =>
        some (.inr ((r1, m11)))
      else none
    else
      if sh_okb ((8 * (m.I 66 31)) + x1) 4800 = true then
        sh_bn (sf_258 ⟨m.T, sh_u2 m.I 81 (Int32.toNatClampNeg ((8 * (m.I 66 31)) + x1)) (m.I 66 21), m.J, m.s⟩) fun r2 m12 =>
        if r2 = true then
          sh_bn (sf_263 m12) fun r3 m13 =>
          if r3 = true then
            if sh_okb ((8 * (m13.I 66 31)) + x1) 4800 = true then
              if sh_okb ((8 * (m13.I 66 31)) + x1) 4800 = true then
                if sh_okb (m13.I 66 21) 4002 = true then
                  if (m13.I 68 (Int32.toNatClampNeg (m13.I 66 21))) = 44 then
                    sf_257_176 (x1 + 1) true ⟨m13.T, sh_u2 (sh_u2 m13.I 82 (Int32.toNatClampNeg ((8 * (m13.I 66 31)) + x1)) (m13.I 66 38)) 83 (Int32.toNatClampNeg ((8 * (m13.I 66 31)) + x1)) (m13.I 66 39), m13.J, m13.s⟩
                  else
                    sf_257_176 (x1 + 1) false ⟨m13.T, sh_u2 (sh_u2 m13.I 82 (Int32.toNatClampNeg ((8 * (m13.I 66 31)) + x1)) (m13.I 66 38)) 83 (Int32.toNatClampNeg ((8 * (m13.I 66 31)) + x1)) (m13.I 66 39), m13.J, m13.s⟩
                else none
              else none
            else none
          else
            some (.inr ((false, m13)))
        else
          some (.inr ((false, m12)))
      else none
  else
    sh_up (sf_257_194 x1 m)
noncomputable def sf_257_59 (x1 : Int32) (x2 : Bool) (m : sh_X) : Option (Bool × sh_X) := sh_while (fun q => sf_257_59s q.1 q.2.1 q.2.2) (x1, x2, m)
noncomputable def sf_257 (m : sh_X) : Option (Bool × sh_X) :=
  if sh_okb (m.I 66 31) 600 = true then
    sh_bn (sf_258 ⟨m.T, sh_u2 (sh_u2 m.I 66 21 ((m.I 66 21) + 1)) 79 (Int32.toNatClampNeg (m.I 66 31)) ((m.I 66 21) + 1), m.J, m.s⟩) fun r1 m11 =>
    if r1 = true then
      sh_bn (sf_262 40 m11) fun r2 m12 =>
      if r2 = true then
        if sh_okb (m12.I 66 21) 4002 = true then
          if (m12.I 68 (Int32.toNatClampNeg (m12.I 66 21))) = 41 then
            sf_257_194 0 m12
          else
            sf_257_59 0 true m12
        else none
      else
        some ((false, m12))
    else
      some ((false, m11))
  else none
noncomputable def sf_255_95 (y1 : Int32) (y2 : Bool) (m : sh_X) : Option (sh_X ⊕ (Bool × sh_X)) :=
  if sh_okb y1 1400 = true then
    if sh_okb (m.I 66 36) 1400 = true then
      sh_bn (sf_258 ⟨m.T, sh_u2 (sh_u2 (sh_u2 m.I 88 (Int32.toNatClampNeg y1) (sh_b2 y2)) 66 21 ((m.I 66 21) + 1)) 89 (Int32.toNatClampNeg (m.I 66 36)) ((m.I 66 21) + 1), m.J, m.s⟩) fun r1 m11 =>
      if r1 = true then
        sh_bn (sf_263 m11) fun r2 m12 =>
        if r2 = true then
          if sh_okb (m12.I 66 36) 1400 = true then
            if sh_okb (m12.I 66 36) 1400 = true then
              sh_bn (sf_262 59 ⟨m12.T, sh_u2 (sh_u2 m12.I 90 (Int32.toNatClampNeg (m12.I 66 36)) (m12.I 66 38)) 91 (Int32.toNatClampNeg (m12.I 66 36)) (m12.I 66 39), m12.J, m12.s⟩) fun r3 m13 =>
              if r3 = true then
                some (.inl ⟨m13.T, sh_u2 m13.I 66 36 ((m13.I 66 36) + 1), m13.J, m13.s⟩)
              else
                some (.inr ((false, m13)))
            else none
          else none
        else
          some (.inr ((false, m12)))
      else
        some (.inr ((false, m11)))
    else none
  else none
noncomputable def sf_255_69 (m : sh_X) : Option (sh_X ⊕ (Bool × sh_X)) :=
  sh_bc (sf_256 (m.I 66 21) 8 m) fun r1 =>
  if r1 = true then
    sf_255_95 (m.I 66 36) false m
  else
    sf_255_95 (m.I 66 36) true m
noncomputable def sf_255_232 (m : sh_X) : Option (Bool × sh_X) :=
  some ((true, m))
noncomputable def sf_255_43s (m : sh_X) : Option (sh_X ⊕ (Bool × sh_X)) :=
  sh_bc (sf_256 (m.I 66 21) 8 m) fun r1 =>
  if r1 = true then
    sf_255_69  m
  else
    sh_bc (sf_256 (m.I 66 21) 9 m) fun r2 =>
    if r2 = true then
      sf_255_69  m
    else
      sh_bn ((sq_242 sh_dp).f264 0 m) fun r3 m13 =>
      if r3 = (-2) then
        some (.inr ((false, ⟨m13.T, sh_u2 m13.I 66 37 r3, m13.J, m13.s⟩)))
      else
        if sh_okb (m13.I 66 21) 4002 = true then
          if (m13.I 68 (Int32.toNatClampNeg (m13.I 66 21))) = 0 then
            sh_up (sf_255_232  ⟨m13.T, sh_u2 m13.I 66 37 r3, m13.J, m13.s⟩)
          else
            if sh_okb (m13.I 66 21) 4002 = true then
              sh_bn (sf_252 2 (m13.I 69 (Int32.toNatClampNeg (m13.I 66 21))) ⟨m13.T, sh_u2 m13.I 66 37 r3, m13.J, m13.s⟩) fun r4 m14 =>
              if r4 = true then
                sh_up (sf_255_232  m14)
              else
                some (.inr ((false, m14)))
            else none
        else none
noncomputable def sf_255_43 (m : sh_X) : Option (Bool × sh_X) := sh_while (fun q => sf_255_43s  q) m
noncomputable def sf_255_20s (m : sh_X) : Option (sh_X ⊕ (Bool × sh_X)) :=
  sh_bc (sf_256 (m.I 66 21) 7 m) fun r1 =>
  if r1 = true then
    sh_bn (sf_257 m) fun r2 m12 =>
    if r2 = true then
      some (.inl m12)
    else
      some (.inr ((false, m12)))
  else
    sh_up (sf_255_43  m)
noncomputable def sf_255_20 (m : sh_X) : Option (Bool × sh_X) := sh_while (fun q => sf_255_20s  q) m
noncomputable def sf_255 (m : sh_X) : Option (Bool × sh_X) :=
  sf_255_20  ⟨m.T, sh_u2 (sh_u2 (sh_u2 (sh_u2 m.I 66 20 0) 66 21 0) 66 31 0) 66 36 0, m.J, m.s⟩
noncomputable def sf_279_19s (x1 : Int32) (x2 : Int32) (x3 : Int32) (m : sh_X) : Option (Int32 ⊕ Bool) :=
  if sh_okb x1 4002 = true then
    if x3 < (m.I 70 (Int32.toNatClampNeg x1)) then
      if sh_okb x1 4002 = true then
        if sh_okb ((m.I 69 (Int32.toNatClampNeg x1)) + x3) 4000 = true then
          if sh_okb x2 4002 = true then
            if sh_okb ((m.I 69 (Int32.toNatClampNeg x2)) + x3) 4000 = true then
              if (m.I 71 (Int32.toNatClampNeg ((m.I 69 (Int32.toNatClampNeg x1)) + x3))) = (m.I 71 (Int32.toNatClampNeg ((m.I 69 (Int32.toNatClampNeg x2)) + x3))) then
                some (.inl (x3 + 1))
              else
                some (.inr (false))
            else none
          else none
        else none
      else none
    else
      some (.inr (true))
  else none
noncomputable def sf_279_19 (x1 : Int32) (x2 : Int32) (x3 : Int32) (m : sh_X) : Option Bool := sh_while (fun q => sf_279_19s x1 x2 q m) x3
noncomputable def sf_279 (x1 : Int32) (x2 : Int32) (m : sh_X) : Option Bool :=
  if sh_okb x1 4002 = true then
    if sh_okb x2 4002 = true then
      if (m.I 70 (Int32.toNatClampNeg x1)) = (m.I 70 (Int32.toNatClampNeg x2)) then
        sf_279_19 x1 x2 0 m
      else
        some (false)
    else none
  else none
noncomputable def sf_281_5s (x1 : Int32) (x2 : Int64) (x4 : Int32) (m : sh_X) : Option ((Int64 × Int32) ⊕ Int64) :=
  if sh_okb x1 4002 = true then
    if x4 < (m.I 70 (Int32.toNatClampNeg x1)) then
      if sh_okb x1 4002 = true then
        if sh_okb ((m.I 69 (Int32.toNatClampNeg x1)) + x4) 4000 = true then
          some (.inl ((((10 : Int64) * x2) + (Int32.toInt64 (m.I 71 (Int32.toNatClampNeg ((m.I 69 (Int32.toNatClampNeg x1)) + x4))))) - (48 : Int64), x4 + 1))
        else none
      else none
    else
      some (.inr (x2))
  else none
noncomputable def sf_281_5 (x1 : Int32) (x2 : Int64) (x4 : Int32) (m : sh_X) : Option Int64 := sh_while (fun q => sf_281_5s x1 q.1 q.2 m) (x2, x4)
noncomputable def sf_281 (x1 : Int32) (m : sh_X) : Option Int64 :=
  sf_281_5 x1 0 0 m
noncomputable def sf_280_40 (m : sh_X) : Option (Bool × sh_X) :=
  some ((true, m))
noncomputable def sf_280_26 (x1 : Int32) (m : sh_X) : Option (Bool × sh_X) :=
  if sh_okb x1 4002 = true then
    sh_bn (sf_252 4 (m.I 69 (Int32.toNatClampNeg x1)) m) fun r1 m11 =>
    if r1 = true then
      sf_280_40  m11
    else
      some ((false, m11))
  else none
noncomputable def sf_280 (x1 : Int32) (m : sh_X) : Option (Bool × sh_X) :=
  if x1 < 0 then
    sf_280_40  m
  else
    sh_bc (sf_281 x1 m) fun r1 =>
    if r1 < 1 then
      sf_280_26 x1 m
    else
      sh_bc (sf_281 x1 m) fun r2 =>
      if 32 < r2 then
        sf_280_26 x1 m
      else
        sf_280_40  m
noncomputable def sf_278_73s (x1 : Int32) (x2 : Int32) (x3 : Int32) (m : sh_X) : Option ((Int32 × sh_X) ⊕ ((Int32 × sh_X) ⊕ ((Int32 × sh_X) ⊕ (Bool × sh_X)))) :=
  if x3 < x2 then
    if sh_okb ((8 * x1) + x3) 4800 = true then
      if sh_okb ((8 * x1) + x2) 4800 = true then
        sh_bc (sf_279 (m.I 81 (Int32.toNatClampNeg ((8 * x1) + x3))) (m.I 81 (Int32.toNatClampNeg ((8 * x1) + x2))) m) fun r1 =>
        if r1 = true then
          if sh_okb ((8 * x1) + x2) 4800 = true then
            if sh_okb (m.I 81 (Int32.toNatClampNeg ((8 * x1) + x2))) 4002 = true then
              sh_bn (sf_252 3 (m.I 69 (Int32.toNatClampNeg (m.I 81 (Int32.toNatClampNeg ((8 * x1) + x2))))) m) fun r2 m12 =>
              some (.inr (.inr (.inr ((r2, m12)))))
            else none
          else none
        else
          some (.inl (x3 + 1, m))
      else none
    else none
  else
    if sh_okb ((8 * x1) + x2) 4800 = true then
      sh_bn (sf_280 (m.I 83 (Int32.toNatClampNeg ((8 * x1) + x2))) m) fun r3 m13 =>
      if r3 = true then
        some (.inr (.inl (x2 + 1, m13)))
      else
        some (.inr (.inr (.inr ((false, m13)))))
    else none
noncomputable def sf_278_73 (x1 : Int32) (x2 : Int32) (x3 : Int32) (m : sh_X) : Option ((Int32 × sh_X) ⊕ ((Int32 × sh_X) ⊕ (Bool × sh_X))) := sh_while (fun q => sf_278_73s x1 x2 q.1 q.2) (x3, m)
noncomputable def sf_278_61s (x1 : Int32) (x2 : Int32) (m : sh_X) : Option ((Int32 × sh_X) ⊕ ((Int32 × sh_X) ⊕ (Bool × sh_X))) :=
  if sh_okb x1 600 = true then
    if x2 < (m.I 80 (Int32.toNatClampNeg x1)) then
      sf_278_73 x1 x2 0 m
    else
      if sh_okb x1 600 = true then
        sh_bn (sf_280 (m.I 85 (Int32.toNatClampNeg x1)) m) fun r1 m11 =>
        if r1 = true then
          some (.inr (.inl (x1 + 1, m11)))
        else
          some (.inr (.inr ((false, m11))))
      else none
  else none
noncomputable def sf_278_61 (x1 : Int32) (x2 : Int32) (m : sh_X) : Option ((Int32 × sh_X) ⊕ (Bool × sh_X)) := sh_while (fun q => sf_278_61s x1 q.1 q.2) (x2, m)
noncomputable def sf_278_12s (x1 : Int32) (x2 : Int32) (m : sh_X) : Option ((Int32 × sh_X) ⊕ ((Int32 × sh_X) ⊕ (Bool × sh_X))) :=
  if x2 < x1 then
    if sh_okb x2 600 = true then
      if sh_okb x1 600 = true then
        sh_bc (sf_279 (m.I 79 (Int32.toNatClampNeg x2)) (m.I 79 (Int32.toNatClampNeg x1)) m) fun r1 =>
        if r1 = true then
          if sh_okb x1 600 = true then
            if sh_okb (m.I 79 (Int32.toNatClampNeg x1)) 4002 = true then
              sh_bn (sf_252 3 (m.I 69 (Int32.toNatClampNeg (m.I 79 (Int32.toNatClampNeg x1)))) m) fun r2 m12 =>
              some (.inr (.inr ((r2, m12))))
            else none
          else none
        else
          some (.inl (x2 + 1, m))
      else none
    else none
  else
    sh_up (sf_278_61 x1 0 m)
noncomputable def sf_278_12 (x1 : Int32) (x2 : Int32) (m : sh_X) : Option ((Int32 × sh_X) ⊕ (Bool × sh_X)) := sh_while (fun q => sf_278_12s x1 q.1 q.2) (x2, m)
noncomputable def sf_278_2s (x1 : Int32) (m : sh_X) : Option ((Int32 × sh_X) ⊕ (Bool × sh_X)) :=
  if x1 < (m.I 66 31) then
    sf_278_12 x1 0 m
  else
    some (.inr ((true, m)))
noncomputable def sf_278_2 (x1 : Int32) (m : sh_X) : Option (Bool × sh_X) := sh_while (fun q => sf_278_2s q.1 q.2) (x1, m)
noncomputable def sf_278 (m : sh_X) : Option (Bool × sh_X) :=
  sf_278_2 0 m
noncomputable def sf_284_7s (x1 : Int32) (x2 : Int32) (m : sh_X) : Option (Int32 ⊕ Int32) :=
  if x2 < (m.I 66 54) then
    some (.inr ((-1)))
  else
    if sh_okb x2 3000 = true then
      sh_bc (sf_279 (m.I 93 (Int32.toNatClampNeg x2)) x1 m) fun r1 =>
      if r1 = true then
        some (.inr (x2))
      else
        some (.inl (x2 + (-1)))
    else none
noncomputable def sf_284_7 (x1 : Int32) (x2 : Int32) (m : sh_X) : Option Int32 := sh_while (fun q => sf_284_7s x1 q m) x2
noncomputable def sf_284 (x1 : Int32) (m : sh_X) : Option Int32 :=
  sf_284_7 x1 ((m.I 66 53) - 1) m
noncomputable def sf_285_78 (x3 : Int32) (y0 : Int32) (y1 : Int32) (m : sh_X) : Option Int32 :=
  some (((y0 * y1) + x3) - 1)
noncomputable def sf_285_25s (x1 : Int32) (x2 : Int32) (x3 : Int32) (x4 : Int32) (m : sh_X) : Option ((Int32 × Int32) ⊕ Int32) :=
  if sh_okb x1 4002 = true then
    if x4 < (m.I 70 (Int32.toNatClampNeg x1)) then
      if sh_okb x1 4002 = true then
        if sh_okb ((m.I 69 (Int32.toNatClampNeg x1)) + x4) 4000 = true then
          some (.inl (((10 * x3) + (m.I 71 (Int32.toNatClampNeg ((m.I 69 (Int32.toNatClampNeg x1)) + x4)))) - 48, x4 + 1))
        else none
      else none
    else
      if x2 = 117 then
        sh_up (sf_285_78 x3 64 1 m)
      else
        sh_up (sf_285_78 x3 64 2 m)
  else none
noncomputable def sf_285_25 (x1 : Int32) (x2 : Int32) (x3 : Int32) (x4 : Int32) (m : sh_X) : Option Int32 := sh_while (fun q => sf_285_25s x1 x2 q.1 q.2 m) (x3, x4)
noncomputable def sf_285 (x1 : Int32) (m : sh_X) : Option Int32 :=
  if sh_okb x1 4002 = true then
    if sh_okb (m.I 69 (Int32.toNatClampNeg x1)) 4000 = true then
      if (m.I 71 (Int32.toNatClampNeg (m.I 69 (Int32.toNatClampNeg x1)))) = 98 then
        some (0)
      else
        sf_285_25 x1 (m.I 71 (Int32.toNatClampNeg (m.I 69 (Int32.toNatClampNeg x1)))) 0 1 m
    else none
  else none
noncomputable def sf_286 (x1 : Int32) (m : sh_X) : Option Int32 :=
  if x1 < 0 then
    some (0)
  else
    sh_bc (sf_281 x1 m) fun r1 =>
    some (Int64.toInt32 r1)
noncomputable def sf_287_43 (m : sh_X) : Option Bool :=
  some (true)
noncomputable def sf_287_9 (x1 : Int32) (x2 : Int32) (y0 : Int32) (m : sh_X) : Option Bool :=
  if sh_okb x1 3 = true then
    if 1000 < ((m.I 102 (Int32.toNatClampNeg x1)) + (y0 * x2)) then
      sf_287_43  m
    else
      if sh_okb x1 3 = true then
        if 256 < ((m.I 99 (Int32.toNatClampNeg x1)) + y0) then
          sf_287_43  m
        else
          some (false)
      else none
  else none
noncomputable def sf_287 (x1 : Int32) (x2 : Int32) (x3 : Int32) (m : sh_X) : Option Bool :=
  if x3 = 0 then
    sf_287_9 x1 x2 1 m
  else
    sf_287_9 x1 x2 x3 m
noncomputable def sf_288 (x0 : Int32) (x1 : Int32) (x2 : Int64) : Int64 :=
  if x1 = 64 then
    x2
  else
    if x0 = 2 then
      if (((x2 &&& (((1 : Int64) <<< (Int32.toInt64 x1 &&& 63)) - (1 : Int64))) >>> (Int32.toInt64 (x1 - 1) &&& 63)) &&& (1 : Int64)) = 1 then
        (x2 &&& (((1 : Int64) <<< (Int32.toInt64 x1 &&& 63)) - (1 : Int64))) - ((1 : Int64) <<< (Int32.toInt64 x1 &&& 63))
      else
        x2 &&& (((1 : Int64) <<< (Int32.toInt64 x1 &&& 63)) - (1 : Int64))
    else
      x2 &&& (((1 : Int64) <<< (Int32.toInt64 x1 &&& 63)) - (1 : Int64))
noncomputable def sf_289 (x1 : Int32) (x2 : Int32) (x3 : Int32) (m : sh_X) : Option (Unit × sh_X) :=
  if sh_okb x1 3 = true then
    if sh_okb ((256 * x1) + (m.I 99 (Int32.toNatClampNeg x1))) 768 = true then
      if sh_okb x1 3 = true then
        if sh_okb ((256 * x1) + (m.I 99 (Int32.toNatClampNeg x1))) 768 = true then
          if sh_okb x1 3 = true then
            if sh_okb x1 3 = true then
              if sh_okb x1 3 = true then
                if sh_okb x1 3 = true then
                  some (((), ⟨m.T, sh_u2 (sh_u2 (sh_u2 (sh_u2 m.I 100 (Int32.toNatClampNeg ((256 * x1) + (m.I 99 (Int32.toNatClampNeg x1)))) x2) 101 (Int32.toNatClampNeg ((256 * x1) + (m.I 99 (Int32.toNatClampNeg x1)))) x3) 99 (Int32.toNatClampNeg x1) ((m.I 99 (Int32.toNatClampNeg x1)) + 1)) 102 (Int32.toNatClampNeg x1) ((m.I 102 (Int32.toNatClampNeg x1)) + x3), m.J, m.s⟩))
                else none
              else none
            else none
          else none
        else none
      else none
    else none
  else none
noncomputable def sf_283_169 (x2 : Int32) (x4 : Int32) (x5 : Int32) (x6 : Int32) (y1 : Int32) (y2 : Int32) (m : sh_X) : Option ((Int32 × sh_X) ⊕ (Bool × sh_X)) :=
  if sh_okb x4 3 = true then
    if sh_okb ((256 * x4) + (m.I 99 (Int32.toNatClampNeg x4))) 512 = true then
      if sh_okb y1 80000 = true then
        sh_bn (sf_289 x4 (m.I 66 43) (m.I 66 44) ⟨m.T, sh_u2 m.I 66 41 ((m.I 66 41) + 1), sh_u2 m.J 92 (Int32.toNatClampNeg y1) (sf_288 y2 (m.I 66 44) (m.J 103 (Int32.toNatClampNeg ((256 * x4) + (m.I 99 (Int32.toNatClampNeg x4)))))), m.s⟩) fun _ m12 =>
        some (.inl (x6 + 1, m12))
      else none
    else none
  else none
noncomputable def sf_283_146 (x2 : Int32) (x4 : Int32) (x5 : Int32) (x6 : Int32) (m : sh_X) : Option ((Int32 × sh_X) ⊕ (Bool × sh_X)) :=
  if (m.I 66 43) = 0 then
    sf_283_169 x2 x4 x5 x6 (m.I 66 41) 1 m
  else
    sf_283_169 x2 x4 x5 x6 (m.I 66 41) (m.I 66 43) m
noncomputable def sf_283_132s (x2 : Int32) (x4 : Int32) (x5 : Int32) (x6 : Int32) (m : sh_X) : Option ((Int32 × sh_X) ⊕ (Bool × sh_X)) :=
  if x6 = 0 then
    sf_283_146 x2 x4 x5 x6 m
  else
    if x6 < (m.I 66 45) then
      sf_283_146 x2 x4 x5 x6 m
    else
      if sh_okb (m.I 66 53) 3000 = true then
        if sh_okb (m.I 66 53) 3000 = true then
          if sh_okb (m.I 66 53) 3000 = true then
            if sh_okb (m.I 66 53) 3000 = true then
              if sh_okb (m.I 66 53) 3000 = true then
                some (.inr ((true, ⟨m.T, sh_u2 (sh_u2 (sh_u2 (sh_u2 (sh_u2 (sh_u2 m.I 93 (Int32.toNatClampNeg (m.I 66 53)) x2) 94 (Int32.toNatClampNeg (m.I 66 53)) (m.I 66 43)) 95 (Int32.toNatClampNeg (m.I 66 53)) (m.I 66 44)) 96 (Int32.toNatClampNeg (m.I 66 53)) (m.I 66 45)) 97 (Int32.toNatClampNeg (m.I 66 53)) x5) 66 53 ((m.I 66 53) + 1), m.J, m.s⟩)))
              else none
            else none
          else none
        else none
      else none
noncomputable def sf_283_132 (x2 : Int32) (x4 : Int32) (x5 : Int32) (x6 : Int32) (m : sh_X) : Option (Bool × sh_X) := sh_while (fun q => sf_283_132s x2 x4 x5 q.1 q.2) (x6, m)
noncomputable def sf_283 (x1 : Int32) (m : sh_X) : Option (Bool × sh_X) :=
  if sh_okb x1 1400 = true then
    if sh_okb x1 1400 = true then
      sh_bn (sf_280 (m.I 91 (Int32.toNatClampNeg x1)) m) fun r1 m11 =>
      if r1 = true then
        sh_bc (sf_284 (m.I 89 (Int32.toNatClampNeg x1)) m11) fun r2 =>
        if r2 < 0 then
          if sh_okb x1 1400 = true then
            sh_bc (sf_285 (m11.I 90 (Int32.toNatClampNeg x1)) m11) fun r3 =>
            if sh_okb x1 1400 = true then
              if sh_okb x1 1400 = true then
                sh_bc (sf_286 (m11.I 91 (Int32.toNatClampNeg x1)) ⟨m11.T, sh_u2 (sh_u2 m11.I 66 43 (r3 / 64)) 66 44 ((r3 - r3 / 64 * 64) + 1), m11.J, m11.s⟩) fun r4 =>
                sh_bc (sf_287 (m11.I 88 (Int32.toNatClampNeg x1)) ((r3 - r3 / 64 * 64) + 1) r4 ⟨m11.T, sh_u2 (sh_u2 (sh_u2 m11.I 66 43 (r3 / 64)) 66 44 ((r3 - r3 / 64 * 64) + 1)) 66 45 r4, m11.J, m11.s⟩) fun r5 =>
                if r5 = true then
                  if sh_okb (m.I 89 (Int32.toNatClampNeg x1)) 4002 = true then
                    sh_bn (sf_252 6 (m11.I 69 (Int32.toNatClampNeg (m.I 89 (Int32.toNatClampNeg x1)))) ⟨m11.T, sh_u2 (sh_u2 (sh_u2 m11.I 66 43 (r3 / 64)) 66 44 ((r3 - r3 / 64 * 64) + 1)) 66 45 r4, m11.J, m11.s⟩) fun r6 m16 =>
                    some ((r6, m16))
                  else none
                else
                  sf_283_132 (m.I 89 (Int32.toNatClampNeg x1)) (m11.I 88 (Int32.toNatClampNeg x1)) (m11.I 66 41) 0 ⟨m11.T, sh_u2 (sh_u2 (sh_u2 m11.I 66 43 (r3 / 64)) 66 44 ((r3 - r3 / 64 * 64) + 1)) 66 45 r4, m11.J, m11.s⟩
              else none
            else none
          else none
        else
          if sh_okb (m.I 89 (Int32.toNatClampNeg x1)) 4002 = true then
            sh_bn (sf_252 3 (m11.I 69 (Int32.toNatClampNeg (m.I 89 (Int32.toNatClampNeg x1)))) m11) fun r7 m17 =>
            some ((r7, m17))
          else none
      else
        some ((false, m11))
    else none
  else none
noncomputable def sf_292_35 (m : sh_X) : Option (Bool × sh_X) :=
  some ((true, m))
noncomputable def sf_292 (x1 : Int32) (x2 : Int32) (m : sh_X) : Option (Bool × sh_X) :=
  if 3000 < ((m.I 66 42) + x1) then
    if sh_okb x2 4002 = true then
      sh_bn (sf_252 6 (m.I 69 (Int32.toNatClampNeg x2)) ⟨m.T, sh_u2 m.I 66 42 ((m.I 66 42) + x1), m.J, m.s⟩) fun r1 m11 =>
      if r1 = true then
        sf_292_35  m11
      else
        some ((false, m11))
    else none
  else
    sf_292_35  ⟨m.T, sh_u2 m.I 66 42 ((m.I 66 42) + x1), m.J, m.s⟩
noncomputable def sf_295 (x1 : Int32) (m : sh_X) : Option (Unit × sh_X) :=
  if sh_okb (m.I 66 73) 9000 = true then
    if sh_okb (m.I 66 73) 9000 = true then
      some (((), ⟨m.T, sh_u2 (sh_u2 (sh_u2 m.I 105 (Int32.toNatClampNeg (m.I 66 73)) x1) 106 (Int32.toNatClampNeg (m.I 66 73)) 0) 66 73 ((m.I 66 73) + 1), m.J, m.s⟩))
    else none
  else none
noncomputable def sf_300_25 : Bool :=
  true
noncomputable def sf_300_58 : Bool :=
  true
noncomputable def sf_300 (x0 : Int32) (x1 : Int32) (x2 : Int64) : Bool :=
  if x0 = 1 then
    if x2 < 0 then
      false
    else
      if x1 < 60 then
        if x2 < ((1 : Int64) <<< (Int32.toInt64 x1 &&& 63)) then
          sf_300_25 
        else
          false
      else
        sf_300_25 
  else
    if 60 < x1 then
      sf_300_58 
    else
      if x2 < (-((1 : Int64) <<< (Int32.toInt64 (x1 - 1) &&& 63))) then
        false
      else
        if x2 < ((1 : Int64) <<< (Int32.toInt64 (x1 - 1) &&& 63)) then
          sf_300_58 
        else
          false
noncomputable def sf_299_27 (x1 : Int32) (m : sh_X) : Option (Bool × sh_X) :=
  if sh_okb x1 9000 = true then
    if sh_okb (m.I 73 (Int32.toNatClampNeg x1)) 4002 = true then
      sh_bn (sf_252 5 (m.I 69 (Int32.toNatClampNeg (m.I 73 (Int32.toNatClampNeg x1)))) m) fun r1 m11 =>
      some ((r1, m11))
    else none
  else none
noncomputable def sf_299_15 (x1 : Int32) (x2 : Int32) (x3 : Int32) (m : sh_X) : Option (Bool × sh_X) :=
  if (sf_300 x2 x3 (m.J 66 46)) = true then
    if sh_okb x1 9000 = true then
      sh_bn (sf_292 x3 (m.I 73 (Int32.toNatClampNeg x1)) ⟨m.T, sh_u2 (sh_u2 (sh_u2 m.I 66 43 x2) 66 44 x3) 66 45 0, m.J, m.s⟩) fun r2 m12 =>
      some ((r2, m12))
    else none
  else
    sf_299_27 x1 m
noncomputable def sf_299 (x1 : Int32) (x2 : Int32) (x3 : Int32) (x4 : Int32) (m : sh_X) : Option (Bool × sh_X) :=
  if 0 < x4 then
    sf_299_27 x1 m
  else
    if x2 = 1 then
      sf_299_15 x1 x2 x3 m
    else
      if x2 = 2 then
        sf_299_15 x1 x2 x3 m
      else
        sf_299_27 x1 m
noncomputable def sf_298_20 (m : sh_X) : Option (Bool × sh_X) :=
  some ((true, m))
noncomputable def sf_298 (x1 : Int32) (m : sh_X) : Option (Bool × sh_X) :=
  if (m.I 66 43) = 3 then
    sh_bn (sf_299 x1 2 32 0 m) fun r1 m11 =>
    if r1 = true then
      sf_298_20  m11
    else
      some ((false, m11))
  else
    sf_298_20  m
noncomputable def sf_297_104 (x1 : Int32) (x3 : Int32) (x4 : Int32) (x5 : Int32) (y1 : Int64) (m : sh_X) : Option (Bool × sh_X) :=
  if sh_okb x1 9000 = true then
    sh_bn (sf_292 x5 (m.I 75 (Int32.toNatClampNeg x1)) ⟨m.T, sh_u2 (sh_u2 m.I 66 43 x3) 66 44 x4, sh_u2 m.J 66 46 y1, m.s⟩) fun r1 m11 =>
    some ((r1, m11))
  else none
noncomputable def sf_297 (x1 : Int32) (m : sh_X) : Option (Bool × sh_X) :=
  if sh_okb x1 9000 = true then
    sh_bn (sf_298 (m.I 74 (Int32.toNatClampNeg x1)) m) fun r1 m11 =>
    if r1 = true then
      if 0 < (m11.I 66 45) then
        if sh_okb x1 9000 = true then
          if sh_okb (m11.I 75 (Int32.toNatClampNeg x1)) 4002 = true then
            sh_bn (sf_252 4 (m11.I 69 (Int32.toNatClampNeg (m11.I 75 (Int32.toNatClampNeg x1)))) m11) fun r2 m12 =>
            some ((r2, m12))
          else none
        else none
      else
        if sh_okb x1 9000 = true then
          sh_bc (sf_285 (m11.I 73 (Int32.toNatClampNeg x1)) m11) fun r3 =>
          if (r3 / 64) = 0 then
            if (m11.J 66 46) = 0 then
              sf_297_104 x1 (r3 / 64) ((r3 - r3 / 64 * 64) + 1) (((r3 - r3 / 64 * 64) + 1) + (m11.I 66 44)) 0 m11
            else
              sf_297_104 x1 (r3 / 64) ((r3 - r3 / 64 * 64) + 1) (((r3 - r3 / 64 * 64) + 1) + (m11.I 66 44)) 1 m11
          else
            sf_297_104 x1 (r3 / 64) ((r3 - r3 / 64 * 64) + 1) (((r3 - r3 / 64 * 64) + 1) + (m11.I 66 44)) (sf_288 (r3 / 64) ((r3 - r3 / 64 * 64) + 1) (m11.J 66 46)) m11
        else none
    else
      some ((false, m11))
  else none
noncomputable def sf_301_51 (x2 : Int32) (m : sh_X) : Option (Bool × sh_X) :=
  if sh_okb x2 4002 = true then
    sh_bn (sf_252 4 (m.I 69 (Int32.toNatClampNeg x2)) m) fun r1 m11 =>
    some ((r1, m11))
  else none
noncomputable def sf_301_133 (x2 : Int32) (m : sh_X) : Option (Bool × sh_X) :=
  if sh_okb x2 4002 = true then
    sh_bn (sf_252 4 (m.I 69 (Int32.toNatClampNeg x2)) m) fun r1 m11 =>
    some ((r1, m11))
  else none
noncomputable def sf_301_145 (x2 : Int32) (m : sh_X) : Option (Bool × sh_X) :=
  if (m.I 66 43) = 0 then
    sh_bn (sf_292 1 x2 ⟨m.T, m.I, sh_u2 m.J 66 46 ((1 : Int64) - (m.J 66 46)), m.s⟩) fun r1 m11 =>
    some ((r1, m11))
  else
    sh_bn (sf_292 (m.I 66 44) x2 ⟨m.T, m.I, sh_u2 m.J 66 46 (sf_288 (m.I 66 43) (m.I 66 44) ((m.J 66 46) ^^^ (-1 : Int64))), m.s⟩) fun r3 m13 =>
    some ((r3, m13))
noncomputable def sf_301 (x1 : Int32) (m : sh_X) : Option (Bool × sh_X) :=
  if sh_okb x1 9000 = true then
    if sh_okb (m.I 73 (Int32.toNatClampNeg x1)) 4002 = true then
      if (m.I 68 (Int32.toNatClampNeg (m.I 73 (Int32.toNatClampNeg x1)))) = 45 then
        if (m.I 66 43) = 3 then
          some ((true, ⟨m.T, m.I, sh_u2 m.J 66 46 (-(m.J 66 46)), m.s⟩))
        else
          if (m.I 66 43) = 0 then
            sf_301_51 (m.I 73 (Int32.toNatClampNeg x1)) m
          else
            if 0 < (m.I 66 45) then
              sf_301_51 (m.I 73 (Int32.toNatClampNeg x1)) m
            else
              sh_bn (sf_292 (m.I 66 44) (m.I 73 (Int32.toNatClampNeg x1)) ⟨m.T, m.I, sh_u2 m.J 66 46 (sf_288 (m.I 66 43) (m.I 66 44) (-(m.J 66 46))), m.s⟩) fun r2 m12 =>
              some ((r2, m12))
      else
        if sh_okb x1 9000 = true then
          sh_bn (sf_298 (m.I 74 (Int32.toNatClampNeg x1)) m) fun r3 m13 =>
          if r3 = true then
            if 0 < (m13.I 66 45) then
              sf_301_133 (m.I 73 (Int32.toNatClampNeg x1)) m13
            else
              if sh_okb (m.I 73 (Int32.toNatClampNeg x1)) 4002 = true then
                if (m13.I 68 (Int32.toNatClampNeg (m.I 73 (Int32.toNatClampNeg x1)))) = 33 then
                  if (m13.I 66 43) = 0 then
                    sf_301_145 (m.I 73 (Int32.toNatClampNeg x1)) m13
                  else
                    sf_301_133 (m.I 73 (Int32.toNatClampNeg x1)) m13
                else
                  sf_301_145 (m.I 73 (Int32.toNatClampNeg x1)) m13
              else none
          else
            some ((false, m13))
        else none
    else none
  else none
noncomputable def sf_296 (x1 : Int32) (m : sh_X) : Option (Bool × sh_X) :=
  if sh_okb ((m.I 66 73) - 1) 9000 = true then
    if (m.I 106 (Int32.toNatClampNeg ((m.I 66 73) - 1))) = 0 then
      if sh_okb ((m.I 66 73) - 1) 9000 = true then
        if sh_okb x1 9000 = true then
          sh_bn (sf_295 (m.I 74 (Int32.toNatClampNeg x1)) ⟨m.T, sh_u2 m.I 106 (Int32.toNatClampNeg ((m.I 66 73) - 1)) 1, m.J, m.s⟩) fun _ m11 =>
          some ((true, m11))
        else none
      else none
    else
      if sh_okb x1 9000 = true then
        if (m.I 72 (Int32.toNatClampNeg x1)) = 6 then
          sh_bn (sf_297 x1 ⟨m.T, sh_u2 m.I 66 73 ((m.I 66 73) - 1), m.J, m.s⟩) fun r2 m12 =>
          some ((r2, m12))
        else
          sh_bn (sf_301 x1 ⟨m.T, sh_u2 m.I 66 73 ((m.I 66 73) - 1), m.J, m.s⟩) fun r3 m13 =>
          some ((r3, m13))
      else none
  else none
noncomputable def sf_304_118 (x1 : Int32) (m : sh_X) : Option (Bool × sh_X) :=
  if sh_okb x1 9000 = true then
    if sh_okb (m.I 73 (Int32.toNatClampNeg x1)) 4002 = true then
      sh_bn (sf_252 4 (m.I 69 (Int32.toNatClampNeg (m.I 73 (Int32.toNatClampNeg x1)))) m) fun r1 m11 =>
      some ((r1, m11))
    else none
  else none
noncomputable def sf_304_329 (x1 : Int32) (y1 : Int32) (m : sh_X) : Option (Bool × sh_X) :=
  if sh_okb x1 9000 = true then
    sh_bn (sf_292 y1 (m.I 73 (Int32.toNatClampNeg x1)) m) fun r1 m11 =>
    some ((r1, m11))
  else none
noncomputable def sf_304_292 (x1 : Int32) (x7 : Bool) (x10 : Int32) (x16 : Int64) (m : sh_X) : Option (Bool × sh_X) :=
  if x7 = true then
    sf_304_329 x1 (m.I 66 44) ⟨m.T, m.I, sh_u2 m.J 66 46 (sf_288 (m.I 66 43) (m.I 66 44) x16), m.s⟩
  else
    sf_304_329 x1 ((m.I 66 44) * x10) ⟨m.T, m.I, sh_u2 m.J 66 46 (sf_288 (m.I 66 43) (m.I 66 44) x16), m.s⟩
noncomputable def sf_304_225 (x1 : Int32) (x7 : Bool) (x10 : Int32) (y0 : Int64) (m : sh_X) : Option (Bool × sh_X) :=
  sf_304_292 x1 x7 x10 y0 m
noncomputable def sf_304_270 (x1 : Int32) (x7 : Bool) (x10 : Int32) (y0 : Int64) (m : sh_X) : Option (Bool × sh_X) :=
  sf_304_292 x1 x7 x10 y0 m
noncomputable def sf_304_290 (x1 : Int32) (x7 : Bool) (x10 : Int32) (y0 : Int64) (m : sh_X) : Option (Bool × sh_X) :=
  sf_304_292 x1 x7 x10 y0 m
noncomputable def sf_304_189 (x1 : Int32) (x7 : Bool) (x10 : Int32) (x11 : Int64) (x13 : Bool) (y0 : Int64) (m : sh_X) : Option (Bool × sh_X) :=
  if sh_okb x1 9000 = true then
    if sh_okb (m.I 73 (Int32.toNatClampNeg x1)) 4002 = true then
      if (m.I 68 (Int32.toNatClampNeg (m.I 73 (Int32.toNatClampNeg x1)))) = 15420 then
        if x13 = true then
          sf_304_225 x1 x7 x10 0 m
        else
          sf_304_225 x1 x7 x10 ((m.J 66 46) <<< (Int32.toInt64 (Int64.toInt32 x11) &&& 63)) m
      else
        if (m.I 66 43) = 2 then
          if x13 = true then
            if (m.J 66 46) < 0 then
              sf_304_270 x1 x7 x10 (-1) m
            else
              sf_304_270 x1 x7 x10 0 m
          else
            sf_304_270 x1 x7 x10 ((m.J 66 46) >>> (Int32.toInt64 (Int64.toInt32 x11) &&& 63)) m
        else
          if x13 = true then
            sf_304_290 x1 x7 x10 0 m
          else
            sf_304_290 x1 x7 x10 ((y0.toUInt64 >>> ((Int32.toInt64 (Int64.toInt32 x11)).toUInt64 &&& Int64.toUInt64 63)).toInt64) m
    else none
  else none
noncomputable def sf_304_158 (x1 : Int32) (x7 : Bool) (x10 : Int32) (x11 : Int64) (y0 : Bool) (m : sh_X) : Option (Bool × sh_X) :=
  if (m.I 66 44) = 64 then
    sf_304_189 x1 x7 x10 x11 y0 (m.J 66 46) m
  else
    sf_304_189 x1 x7 x10 x11 y0 ((m.J 66 46) &&& (((1 : Int64) <<< (Int32.toInt64 (m.I 66 44) &&& 63)) - (1 : Int64))) m
noncomputable def sf_304_153 (x1 : Int32) (x7 : Bool) (x10 : Int32) (x11 : Int64) (m : sh_X) : Option (Bool × sh_X) :=
  sf_304_158 x1 x7 x10 x11 true m
noncomputable def sf_304_135 (x1 : Int32) (x7 : Bool) (x10 : Int32) (x11 : Int64) (m : sh_X) : Option (Bool × sh_X) :=
  if x11 < 0 then
    sf_304_153 x1 x7 x10 x11 m
  else
    if x11 < (Int32.toInt64 (m.I 66 44)) then
      sf_304_158 x1 x7 x10 x11 false m
    else
      sf_304_153 x1 x7 x10 x11 m
noncomputable def sf_304_95 (x1 : Int32) (x7 : Bool) (x8 : Int32) (x9 : Int32) (x10 : Int32) (x11 : Int64) (m : sh_X) : Option (Bool × sh_X) :=
  if 0 < (m.I 66 45) then
    sf_304_118 x1 m
  else
    if x7 = true then
      sf_304_135 x1 x7 x10 x11 m
    else
      if x8 = 1 then
        if 0 < x9 then
          sf_304_118 x1 m
        else
          sf_304_135 x1 x7 x10 x11 m
      else
        sf_304_118 x1 m
noncomputable def sf_304_13 (x1 : Int32) (x2 : Int32) (x3 : Int32) (x4 : Int32) (x5 : Int64) (y0 : Bool) (m : sh_X) : Option (Bool × sh_X) :=
  if sh_okb x1 9000 = true then
    sh_bn (sf_298 (m.I 74 (Int32.toNatClampNeg x1)) ⟨m.T, sh_u2 (sh_u2 (sh_u2 m.I 66 43 x2) 66 44 x3) 66 45 x4, sh_u2 m.J 66 46 x5, m.s⟩) fun r1 m11 =>
    if r1 = true then
      if (m11.I 66 43) = 0 then
        sf_304_118 x1 m11
      else
        if y0 = true then
          if (m.J 66 46) < 0 then
            sf_304_118 x1 m11
          else
            sf_304_95 x1 y0 (m.I 66 43) (m.I 66 45) (m.I 66 44) (m.J 66 46) m11
        else
          sf_304_95 x1 y0 (m.I 66 43) (m.I 66 45) (m.I 66 44) (m.J 66 46) m11
    else
      some ((false, m11))
  else none
noncomputable def sf_304 (x1 : Int32) (x2 : Int32) (x3 : Int32) (x4 : Int32) (x5 : Int64) (m : sh_X) : Option (Bool × sh_X) :=
  if (m.I 66 43) = 3 then
    sf_304_13 x1 x2 x3 x4 x5 true m
  else
    sf_304_13 x1 x2 x3 x4 x5 false m
noncomputable def sf_306_20 (y1 : Int64) (m : sh_X) : Option (Unit × sh_X) :=
  some (((), ⟨m.T, m.I, sh_u2 m.J 66 46 y1, m.s⟩))
noncomputable def sf_306 (x1 : Bool) (m : sh_X) : Option (Unit × sh_X) :=
  if x1 = true then
    sf_306_20 1 ⟨m.T, sh_u2 (sh_u2 m.I 66 43 0) 66 44 1, m.J, m.s⟩
  else
    sf_306_20 0 ⟨m.T, sh_u2 (sh_u2 m.I 66 43 0) 66 44 1, m.J, m.s⟩
noncomputable def sf_307 (x0 : Int32) (x1 : Int64) (x3 : Int64) : Bool :=
  if x0 = 1 then
    if (x1 ^^^ (-9223372036854775808 : Int64)) < (x3 ^^^ (-9223372036854775808 : Int64)) then
      true
    else
      false
  else
    if x1 < x3 then
      true
    else
      false
noncomputable def sf_308 (x0 : Int32) (x1 : Int64) (x3 : Int64) (m : sh_X) : Option Int64 :=
  if x3 = 0 then
    some ((-1))
  else
    if x0 = 2 then
      if x3 = (-1) then
        some (-x1)
      else
        if ¬ x3 = 0 then
          some (x1 / x3)
        else none
    else
      if x3 < 0 then
        if (sf_307 1 x1 x3) = true then
          some (0)
        else
          some (1)
      else
        if x1 < 0 then
          if ¬ x3 = 0 then
            if (sf_307 1 (x1 - (((((x1.toUInt64 >>> ((Int32.toInt64 1).toUInt64 &&& Int64.toUInt64 63)).toInt64) / x3) <<< (Int32.toInt64 1 &&& 63)) * x3)) x3) = true then
              some ((((x1.toUInt64 >>> ((Int32.toInt64 1).toUInt64 &&& Int64.toUInt64 63)).toInt64) / x3) <<< (Int32.toInt64 1 &&& 63))
            else
              some (((((x1.toUInt64 >>> ((Int32.toInt64 1).toUInt64 &&& Int64.toUInt64 63)).toInt64) / x3) <<< (Int32.toInt64 1 &&& 63)) + (1 : Int64))
          else none
        else
          if ¬ x3 = 0 then
            some (x1 / x3)
          else none
noncomputable def sf_305_150 (x3 : Int32) (x4 : Int64) (x6 : Int64) (y1 : Int32) (m : sh_X) : Option (Unit × sh_X) :=
  some (((), ⟨m.T, m.I, sh_u2 m.J 66 46 (sf_288 y1 x3 (x4 ||| x6)), m.s⟩))
noncomputable def sf_305_175 (x3 : Int32) (x4 : Int64) (x6 : Int64) (y1 : Int32) (m : sh_X) : Option (Unit × sh_X) :=
  some (((), ⟨m.T, m.I, sh_u2 m.J 66 46 (sf_288 y1 x3 (x4 &&& x6)), m.s⟩))
noncomputable def sf_305_200 (x3 : Int32) (x4 : Int64) (x6 : Int64) (y1 : Int32) (m : sh_X) : Option (Unit × sh_X) :=
  some (((), ⟨m.T, m.I, sh_u2 m.J 66 46 (sf_288 y1 x3 (x4 ^^^ x6)), m.s⟩))
noncomputable def sf_305_229 (y1 : Bool) (m : sh_X) : Option (Unit × sh_X) :=
  sh_bn (sf_306 y1 m) fun _ m11 =>
  some (((), m11))
noncomputable def sf_305_249 (y1 : Bool) (m : sh_X) : Option (Unit × sh_X) :=
  sh_bn (sf_306 y1 m) fun _ m11 =>
  some (((), m11))
noncomputable def sf_305_302 (y1 : Bool) (m : sh_X) : Option (Unit × sh_X) :=
  sh_bn (sf_306 y1 m) fun _ m11 =>
  some (((), m11))
noncomputable def sf_305_325 (y1 : Bool) (m : sh_X) : Option (Unit × sh_X) :=
  sh_bn (sf_306 y1 m) fun _ m11 =>
  some (((), m11))
noncomputable def sf_305_431 (y1 : Int32) (y2 : Int32) (y3 : Int64) (m : sh_X) : Option (Unit × sh_X) :=
  some (((), ⟨m.T, m.I, sh_u2 m.J 66 46 (sf_288 y1 y2 y3), m.s⟩))
noncomputable def sf_305 (x1 : Int32) (x2 : Int32) (x3 : Int32) (x4 : Int64) (x6 : Int64) (m : sh_X) : Option (Unit × sh_X) :=
  if x1 = 38 ∨ x1 = 9766 then
    if x2 = 0 then
      sf_305_175 x3 x4 x6 1 ⟨m.T, sh_u2 (sh_u2 m.I 66 43 x2) 66 44 x3, m.J, m.s⟩
    else
      sf_305_175 x3 x4 x6 x2 ⟨m.T, sh_u2 (sh_u2 m.I 66 43 x2) 66 44 x3, m.J, m.s⟩
  else
  if x1 = 42 then
    some (((), ⟨m.T, sh_u2 (sh_u2 m.I 66 43 x2) 66 44 x3, sh_u2 m.J 66 46 (sf_288 x2 x3 (x4 * x6)), m.s⟩))
  else
  if x1 = 43 then
    some (((), ⟨m.T, sh_u2 (sh_u2 m.I 66 43 x2) 66 44 x3, sh_u2 m.J 66 46 (sf_288 x2 x3 (x4 + x6)), m.s⟩))
  else
  if x1 = 45 then
    some (((), ⟨m.T, sh_u2 (sh_u2 m.I 66 43 x2) 66 44 x3, sh_u2 m.J 66 46 (sf_288 x2 x3 (x4 - x6)), m.s⟩))
  else
  if x1 = 47 then
    sh_bc (sf_308 x2 x4 x6 ⟨m.T, sh_u2 (sh_u2 m.I 66 43 x2) 66 44 x3, m.J, m.s⟩) fun r4 =>
    some (((), ⟨m.T, sh_u2 (sh_u2 m.I 66 43 x2) 66 44 x3, sh_u2 m.J 66 46 (sf_288 x2 x3 r4), m.s⟩))
  else
  if x1 = 60 then
    sh_bn (sf_306 (sf_307 x2 x4 x6) ⟨m.T, sh_u2 (sh_u2 m.I 66 43 x2) 66 44 x3, m.J, m.s⟩) fun _ m17 =>
    some (((), m17))
  else
  if x1 = 62 then
    sh_bn (sf_306 (sf_307 x2 x6 x4) ⟨m.T, sh_u2 (sh_u2 m.I 66 43 x2) 66 44 x3, m.J, m.s⟩) fun _ m19 =>
    some (((), m19))
  else
  if x1 = 94 then
    if x2 = 0 then
      sf_305_200 x3 x4 x6 1 ⟨m.T, sh_u2 (sh_u2 m.I 66 43 x2) 66 44 x3, m.J, m.s⟩
    else
      sf_305_200 x3 x4 x6 x2 ⟨m.T, sh_u2 (sh_u2 m.I 66 43 x2) 66 44 x3, m.J, m.s⟩
  else
  if x1 = 124 ∨ x1 = 31868 then
    if x2 = 0 then
      sf_305_150 x3 x4 x6 1 ⟨m.T, sh_u2 (sh_u2 m.I 66 43 x2) 66 44 x3, m.J, m.s⟩
    else
      sf_305_150 x3 x4 x6 x2 ⟨m.T, sh_u2 (sh_u2 m.I 66 43 x2) 66 44 x3, m.J, m.s⟩
  else
  if x1 = 8509 then
    if x4 = x6 then
      sf_305_249 false ⟨m.T, sh_u2 (sh_u2 m.I 66 43 x2) 66 44 x3, m.J, m.s⟩
    else
      sf_305_249 true ⟨m.T, sh_u2 (sh_u2 m.I 66 43 x2) 66 44 x3, m.J, m.s⟩
  else
  if x1 = 15421 then
    if (sf_307 x2 x6 x4) = true then
      sf_305_302 false ⟨m.T, sh_u2 (sh_u2 m.I 66 43 x2) 66 44 x3, m.J, m.s⟩
    else
      sf_305_302 true ⟨m.T, sh_u2 (sh_u2 m.I 66 43 x2) 66 44 x3, m.J, m.s⟩
  else
  if x1 = 15677 then
    if x4 = x6 then
      sf_305_229 true ⟨m.T, sh_u2 (sh_u2 m.I 66 43 x2) 66 44 x3, m.J, m.s⟩
    else
      sf_305_229 false ⟨m.T, sh_u2 (sh_u2 m.I 66 43 x2) 66 44 x3, m.J, m.s⟩
  else
  if x1 = 15933 then
    if (sf_307 x2 x4 x6) = true then
      sf_305_325 false ⟨m.T, sh_u2 (sh_u2 m.I 66 43 x2) 66 44 x3, m.J, m.s⟩
    else
      sf_305_325 true ⟨m.T, sh_u2 (sh_u2 m.I 66 43 x2) 66 44 x3, m.J, m.s⟩
  else
    if x6 = 0 then
      sf_305_431 x2 x3 x4 ⟨m.T, sh_u2 (sh_u2 m.I 66 43 x2) 66 44 x3, m.J, m.s⟩
    else
      sh_bc (sf_308 x2 x4 x6 ⟨m.T, sh_u2 (sh_u2 m.I 66 43 x2) 66 44 x3, m.J, m.s⟩) fun r12 =>
      sf_305_431 x2 x3 (x4 - (r12 * x6)) ⟨m.T, sh_u2 (sh_u2 m.I 66 43 x2) 66 44 x3, m.J, m.s⟩
noncomputable def sf_303_369 (x1 : Int32) (x5 : Int64) (x7 : Int32) (x8 : Int32) (x9 : Int32) (y0 : Int32) (m : sh_X) : Option (Bool × sh_X) :=
  sh_bn (sf_305 x7 x8 x9 x5 (m.J 66 46) m) fun _ m11 =>
  if sh_okb x1 9000 = true then
    sh_bn (sf_292 y0 (m11.I 73 (Int32.toNatClampNeg x1)) m11) fun r2 m12 =>
    some ((r2, m12))
  else none
noncomputable def sf_303_357 (x1 : Int32) (x5 : Int64) (x7 : Int32) (x8 : Int32) (x9 : Int32) (m : sh_X) : Option (Bool × sh_X) :=
  sf_303_369 x1 x5 x7 x8 x9 ((2 * x9) * x9) m
noncomputable def sf_303_304 (x1 : Int32) (x5 : Int64) (x7 : Int32) (x8 : Int32) (x9 : Int32) (y0 : Bool) (m : sh_X) : Option (Bool × sh_X) :=
  if y0 = true then
    if x7 = 42 then
      sf_303_369 x1 x5 x7 x8 x9 (x9 * x9) m
    else
      if x7 = 47 then
        sf_303_357 x1 x5 x7 x8 x9 m
      else
        if x7 = 37 then
          sf_303_357 x1 x5 x7 x8 x9 m
        else
          sf_303_369 x1 x5 x7 x8 x9 x9 m
  else
    if sh_okb x1 9000 = true then
      if sh_okb (m.I 73 (Int32.toNatClampNeg x1)) 4002 = true then
        sh_bn (sf_252 4 (m.I 69 (Int32.toNatClampNeg (m.I 73 (Int32.toNatClampNeg x1)))) m) fun r1 m11 =>
        some ((r1, m11))
      else none
    else none
noncomputable def sf_303_299 (x1 : Int32) (x5 : Int64) (x7 : Int32) (x8 : Int32) (x9 : Int32) (m : sh_X) : Option (Bool × sh_X) :=
  sf_303_304 x1 x5 x7 x8 x9 true m
noncomputable def sf_303_303 (x1 : Int32) (x5 : Int64) (x7 : Int32) (x8 : Int32) (x9 : Int32) (m : sh_X) : Option (Bool × sh_X) :=
  sf_303_304 x1 x5 x7 x8 x9 false m
noncomputable def sf_303_266 (x1 : Int32) (x5 : Int64) (x7 : Int32) (x8 : Int32) (x9 : Int32) (x11 : Int32) (x12 : Bool) (y0 : Bool) (m : sh_X) : Option (Bool × sh_X) :=
  if x12 = true then
    if x11 < 3 then
      if y0 = true then
        sf_303_303 x1 x5 x7 x8 x9 m
      else
        sf_303_299 x1 x5 x7 x8 x9 m
    else
      if x11 < 7 then
        sf_303_299 x1 x5 x7 x8 x9 m
      else
        if y0 = true then
          sf_303_299 x1 x5 x7 x8 x9 m
        else
          sf_303_303 x1 x5 x7 x8 x9 m
  else
    sf_303_303 x1 x5 x7 x8 x9 m
noncomputable def sf_303_254 (x1 : Int32) (x5 : Int64) (x7 : Int32) (x8 : Int32) (x9 : Int32) (x11 : Int32) (y0 : Bool) (m : sh_X) : Option (Bool × sh_X) :=
  if x8 = 0 then
    sf_303_266 x1 x5 x7 x8 x9 x11 y0 false m
  else
    sf_303_266 x1 x5 x7 x8 x9 x11 y0 true m
noncomputable def sf_303_253 (x1 : Int32) (x5 : Int64) (x7 : Int32) (x8 : Int32) (x9 : Int32) (x11 : Int32) (m : sh_X) : Option (Bool × sh_X) :=
  sf_303_254 x1 x5 x7 x8 x9 x11 false m
noncomputable def sf_303_219 (x1 : Int32) (x5 : Int64) (x7 : Int32) (x8 : Int32) (x9 : Int32) (x10 : Int32) (x11 : Int32) (m : sh_X) : Option (Bool × sh_X) :=
  if x8 = (m.I 66 43) then
    if x9 = (m.I 66 44) then
      if x10 = 0 then
        if (m.I 66 45) = 0 then
          sf_303_254 x1 x5 x7 x8 x9 x11 true m
        else
          sf_303_253 x1 x5 x7 x8 x9 x11 m
      else
        sf_303_253 x1 x5 x7 x8 x9 x11 m
    else
      sf_303_253 x1 x5 x7 x8 x9 x11 m
  else
    sf_303_253 x1 x5 x7 x8 x9 x11 m
noncomputable def sf_303_190 (x1 : Int32) (x5 : Int64) (x7 : Int32) (x8 : Int32) (x9 : Int32) (x10 : Int32) (x11 : Int32) (m : sh_X) : Option (Bool × sh_X) :=
  if (m.I 66 43) = 3 then
    if sh_okb x1 9000 = true then
      sh_bn (sf_299 (m.I 75 (Int32.toNatClampNeg x1)) x8 x9 x10 m) fun r1 m11 =>
      if r1 = true then
        sf_303_219 x1 x5 x7 x8 x9 x10 x11 m11
      else
        some ((false, m11))
    else none
  else
    sf_303_219 x1 x5 x7 x8 x9 x10 x11 m
noncomputable def sf_303_143 (x1 : Int32) (x5 : Int64) (x7 : Int32) (x11 : Int32) (x13 : Int32) (x14 : Int32) (x15 : Int32) (x16 : Int64) (y1 : Int32) (y2 : Int32) (y3 : Int32) (y4 : Int32) (m : sh_X) : Option (Bool × sh_X) :=
  sh_bn (sf_299 y1 y2 y3 y4 m) fun r1 m11 =>
  if r1 = true then
    sf_303_190 x1 x5 x7 (m11.I 66 43) (m11.I 66 44) 0 x11 ⟨m11.T, sh_u2 (sh_u2 (sh_u2 m11.I 66 43 x13) 66 44 x14) 66 45 x15, sh_u2 m11.J 66 46 x16, m11.s⟩
  else
    some ((false, m11))
noncomputable def sf_303_132 (x1 : Int32) (x5 : Int64) (x7 : Int32) (x11 : Int32) (x12 : Bool) (x13 : Int32) (x14 : Int32) (x15 : Int32) (x16 : Int64) (y1 : Int32) (y2 : Int32) (y3 : Int32) (m : sh_X) : Option (Bool × sh_X) :=
  if x12 = true then
    sf_303_143 x1 x5 x7 x11 x13 x14 x15 x16 y1 y2 y3 x15 m
  else
    sf_303_143 x1 x5 x7 x11 x13 x14 x15 x16 y1 y2 y3 0 m
noncomputable def sf_303_120 (x1 : Int32) (x5 : Int64) (x7 : Int32) (x11 : Int32) (x12 : Bool) (x13 : Int32) (x14 : Int32) (x15 : Int32) (x16 : Int64) (y1 : Int32) (y2 : Int32) (m : sh_X) : Option (Bool × sh_X) :=
  if x12 = true then
    sf_303_132 x1 x5 x7 x11 x12 x13 x14 x15 x16 y1 y2 x14 m
  else
    sf_303_132 x1 x5 x7 x11 x12 x13 x14 x15 x16 y1 y2 32 m
noncomputable def sf_303_70 (x1 : Int32) (x5 : Int64) (x7 : Int32) (x11 : Int32) (y0 : Bool) (m : sh_X) : Option (Bool × sh_X) :=
  if sh_okb x1 9000 = true then
    if y0 = true then
      sf_303_120 x1 x5 x7 x11 y0 (m.I 66 43) (m.I 66 44) (m.I 66 45) (m.J 66 46) (m.I 74 (Int32.toNatClampNeg x1)) (m.I 66 43) ⟨m.T, m.I, sh_u2 m.J 66 46 x5, m.s⟩
    else
      sf_303_120 x1 x5 x7 x11 y0 (m.I 66 43) (m.I 66 44) (m.I 66 45) (m.J 66 46) (m.I 74 (Int32.toNatClampNeg x1)) 2 ⟨m.T, m.I, sh_u2 m.J 66 46 x5, m.s⟩
  else none
noncomputable def sf_303 (x1 : Int32) (x2 : Int32) (x3 : Int32) (x4 : Int32) (x5 : Int64) (m : sh_X) : Option (Bool × sh_X) :=
  if sh_okb x1 9000 = true then
    if sh_okb (m.I 73 (Int32.toNatClampNeg x1)) 4002 = true then
      if (sf_274 (m.I 68 (Int32.toNatClampNeg (m.I 73 (Int32.toNatClampNeg x1))))) = 8 then
        sh_bn (sf_304 x1 x2 x3 x4 x5 m) fun r2 m12 =>
        some ((r2, m12))
      else
        if x2 = 3 then
          if (m.I 66 43) = 3 then
            sf_303_70 x1 x5 (m.I 68 (Int32.toNatClampNeg (m.I 73 (Int32.toNatClampNeg x1)))) (sf_274 (m.I 68 (Int32.toNatClampNeg (m.I 73 (Int32.toNatClampNeg x1))))) false m
          else
            sf_303_70 x1 x5 (m.I 68 (Int32.toNatClampNeg (m.I 73 (Int32.toNatClampNeg x1)))) (sf_274 (m.I 68 (Int32.toNatClampNeg (m.I 73 (Int32.toNatClampNeg x1))))) true m
        else
          sf_303_190 x1 x5 (m.I 68 (Int32.toNatClampNeg (m.I 73 (Int32.toNatClampNeg x1)))) x2 x3 x4 (sf_274 (m.I 68 (Int32.toNatClampNeg (m.I 73 (Int32.toNatClampNeg x1))))) m
    else none
  else none
noncomputable def sf_310_51 (m : sh_X) : Option (Bool × sh_X) :=
  some ((true, m))
noncomputable def sf_310_90 (m : sh_X) : Option (Bool × sh_X) :=
  some ((true, m))
noncomputable def sf_310_71 (x1 : Int32) (m : sh_X) : Option (Bool × sh_X) :=
  if sh_okb x1 9000 = true then
    if sh_okb (m.I 78 (Int32.toNatClampNeg x1)) 4002 = true then
      sh_bn (sf_252 4 (m.I 69 (Int32.toNatClampNeg (m.I 78 (Int32.toNatClampNeg x1)))) m) fun r1 m11 =>
      if r1 = true then
        sf_310_90  m11
      else
        some ((false, m11))
    else none
  else none
noncomputable def sf_310 (x1 : Int32) (m : sh_X) : Option (Bool × sh_X) :=
  if (m.I 66 43) = 3 then
    if (sf_300 2 32 (m.J 66 46)) = true then
      sf_310_51  ⟨m.T, sh_u2 (sh_u2 m.I 66 43 2) 66 44 32, m.J, m.s⟩
    else
      if sh_okb x1 9000 = true then
        if sh_okb (m.I 73 (Int32.toNatClampNeg x1)) 4002 = true then
          sh_bn (sf_252 5 (m.I 69 (Int32.toNatClampNeg (m.I 73 (Int32.toNatClampNeg x1)))) ⟨m.T, sh_u2 (sh_u2 m.I 66 43 2) 66 44 32, m.J, m.s⟩) fun r2 m12 =>
          if r2 = true then
            sf_310_51  m12
          else
            some ((false, m12))
        else none
      else none
  else
    if (m.I 66 43) = 0 then
      sf_310_71 x1 m
    else
      if (m.I 66 45) = 0 then
        sf_310_90  m
      else
        sf_310_71 x1 m
noncomputable def sf_309_101 (x2 : Int32) (x3 : Int32) (y1 : Int64) (m : sh_X) : Option (Bool × sh_X) :=
  some ((true, ⟨m.T, sh_u2 (sh_u2 (sh_u2 m.I 66 43 x2) 66 44 x3) 66 45 0, sh_u2 m.J 66 46 y1, m.s⟩))
noncomputable def sf_309_100 (x2 : Int32) (x3 : Int32) (m : sh_X) : Option (Bool × sh_X) :=
  sf_309_101 x2 x3 0 m
noncomputable def sf_309_49 (x1 : Int32) (x2 : Int32) (x3 : Int32) (x4 : Int32) (x5 : Int32) (y1 : Int32) (m : sh_X) : Option (Bool × sh_X) :=
  if sh_okb x1 9000 = true then
    sh_bn (sf_292 y1 (m.I 73 (Int32.toNatClampNeg x1)) m) fun r1 m11 =>
    if r1 = true then
      if (m11.J 66 46) < 0 then
        sf_309_100 x2 x3 m11
      else
        if (m11.J 66 46) < (Int32.toInt64 x4) then
          if sh_okb (x5 + (Int64.toInt32 (m11.J 66 46))) 80000 = true then
            sf_309_101 x2 x3 (m11.J 92 (Int32.toNatClampNeg (x5 + (Int64.toInt32 (m11.J 66 46))))) m11
          else none
        else
          sf_309_100 x2 x3 m11
    else
      some ((false, m11))
  else none
noncomputable def sf_309_13 (x1 : Int32) (x2 : Int32) (x3 : Int32) (x4 : Int32) (x5 : Int32) (y0 : Bool) (m : sh_X) : Option (Bool × sh_X) :=
  if sh_okb x1 9000 = true then
    sh_bn (sf_310 (m.I 75 (Int32.toNatClampNeg x1)) m) fun r1 m11 =>
    if r1 = true then
      if y0 = true then
        sf_309_49 x1 x2 x3 x4 x5 x3 m11
      else
        sf_309_49 x1 x2 x3 x4 x5 (x4 * (x3 + (m11.I 66 44))) m11
    else
      some ((false, m11))
  else none
noncomputable def sf_309 (x1 : Int32) (x2 : Int32) (x3 : Int32) (x4 : Int32) (x5 : Int32) (m : sh_X) : Option (Bool × sh_X) :=
  if (m.I 66 43) = 3 then
    sf_309_13 x1 x2 x3 x4 x5 true m
  else
    sf_309_13 x1 x2 x3 x4 x5 false m
noncomputable def sf_302_71 (x1 : Int32) (m : sh_X) : Option (Bool × sh_X) :=
  if sh_okb x1 9000 = true then
    if sh_okb (m.I 73 (Int32.toNatClampNeg x1)) 4002 = true then
      sh_bn (sf_252 4 (m.I 69 (Int32.toNatClampNeg (m.I 73 (Int32.toNatClampNeg x1)))) m) fun r1 m11 =>
      some ((r1, m11))
    else none
  else none
noncomputable def sf_302_88 (x1 : Int32) (x2 : Int32) (m : sh_X) : Option (Bool × sh_X) :=
  if sh_okb x2 9000 = true then
    if sh_okb x2 9000 = true then
      if sh_okb x2 9000 = true then
        if sh_okb x2 9000 = true then
          if sh_okb x2 9000 = true then
            if sh_okb x1 9000 = true then
              sh_bn (sf_295 (m.I 75 (Int32.toNatClampNeg x1)) ⟨m.T, sh_u2 (sh_u2 (sh_u2 (sh_u2 m.I 106 (Int32.toNatClampNeg x2) 2) 107 (Int32.toNatClampNeg x2) (m.I 66 43)) 108 (Int32.toNatClampNeg x2) (m.I 66 44)) 109 (Int32.toNatClampNeg x2) (m.I 66 45), sh_u2 m.J 111 (Int32.toNatClampNeg x2) (m.J 66 46), m.s⟩) fun _ m11 =>
              some ((true, m11))
            else none
          else none
        else none
      else none
    else none
  else none
noncomputable def sf_302 (x1 : Int32) (m : sh_X) : Option (Bool × sh_X) :=
  if sh_okb ((m.I 66 73) - 1) 9000 = true then
    if (m.I 106 (Int32.toNatClampNeg ((m.I 66 73) - 1))) = 0 then
      if sh_okb ((m.I 66 73) - 1) 9000 = true then
        if sh_okb x1 9000 = true then
          sh_bn (sf_295 (m.I 74 (Int32.toNatClampNeg x1)) ⟨m.T, sh_u2 m.I 106 (Int32.toNatClampNeg ((m.I 66 73) - 1)) 1, m.J, m.s⟩) fun _ m11 =>
          some ((true, m11))
        else none
      else none
    else
      if sh_okb ((m.I 66 73) - 1) 9000 = true then
        if (m.I 106 (Int32.toNatClampNeg ((m.I 66 73) - 1))) = 1 then
          if sh_okb x1 9000 = true then
            if (m.I 72 (Int32.toNatClampNeg x1)) = 8 then
              if (m.I 66 43) = 3 then
                sf_302_71 x1 m
              else
                if (m.I 66 45) = 0 then
                  sf_302_71 x1 m
                else
                  sf_302_88 x1 ((m.I 66 73) - 1) m
            else
              sf_302_88 x1 ((m.I 66 73) - 1) m
          else none
        else
          if sh_okb x1 9000 = true then
            if (m.I 72 (Int32.toNatClampNeg x1)) = 10 then
              if sh_okb ((m.I 66 73) - 1) 9000 = true then
                if sh_okb ((m.I 66 73) - 1) 9000 = true then
                  if sh_okb ((m.I 66 73) - 1) 9000 = true then
                    if sh_okb ((m.I 66 73) - 1) 9000 = true then
                      sh_bn (sf_303 x1 (m.I 107 (Int32.toNatClampNeg ((m.I 66 73) - 1))) (m.I 108 (Int32.toNatClampNeg ((m.I 66 73) - 1))) (m.I 109 (Int32.toNatClampNeg ((m.I 66 73) - 1))) (m.J 111 (Int32.toNatClampNeg ((m.I 66 73) - 1))) ⟨m.T, sh_u2 m.I 66 73 ((m.I 66 73) - 1), m.J, m.s⟩) fun r2 m12 =>
                      some ((r2, m12))
                    else none
                  else none
                else none
              else none
            else
              if sh_okb ((m.I 66 73) - 1) 9000 = true then
                if sh_okb ((m.I 66 73) - 1) 9000 = true then
                  if sh_okb ((m.I 66 73) - 1) 9000 = true then
                    if sh_okb ((m.I 66 73) - 1) 9000 = true then
                      sh_bn (sf_309 x1 (m.I 107 (Int32.toNatClampNeg ((m.I 66 73) - 1))) (m.I 108 (Int32.toNatClampNeg ((m.I 66 73) - 1))) (m.I 109 (Int32.toNatClampNeg ((m.I 66 73) - 1))) (Int64.toInt32 (m.J 111 (Int32.toNatClampNeg ((m.I 66 73) - 1)))) ⟨m.T, sh_u2 m.I 66 73 ((m.I 66 73) - 1), m.J, m.s⟩) fun r3 m13 =>
                      some ((r3, m13))
                    else none
                  else none
                else none
              else none
          else none
      else none
  else none
noncomputable def sf_312_30 (x1 : Int32) (x2 : Int32) (x3 : Int32) (x4 : Int32) (m : sh_X) : Option ((Int32 × Int32 × sh_X) ⊕ (Bool × sh_X)) :=
  some (.inl (x3, x4 + (-1), m))
noncomputable def sf_312_162 (x1 : Int32) (x2 : Int32) (x4 : Int32) (x5 : Int32) (x6 : Int32) (x7 : Int32) (m : sh_X) : Option ((Int32 × sh_X) ⊕ (Bool × sh_X)) :=
  some (.inl (x7 + 1, m))
noncomputable def sf_312_214 (x1 : Int32) (m : sh_X) : Option (Bool × sh_X) :=
  if sh_okb x1 9000 = true then
    if sh_okb (m.I 73 (Int32.toNatClampNeg x1)) 4002 = true then
      sh_bn (sf_252 4 (m.I 69 (Int32.toNatClampNeg (m.I 73 (Int32.toNatClampNeg x1)))) m) fun r1 m11 =>
      some ((r1, m11))
    else none
  else none
noncomputable def sf_312_299s (x1 : Int32) (x2 : Int32) (x5 : Int32) (x7 : Int32) (x8 : Int32) (m : sh_X) : Option ((Int32 × sh_X) ⊕ (Bool × sh_X)) :=
  if x8 < x7 then
    if sh_okb (x2 + x8) 2000 = true then
      if sh_okb ((m.I 66 41) + x8) 80000 = true then
        some (.inl (x8 + 1, ⟨m.T, m.I, sh_u2 m.J 92 (Int32.toNatClampNeg ((m.I 66 41) + x8)) (m.J 115 (Int32.toNatClampNeg (x2 + x8))), m.s⟩))
      else none
    else none
  else
    if sh_okb x1 9000 = true then
      sh_bn (sf_292 (x7 * x5) (m.I 73 (Int32.toNatClampNeg x1)) ⟨m.T, sh_u2 (sh_u2 m.I 66 41 ((m.I 66 41) + x7)) 66 79 x2, m.J, m.s⟩) fun r1 m11 =>
      some (.inr ((r1, m11)))
    else none
noncomputable def sf_312_299 (x1 : Int32) (x2 : Int32) (x5 : Int32) (x7 : Int32) (x8 : Int32) (m : sh_X) : Option (Bool × sh_X) := sh_while (fun q => sf_312_299s x1 x2 x5 x7 q.1 q.2) (x8, m)
noncomputable def sf_312_171s (x1 : Int32) (x2 : Int32) (x4 : Int32) (x5 : Int32) (x7 : Int32) (m : sh_X) : Option ((Int32 × sh_X) ⊕ (Bool × sh_X)) :=
  if x7 < (m.I 66 79) then
    if sh_okb x7 2000 = true then
      if 0 < (m.I 114 (Int32.toNatClampNeg x7)) then
        sh_up (sf_312_214 x1 m)
      else
        if sh_okb x7 2000 = true then
          if (m.I 112 (Int32.toNatClampNeg x7)) = x4 then
            if sh_okb x7 2000 = true then
              if (m.I 113 (Int32.toNatClampNeg x7)) = x5 then
                some (.inl (x7 + 1, m))
              else
                sh_up (sf_312_214 x1 m)
            else none
          else
            sh_up (sf_312_214 x1 m)
        else none
    else none
  else
    if 32 < ((m.I 66 79) - x2) then
      if sh_okb x1 9000 = true then
        if sh_okb (m.I 73 (Int32.toNatClampNeg x1)) 4002 = true then
          sh_bn (sf_252 4 (m.I 69 (Int32.toNatClampNeg (m.I 73 (Int32.toNatClampNeg x1)))) m) fun r1 m11 =>
          some (.inr ((r1, m11)))
        else none
      else none
    else
      sh_up (sf_312_299 x1 x2 x5 ((m.I 66 79) - x2) 0 ⟨m.T, sh_u2 (sh_u2 (sh_u2 m.I 66 43 x4) 66 44 x5) 66 45 ((m.I 66 79) - x2), sh_u2 m.J 66 46 (Int32.toInt64 (m.I 66 41)), m.s⟩)
noncomputable def sf_312_171 (x1 : Int32) (x2 : Int32) (x4 : Int32) (x5 : Int32) (x7 : Int32) (m : sh_X) : Option (Bool × sh_X) := sh_while (fun q => sf_312_171s x1 x2 x4 x5 q.1 q.2) (x7, m)
noncomputable def sf_312_88s (x1 : Int32) (x2 : Int32) (x4 : Int32) (x5 : Int32) (x6 : Int32) (x7 : Int32) (m : sh_X) : Option ((Int32 × sh_X) ⊕ (Bool × sh_X)) :=
  if x7 < (m.I 66 79) then
    if sh_okb x7 2000 = true then
      if (m.I 112 (Int32.toNatClampNeg x7)) = 3 then
        if sh_okb x7 2000 = true then
          if sh_okb x7 2000 = true then
            sh_bn (sf_299 (m.I 116 (Int32.toNatClampNeg x7)) x4 x5 x6 ⟨m.T, m.I, sh_u2 m.J 66 46 (m.J 115 (Int32.toNatClampNeg x7)), m.s⟩) fun r1 m11 =>
            if r1 = true then
              if sh_okb x7 2000 = true then
                if sh_okb x7 2000 = true then
                  sf_312_162 x1 x2 x4 x5 x6 x7 ⟨m11.T, sh_u2 (sh_u2 m11.I 112 (Int32.toNatClampNeg x7) x4) 113 (Int32.toNatClampNeg x7) x5, m11.J, m11.s⟩
                else none
              else none
            else
              some (.inr ((false, m11)))
          else none
        else none
      else
        sf_312_162 x1 x2 x4 x5 x6 x7 m
    else none
  else
    sh_up (sf_312_171 x1 x2 x4 x5 x2 m)
noncomputable def sf_312_88 (x1 : Int32) (x2 : Int32) (x4 : Int32) (x5 : Int32) (x6 : Int32) (x7 : Int32) (m : sh_X) : Option (Bool × sh_X) := sh_while (fun q => sf_312_88s x1 x2 x4 x5 x6 q.1 q.2) (x7, m)
noncomputable def sf_312_83 (x1 : Int32) (x2 : Int32) (x4 : Int32) (x5 : Int32) (y0 : Int32) (m : sh_X) : Option (Bool × sh_X) :=
  sf_312_88 x1 x2 x4 x5 y0 x2 m
noncomputable def sf_312_67 (x1 : Int32) (x2 : Int32) (x3 : Int32) (x4 : Int32) (y0 : Int32) (m : sh_X) : Option (Bool × sh_X) :=
  if x3 < 0 then
    sf_312_83 x1 x2 x4 y0 0 m
  else
    if sh_okb x3 2000 = true then
      sf_312_83 x1 x2 x4 y0 (m.I 114 (Int32.toNatClampNeg x3)) m
    else none
noncomputable def sf_312_50 (x1 : Int32) (x2 : Int32) (x3 : Int32) (y0 : Int32) (m : sh_X) : Option (Bool × sh_X) :=
  if x3 < 0 then
    sf_312_67 x1 x2 x3 y0 32 m
  else
    if sh_okb x3 2000 = true then
      sf_312_67 x1 x2 x3 y0 (m.I 113 (Int32.toNatClampNeg x3)) m
    else none
noncomputable def sf_312_10s (x1 : Int32) (x2 : Int32) (x3 : Int32) (x4 : Int32) (m : sh_X) : Option ((Int32 × Int32 × sh_X) ⊕ (Bool × sh_X)) :=
  if x4 < x2 then
    if x3 < 0 then
      sh_up (sf_312_50 x1 x2 x3 2 m)
    else
      if sh_okb x3 2000 = true then
        sh_up (sf_312_50 x1 x2 x3 (m.I 112 (Int32.toNatClampNeg x3)) m)
      else none
  else
    if sh_okb x4 2000 = true then
      if (m.I 112 (Int32.toNatClampNeg x4)) = 3 then
        sf_312_30 x1 x2 x3 x4 m
      else
        sf_312_30 x1 x2 x4 x4 m
    else none
noncomputable def sf_312_10 (x1 : Int32) (x2 : Int32) (x3 : Int32) (x4 : Int32) (m : sh_X) : Option (Bool × sh_X) := sh_while (fun q => sf_312_10s x1 x2 q.1 q.2.1 q.2.2) (x3, x4, m)
noncomputable def sf_312 (x1 : Int32) (x2 : Int32) (m : sh_X) : Option (Bool × sh_X) :=
  sf_312_10 x1 x2 (-1) ((m.I 66 79) - 1) m
noncomputable def sf_311_142 (x1 : Int32) (x2 : Int32) (m : sh_X) : Option (Bool × sh_X) :=
  if sh_okb x2 9000 = true then
    if (m.I 110 (Int32.toNatClampNeg x2)) < 0 then
      if sh_okb x2 9000 = true then
        sh_bn (sf_312 x1 (m.I 109 (Int32.toNatClampNeg x2)) ⟨m.T, sh_u2 m.I 66 73 ((m.I 66 73) - 1), m.J, m.s⟩) fun r1 m11 =>
        some ((r1, m11))
      else none
    else
      if sh_okb x2 9000 = true then
        sh_bn (sf_295 (m.I 110 (Int32.toNatClampNeg x2)) m) fun _ m12 =>
        some ((true, m12))
      else none
  else none
noncomputable def sf_311 (x1 : Int32) (m : sh_X) : Option (Bool × sh_X) :=
  if sh_okb ((m.I 66 73) - 1) 9000 = true then
    if (m.I 106 (Int32.toNatClampNeg ((m.I 66 73) - 1))) = 0 then
      if sh_okb ((m.I 66 73) - 1) 9000 = true then
        if sh_okb ((m.I 66 73) - 1) 9000 = true then
          if sh_okb x1 9000 = true then
            if sh_okb ((m.I 66 73) - 1) 9000 = true then
              sf_311_142 x1 ((m.I 66 73) - 1) ⟨m.T, sh_u2 (sh_u2 (sh_u2 m.I 106 (Int32.toNatClampNeg ((m.I 66 73) - 1)) 1) 109 (Int32.toNatClampNeg ((m.I 66 73) - 1)) (m.I 66 79)) 110 (Int32.toNatClampNeg ((m.I 66 73) - 1)) (m.I 74 (Int32.toNatClampNeg x1)), m.J, m.s⟩
            else none
          else none
        else none
      else none
    else
      if sh_okb (m.I 66 79) 2000 = true then
        if sh_okb (m.I 66 79) 2000 = true then
          if sh_okb (m.I 66 79) 2000 = true then
            if sh_okb (m.I 66 79) 2000 = true then
              if sh_okb ((m.I 66 73) - 1) 9000 = true then
                if sh_okb (m.I 66 79) 2000 = true then
                  if sh_okb ((m.I 66 73) - 1) 9000 = true then
                    if sh_okb (m.I 110 (Int32.toNatClampNeg ((m.I 66 73) - 1))) 9000 = true then
                      if sh_okb ((m.I 66 73) - 1) 9000 = true then
                        sf_311_142 x1 ((m.I 66 73) - 1) ⟨m.T, sh_u2 (sh_u2 (sh_u2 (sh_u2 (sh_u2 (sh_u2 m.I 112 (Int32.toNatClampNeg (m.I 66 79)) (m.I 66 43)) 113 (Int32.toNatClampNeg (m.I 66 79)) (m.I 66 44)) 114 (Int32.toNatClampNeg (m.I 66 79)) (m.I 66 45)) 116 (Int32.toNatClampNeg (m.I 66 79)) (m.I 110 (Int32.toNatClampNeg ((m.I 66 73) - 1)))) 66 79 ((m.I 66 79) + 1)) 110 (Int32.toNatClampNeg ((m.I 66 73) - 1)) (m.I 77 (Int32.toNatClampNeg (m.I 110 (Int32.toNatClampNeg ((m.I 66 73) - 1))))), sh_u2 m.J 115 (Int32.toNatClampNeg (m.I 66 79)) (m.J 66 46), m.s⟩
                      else none
                    else none
                  else none
                else none
              else none
            else none
          else none
        else none
      else none
  else none
noncomputable def sf_314_114s (x2 : Int32) (x3 : Int32) (m : sh_X) : Option ((Int32 × sh_X) ⊕ (Bool × sh_X)) :=
  if x3 < (m.I 66 45) then
    if sh_okb x2 3000 = true then
      if sh_okb ((m.I 97 (Int32.toNatClampNeg x2)) + x3) 80000 = true then
        if sh_okb ((m.I 66 41) + x3) 80000 = true then
          some (.inl (x3 + 1, ⟨m.T, m.I, sh_u2 m.J 92 (Int32.toNatClampNeg ((m.I 66 41) + x3)) (m.J 92 (Int32.toNatClampNeg ((m.I 97 (Int32.toNatClampNeg x2)) + x3))), m.s⟩))
        else none
      else none
    else none
  else
    some (.inr ((true, ⟨m.T, sh_u2 m.I 66 41 ((m.I 66 41) + (m.I 66 45)), m.J, m.s⟩)))
noncomputable def sf_314_114 (x2 : Int32) (x3 : Int32) (m : sh_X) : Option (Bool × sh_X) := sh_while (fun q => sf_314_114s x2 q.1 q.2) (x3, m)
noncomputable def sf_314_91 (x2 : Int32) (y1 : Int64) (m : sh_X) : Option (Bool × sh_X) :=
  if (m.I 66 45) = 0 then
    some ((true, ⟨m.T, m.I, sh_u2 m.J 66 46 y1, m.s⟩))
  else
    sf_314_114 x2 0 ⟨m.T, m.I, sh_u2 (sh_u2 m.J 66 46 y1) 66 46 (Int32.toInt64 (m.I 66 41)), m.s⟩
noncomputable def sf_314 (x1 : Int32) (m : sh_X) : Option (Bool × sh_X) :=
  if sh_okb x1 9000 = true then
    sh_bc (sf_284 (m.I 73 (Int32.toNatClampNeg x1)) m) fun r1 =>
    if r1 < 0 then
      if sh_okb x1 9000 = true then
        if sh_okb (m.I 73 (Int32.toNatClampNeg x1)) 4002 = true then
          sh_bn (sf_252 3 (m.I 69 (Int32.toNatClampNeg (m.I 73 (Int32.toNatClampNeg x1)))) m) fun r2 m12 =>
          some ((r2, m12))
        else none
      else none
    else
      if sh_okb r1 3000 = true then
        if sh_okb r1 3000 = true then
          if sh_okb r1 3000 = true then
            if (m.I 94 (Int32.toNatClampNeg r1)) = 3 then
              if sh_okb r1 3000 = true then
                sf_314_91 r1 (m.J 98 (Int32.toNatClampNeg r1)) ⟨m.T, sh_u2 (sh_u2 (sh_u2 m.I 66 43 (m.I 94 (Int32.toNatClampNeg r1))) 66 44 (m.I 95 (Int32.toNatClampNeg r1))) 66 45 (m.I 96 (Int32.toNatClampNeg r1)), m.J, m.s⟩
              else none
            else
              if sh_okb r1 3000 = true then
                if sh_okb (m.I 97 (Int32.toNatClampNeg r1)) 80000 = true then
                  sf_314_91 r1 (m.J 92 (Int32.toNatClampNeg (m.I 97 (Int32.toNatClampNeg r1)))) ⟨m.T, sh_u2 (sh_u2 (sh_u2 m.I 66 43 (m.I 94 (Int32.toNatClampNeg r1))) 66 44 (m.I 95 (Int32.toNatClampNeg r1))) 66 45 (m.I 96 (Int32.toNatClampNeg r1)), m.J, m.s⟩
                else none
              else none
          else none
        else none
      else none
  else none
noncomputable def sf_316_7s (x1 : Int32) (x2 : Int32) (m : sh_X) : Option (Int32 ⊕ Int32) :=
  if x2 < 0 then
    some (.inr ((-1)))
  else
    if sh_okb x2 600 = true then
      sh_bc (sf_279 (m.I 79 (Int32.toNatClampNeg x2)) x1 m) fun r1 =>
      if r1 = true then
        some (.inr (x2))
      else
        some (.inl (x2 + (-1)))
    else none
noncomputable def sf_316_7 (x1 : Int32) (x2 : Int32) (m : sh_X) : Option Int32 := sh_while (fun q => sf_316_7s x1 q m) x2
noncomputable def sf_316 (x1 : Int32) (m : sh_X) : Option Int32 :=
  sf_316_7 x1 ((m.I 66 55) - 1) m
noncomputable def sf_317_62 (m : sh_X) : Option (Bool × sh_X) :=
  some ((true, m))
noncomputable def sf_317_43 (x1 : Int32) (m : sh_X) : Option (Bool × sh_X) :=
  if sh_okb x1 9000 = true then
    if sh_okb (m.I 78 (Int32.toNatClampNeg x1)) 4002 = true then
      sh_bn (sf_252 4 (m.I 69 (Int32.toNatClampNeg (m.I 78 (Int32.toNatClampNeg x1)))) m) fun r1 m11 =>
      if r1 = true then
        sf_317_62  m11
      else
        some ((false, m11))
    else none
  else none
noncomputable def sf_317 (x1 : Int32) (x2 : Int32) (x3 : Int32) (x4 : Int32) (m : sh_X) : Option (Bool × sh_X) :=
  if (m.I 66 43) = 3 then
    sh_bn (sf_299 x1 x2 x3 x4 m) fun r1 m11 =>
    some ((r1, m11))
  else
    if (m.I 66 43) = x2 then
      if (m.I 66 44) = x3 then
        if (m.I 66 45) = x4 then
          sf_317_62  m
        else
          sf_317_43 x1 m
      else
        sf_317_43 x1 m
    else
      sf_317_43 x1 m
noncomputable def sf_318_162 (m : sh_X) : Option (Unit × sh_X) :=
  some (((), ⟨m.T, sh_u2 m.I 66 53 ((m.I 66 53) + 1), m.J, m.s⟩))
noncomputable def sf_318_116s (x2 : Int32) (x3 : Int32) (m : sh_X) : Option ((Int32 × sh_X) ⊕ (Unit × sh_X)) :=
  if x3 < (m.I 66 45) then
    if sh_okb (x2 + x3) 80000 = true then
      if sh_okb ((m.I 66 41) + x3) 80000 = true then
        some (.inl (x3 + 1, ⟨m.T, m.I, sh_u2 m.J 92 (Int32.toNatClampNeg ((m.I 66 41) + x3)) (m.J 92 (Int32.toNatClampNeg (x2 + x3))), m.s⟩))
      else none
    else none
  else
    sh_up (sf_318_162  ⟨m.T, sh_u2 m.I 66 41 ((m.I 66 41) + (m.I 66 45)), m.J, m.s⟩)
noncomputable def sf_318_116 (x2 : Int32) (x3 : Int32) (m : sh_X) : Option (Unit × sh_X) := sh_while (fun q => sf_318_116s x2 q.1 q.2) (x3, m)
noncomputable def sf_318 (x1 : Int32) (m : sh_X) : Option (Unit × sh_X) :=
  if sh_okb (m.I 66 53) 3000 = true then
    if sh_okb (m.I 66 53) 3000 = true then
      if sh_okb (m.I 66 53) 3000 = true then
        if sh_okb (m.I 66 53) 3000 = true then
          if sh_okb (m.I 66 53) 3000 = true then
            if sh_okb (m.I 66 53) 3000 = true then
              if (m.I 66 45) = 0 then
                if sh_okb (m.I 66 41) 80000 = true then
                  sf_318_162  ⟨m.T, sh_u2 (sh_u2 (sh_u2 (sh_u2 (sh_u2 (sh_u2 m.I 93 (Int32.toNatClampNeg (m.I 66 53)) x1) 94 (Int32.toNatClampNeg (m.I 66 53)) (m.I 66 43)) 95 (Int32.toNatClampNeg (m.I 66 53)) (m.I 66 44)) 96 (Int32.toNatClampNeg (m.I 66 53)) (m.I 66 45)) 97 (Int32.toNatClampNeg (m.I 66 53)) (m.I 66 41)) 66 41 ((m.I 66 41) + 1), sh_u2 (sh_u2 m.J 98 (Int32.toNatClampNeg (m.I 66 53)) (m.J 66 46)) 92 (Int32.toNatClampNeg (m.I 66 41)) (m.J 66 46), m.s⟩
                else none
              else
                sf_318_116 (Int64.toInt32 (m.J 66 46)) 0 ⟨m.T, sh_u2 (sh_u2 (sh_u2 (sh_u2 (sh_u2 m.I 93 (Int32.toNatClampNeg (m.I 66 53)) x1) 94 (Int32.toNatClampNeg (m.I 66 53)) (m.I 66 43)) 95 (Int32.toNatClampNeg (m.I 66 53)) (m.I 66 44)) 96 (Int32.toNatClampNeg (m.I 66 53)) (m.I 66 45)) 97 (Int32.toNatClampNeg (m.I 66 53)) (m.I 66 41), sh_u2 m.J 98 (Int32.toNatClampNeg (m.I 66 53)) (m.J 66 46), m.s⟩
            else none
          else none
        else none
      else none
    else none
  else none
abbrev sh_Q279 : Type := (Int32 → sh_X → Option (Bool × sh_X)) × (Int32 → sh_X → Option (Bool × sh_X)) × (Int32 → sh_X → Option (Bool × sh_X)) × (Int32 → sh_X → Option (Bool × sh_X)) × (Int32 → sh_X → Option (Bool × sh_X)) × (Int32 → sh_X → Option (Bool × sh_X)) × (Int32 → sh_X → Option (Bool × sh_X)) × (Int32 → sh_X → Option (Bool × sh_X)) × (Int32 → sh_X → Option (Bool × sh_X)) × (Int32 → sh_X → Option (Bool × sh_X))
abbrev sh_Q279.f290 (Q : sh_Q279) : (Int32 → sh_X → Option (Bool × sh_X)) := Q.1
abbrev sh_Q279.f291 (Q : sh_Q279) : (Int32 → sh_X → Option (Bool × sh_X)) := Q.2.1
abbrev sh_Q279.f293 (Q : sh_Q279) : (Int32 → sh_X → Option (Bool × sh_X)) := Q.2.2.1
abbrev sh_Q279.f294 (Q : sh_Q279) : (Int32 → sh_X → Option (Bool × sh_X)) := Q.2.2.2.1
abbrev sh_Q279.f313 (Q : sh_Q279) : (Int32 → sh_X → Option (Bool × sh_X)) := Q.2.2.2.2.1
abbrev sh_Q279.f315 (Q : sh_Q279) : (Int32 → sh_X → Option (Bool × sh_X)) := Q.2.2.2.2.2.1
abbrev sh_Q279.f319 (Q : sh_Q279) : (Int32 → sh_X → Option (Bool × sh_X)) := Q.2.2.2.2.2.2.1
abbrev sh_Q279.f320 (Q : sh_Q279) : (Int32 → sh_X → Option (Bool × sh_X)) := Q.2.2.2.2.2.2.2.1
abbrev sh_Q279.f321 (Q : sh_Q279) : (Int32 → sh_X → Option (Bool × sh_X)) := Q.2.2.2.2.2.2.2.2.1
abbrev sh_Q279.f322 (Q : sh_Q279) : (Int32 → sh_X → Option (Bool × sh_X)) := Q.2.2.2.2.2.2.2.2.2
noncomputable def sf_290_2s (Q : sh_Q279) (x2 : Int32) (m : sh_X) : Option ((Int32 × sh_X) ⊕ (Bool × sh_X)) :=
  if x2 < 0 then
    some (.inr ((true, m)))
  else
    sh_bn (Q.f291 x2 m) fun r1 m11 =>
    if r1 = true then
      if sh_okb x2 9000 = true then
        some (.inl (m11.I 77 (Int32.toNatClampNeg x2), m11))
      else none
    else
      some (.inr ((false, m11)))
noncomputable def sf_290_2 (Q : sh_Q279) (x2 : Int32) (m : sh_X) : Option (Bool × sh_X) := sh_while (fun q => sf_290_2s Q q.1 q.2) (x2, m)
noncomputable def sf_290 (Q : sh_Q279) (x1 : Int32) (m : sh_X) : Option (Bool × sh_X) :=
  sf_290_2 Q x1 m
noncomputable def sf_291_117 (Q : sh_Q279) (x1 : Int32) (m : sh_X) : Option (Bool × sh_X) :=
  if sh_okb x1 9000 = true then
    if sh_okb (m.I 74 (Int32.toNatClampNeg x1)) 9000 = true then
      if sh_okb (m.I 78 (Int32.toNatClampNeg (m.I 74 (Int32.toNatClampNeg x1)))) 4002 = true then
        sh_bn (sf_252 4 (m.I 69 (Int32.toNatClampNeg (m.I 78 (Int32.toNatClampNeg (m.I 74 (Int32.toNatClampNeg x1)))))) m) fun r1 m11 =>
        some ((r1, m11))
      else none
    else none
  else none
noncomputable def sf_291_223 (Q : sh_Q279) (x1 : Int32) (x4 : Int32) (y1 : Bool) (m : sh_X) : Option (Bool × sh_X) :=
  if sh_okb x1 9000 = true then
    sh_bn (Q.f320 (m.I 76 (Int32.toNatClampNeg x1)) ⟨m.T, sh_u2 m.I 66 57 (sh_b2 y1), m.J, m.s⟩) fun r1 m11 =>
    if r1 = true then
      if x4 = 0 ∨ x4 = 1 then
        some ((true, ⟨m11.T, sh_u2 (sh_u2 m11.I 66 57 x4) 66 56 ((m11.I 66 56) - 1), m11.J, m11.s⟩))
      else none
    else
      some ((false, m11))
  else none
noncomputable def sf_291_222 (Q : sh_Q279) (x1 : Int32) (x4 : Int32) (m : sh_X) : Option (Bool × sh_X) :=
  sf_291_223 Q x1 x4 false m
noncomputable def sf_291_190 (Q : sh_Q279) (x1 : Int32) (x3 : Bool) (x4 : Int32) (y1 : Bool) (m : sh_X) : Option (Bool × sh_X) :=
  if sh_okb x1 9000 = true then
    sh_bn (Q.f320 (m.I 75 (Int32.toNatClampNeg x1)) ⟨m.T, sh_u2 m.I 66 57 (sh_b2 y1), m.J, m.s⟩) fun r1 m11 =>
    if r1 = true then
      if x4 = 0 then
        sf_291_222 Q x1 x4 m11
      else
        if x3 = true then
          sf_291_222 Q x1 x4 m11
        else
          sf_291_223 Q x1 x4 true m11
    else
      some ((false, m11))
  else none
noncomputable def sf_291_189 (Q : sh_Q279) (x1 : Int32) (x3 : Bool) (x4 : Int32) (m : sh_X) : Option (Bool × sh_X) :=
  sf_291_190 Q x1 x3 x4 false m
noncomputable def sf_291_153 (Q : sh_Q279) (x1 : Int32) (x2 : Int32) (y0 : Bool) (m : sh_X) : Option (Bool × sh_X) :=
  if (m.I 66 57) = 0 then
    sf_291_189 Q x1 y0 (m.I 66 57) ⟨m.T, sh_u2 (sh_u2 m.I 66 41 x2) 66 56 ((m.I 66 56) + 1), m.J, m.s⟩
  else
    if y0 = true then
      sf_291_190 Q x1 y0 (m.I 66 57) true ⟨m.T, sh_u2 (sh_u2 m.I 66 41 x2) 66 56 ((m.I 66 56) + 1), m.J, m.s⟩
    else
      sf_291_189 Q x1 y0 (m.I 66 57) ⟨m.T, sh_u2 (sh_u2 m.I 66 41 x2) 66 56 ((m.I 66 56) + 1), m.J, m.s⟩
noncomputable def sf_291 (Q : sh_Q279) (x1 : Int32) (m : sh_X) : Option (Bool × sh_X) :=
  if sh_okb x1 9000 = true then
    sh_bn (sf_292 1 (m.I 73 (Int32.toNatClampNeg x1)) m) fun r1 m11 =>
    if r1 = true then
      if sh_okb x1 9000 = true then
        if (m11.I 72 (Int32.toNatClampNeg x1)) = 20 then
          sh_bn (Q.f293 x1 m11) fun r2 m12 =>
          some ((r2, m12))
        else
        if (m11.I 72 (Int32.toNatClampNeg x1)) = 21 then
          sh_bn (Q.f319 x1 m11) fun r3 m13 =>
          some ((r3, ⟨m13.T, sh_u2 m13.I 66 41 (m11.I 66 41), m13.J, m13.s⟩))
        else
        if (m11.I 72 (Int32.toNatClampNeg x1)) = 22 then
          if sh_okb x1 9000 = true then
            sh_bn (Q.f294 (m11.I 74 (Int32.toNatClampNeg x1)) m11) fun r4 m14 =>
            if r4 = true then
              if sh_okb x1 9000 = true then
                sh_bn (sf_298 (m14.I 74 (Int32.toNatClampNeg x1)) m14) fun r5 m15 =>
                if r5 = true then
                  if (m15.I 66 43) = 0 then
                    if 0 < (m15.I 66 45) then
                      sf_291_117 Q x1 m15
                    else
                      if (m15.J 66 46) = 0 then
                        sf_291_153 Q x1 (m11.I 66 41) false m15
                      else
                        sf_291_153 Q x1 (m11.I 66 41) true m15
                  else
                    sf_291_117 Q x1 m15
                else
                  some ((false, m15))
              else none
            else
              some ((false, m14))
          else none
        else
        if (m11.I 72 (Int32.toNatClampNeg x1)) = 23 then
          sh_bn (Q.f321 x1 m11) fun r6 m16 =>
          some ((r6, m16))
        else
          sh_bn (Q.f322 x1 m11) fun r7 m17 =>
          some ((r7, ⟨m17.T, sh_u2 m17.I 66 41 (m11.I 66 41), m17.J, m17.s⟩))
      else none
    else
      some ((false, m11))
  else none
noncomputable def sf_293_77s (Q : sh_Q279) (x2 : Int32) (x3 : Int32) (x4 : Int32) (x5 : Int32) (m : sh_X) : Option ((Int32 × sh_X) ⊕ (Bool × sh_X)) :=
  if x5 < (m.I 66 45) then
    if sh_okb (x4 + x5) 80000 = true then
      if sh_okb (x2 + x5) 80000 = true then
        some (.inl (x5 + 1, ⟨m.T, m.I, sh_u2 m.J 92 (Int32.toNatClampNeg (x2 + x5)) (m.J 92 (Int32.toNatClampNeg (x4 + x5))), m.s⟩))
      else none
    else none
  else
    if sh_okb (m.I 66 53) 3000 = true then
      if sh_okb (m.I 66 53) 3000 = true then
        if sh_okb (m.I 66 53) 3000 = true then
          if sh_okb (m.I 66 53) 3000 = true then
            if sh_okb (m.I 66 53) 3000 = true then
              some (.inr ((true, ⟨m.T, sh_u2 (sh_u2 (sh_u2 (sh_u2 (sh_u2 (sh_u2 (sh_u2 m.I 66 41 (x2 + (m.I 66 45))) 93 (Int32.toNatClampNeg (m.I 66 53)) x3) 94 (Int32.toNatClampNeg (m.I 66 53)) (m.I 66 43)) 95 (Int32.toNatClampNeg (m.I 66 53)) (m.I 66 44)) 96 (Int32.toNatClampNeg (m.I 66 53)) (m.I 66 45)) 97 (Int32.toNatClampNeg (m.I 66 53)) x2) 66 53 ((m.I 66 53) + 1), m.J, m.s⟩)))
            else none
          else none
        else none
      else none
    else none
noncomputable def sf_293_77 (Q : sh_Q279) (x2 : Int32) (x3 : Int32) (x4 : Int32) (x5 : Int32) (m : sh_X) : Option (Bool × sh_X) := sh_while (fun q => sf_293_77s Q x2 x3 x4 q.1 q.2) (x5, m)
noncomputable def sf_293 (Q : sh_Q279) (x1 : Int32) (m : sh_X) : Option (Bool × sh_X) :=
  if sh_okb x1 9000 = true then
    sh_bn (Q.f294 (m.I 74 (Int32.toNatClampNeg x1)) m) fun r1 m11 =>
    if r1 = true then
      if sh_okb x1 9000 = true then
        sh_bn (sf_298 (m11.I 74 (Int32.toNatClampNeg x1)) m11) fun r2 m12 =>
        if r2 = true then
          if sh_okb x1 9000 = true then
            sh_bc (sf_284 (m12.I 75 (Int32.toNatClampNeg x1)) m12) fun r3 =>
            if r3 < 0 then
              if 0 < (m12.I 66 45) then
                sf_293_77 Q (m.I 66 41) (m12.I 75 (Int32.toNatClampNeg x1)) (Int64.toInt32 (m12.J 66 46)) 0 m12
              else
                sh_bn (sf_318 (m12.I 75 (Int32.toNatClampNeg x1)) ⟨m12.T, sh_u2 m12.I 66 41 (m.I 66 41), m12.J, m12.s⟩) fun _ m14 =>
                some ((true, m14))
            else
              if sh_okb (m12.I 75 (Int32.toNatClampNeg x1)) 4002 = true then
                sh_bn (sf_252 3 (m12.I 69 (Int32.toNatClampNeg (m12.I 75 (Int32.toNatClampNeg x1)))) m12) fun r5 m15 =>
                some ((r5, m15))
              else none
          else none
        else
          some ((false, m12))
      else none
    else
      some ((false, m11))
  else none
noncomputable def sf_294_119 (Q : sh_Q279) (x2 : Int32) (x4 : Bool) (m : sh_X) : Option (sh_X ⊕ (Bool × sh_X)) :=
  if x4 = true then
    some (.inl m)
  else
    some (.inr ((false, m)))
noncomputable def sf_294_10s (Q : sh_Q279) (x2 : Int32) (m : sh_X) : Option (sh_X ⊕ (Bool × sh_X)) :=
  if x2 < (m.I 66 73) then
    if sh_okb ((m.I 66 73) - 1) 9000 = true then
      if sh_okb (m.I 105 (Int32.toNatClampNeg ((m.I 66 73) - 1))) 9000 = true then
        if (m.I 72 (Int32.toNatClampNeg (m.I 105 (Int32.toNatClampNeg ((m.I 66 73) - 1))))) = 6 ∨ (m.I 72 (Int32.toNatClampNeg (m.I 105 (Int32.toNatClampNeg ((m.I 66 73) - 1))))) = 9 then
          sh_bn (sf_296 (m.I 105 (Int32.toNatClampNeg ((m.I 66 73) - 1))) m) fun r1 m11 =>
          sf_294_119 Q x2 r1 m11
        else
        if (m.I 72 (Int32.toNatClampNeg (m.I 105 (Int32.toNatClampNeg ((m.I 66 73) - 1))))) = 7 then
          sh_bn (sf_311 (m.I 105 (Int32.toNatClampNeg ((m.I 66 73) - 1))) m) fun r2 m12 =>
          sf_294_119 Q x2 r2 m12
        else
        if (m.I 72 (Int32.toNatClampNeg (m.I 105 (Int32.toNatClampNeg ((m.I 66 73) - 1))))) = 8 ∨ (m.I 72 (Int32.toNatClampNeg (m.I 105 (Int32.toNatClampNeg ((m.I 66 73) - 1))))) = 10 then
          sh_bn (sf_302 (m.I 105 (Int32.toNatClampNeg ((m.I 66 73) - 1))) m) fun r3 m13 =>
          sf_294_119 Q x2 r3 m13
        else
          sh_bn (Q.f313 (m.I 105 (Int32.toNatClampNeg ((m.I 66 73) - 1))) ⟨m.T, sh_u2 m.I 66 73 ((m.I 66 73) - 1), m.J, m.s⟩) fun r4 m14 =>
          sf_294_119 Q x2 r4 m14
      else none
    else none
  else
    some (.inr ((true, m)))
noncomputable def sf_294_10 (Q : sh_Q279) (x2 : Int32) (m : sh_X) : Option (Bool × sh_X) := sh_while (fun q => sf_294_10s Q x2 q) m
noncomputable def sf_294 (Q : sh_Q279) (x1 : Int32) (m : sh_X) : Option (Bool × sh_X) :=
  sh_bn (sf_295 x1 m) fun _ m11 =>
  sf_294_10 Q (m.I 66 73) m11
noncomputable def sf_313_93 (Q : sh_Q279) (y1 : Int64) (m : sh_X) : Option (Bool × sh_X) :=
  some ((true, ⟨m.T, m.I, sh_u2 m.J 66 46 y1, m.s⟩))
noncomputable def sf_313 (Q : sh_Q279) (x1 : Int32) (m : sh_X) : Option (Bool × sh_X) :=
  if sh_okb x1 9000 = true then
    if (m.I 72 (Int32.toNatClampNeg x1)) = 1 then
      if sh_okb x1 9000 = true then
        sh_bc (sf_281 (m.I 73 (Int32.toNatClampNeg x1)) ⟨m.T, sh_u2 (sh_u2 m.I 66 43 3) 66 45 0, m.J, m.s⟩) fun r1 =>
        some ((true, ⟨m.T, sh_u2 (sh_u2 m.I 66 43 3) 66 45 0, sh_u2 m.J 66 46 r1, m.s⟩))
      else none
    else
    if (m.I 72 (Int32.toNatClampNeg x1)) = 2 ∨ (m.I 72 (Int32.toNatClampNeg x1)) = 3 then
      if sh_okb x1 9000 = true then
        if (m.I 72 (Int32.toNatClampNeg x1)) = 2 then
          sf_313_93 Q 1 ⟨m.T, sh_u2 (sh_u2 (sh_u2 m.I 66 43 0) 66 44 1) 66 45 0, m.J, m.s⟩
        else
          sf_313_93 Q 0 ⟨m.T, sh_u2 (sh_u2 (sh_u2 m.I 66 43 0) 66 44 1) 66 45 0, m.J, m.s⟩
      else none
    else
    if (m.I 72 (Int32.toNatClampNeg x1)) = 4 then
      sh_bn (sf_314 x1 m) fun r2 m12 =>
      some ((r2, m12))
    else
      sh_bn (Q.f315 x1 m) fun r3 m13 =>
      some ((r3, m13))
  else none
noncomputable def sf_315_635 (Q : sh_Q279) (x5 : Int32) (m : sh_X) : Option (Bool × sh_X) :=
  some ((true, ⟨m.T, sh_u2 m.I 66 41 (x5 + (m.I 66 45)), m.J, m.s⟩))
noncomputable def sf_315_586s (Q : sh_Q279) (x5 : Int32) (x12 : Int32) (x13 : Int32) (m : sh_X) : Option ((Int32 × sh_X) ⊕ (Bool × sh_X)) :=
  if x13 < (m.I 66 45) then
    if sh_okb (x12 + x13) 80000 = true then
      if sh_okb (x5 + x13) 80000 = true then
        some (.inl (x13 + 1, ⟨m.T, m.I, sh_u2 m.J 92 (Int32.toNatClampNeg (x5 + x13)) (m.J 92 (Int32.toNatClampNeg (x12 + x13))), m.s⟩))
      else none
    else none
  else
    if 0 < (m.I 66 45) then
      sh_up (sf_315_635 Q x5 ⟨m.T, m.I, sh_u2 m.J 66 46 (Int32.toInt64 x5), m.s⟩)
    else
      sh_up (sf_315_635 Q x5 m)
noncomputable def sf_315_586 (Q : sh_Q279) (x5 : Int32) (x12 : Int32) (x13 : Int32) (m : sh_X) : Option (Bool × sh_X) := sh_while (fun q => sf_315_586s Q x5 x12 q.1 q.2) (x13, m)
noncomputable def sf_315_484 (Q : sh_Q279) (x2 : Int32) (x5 : Int32) (x7 : Int32) (x8 : Int32) (x9 : Int32) (y0 : Bool) (m : sh_X) : Option (Bool × sh_X) :=
  if sh_okb x2 600 = true then
    sh_bc (sf_285 (m.I 84 (Int32.toNatClampNeg x2)) m) fun r1 =>
    if y0 = true then
      if sh_okb x2 600 = true then
        if sh_okb x2 600 = true then
          sh_bc (sf_286 (m.I 85 (Int32.toNatClampNeg x2)) m) fun r2 =>
          sh_bn (sf_317 (m.I 87 (Int32.toNatClampNeg x2)) (r1 / 64) ((r1 - r1 / 64 * 64) + 1) r2 m) fun r3 m13 =>
          if r3 = true then
            sf_315_586 Q x5 (Int64.toInt32 (m13.J 66 46)) 0 ⟨m13.T, sh_u2 (sh_u2 (sh_u2 (sh_u2 (sh_u2 m13.I 66 58 ((m13.I 66 58) - 1)) 66 53 (m13.I 66 54)) 66 54 x7) 66 55 x8) 66 59 x9, m13.J, m13.s⟩
          else
            some ((false, m13))
        else none
      else none
    else
      some ((false, m))
  else none
noncomputable def sf_315_483 (Q : sh_Q279) (x2 : Int32) (x5 : Int32) (x7 : Int32) (x8 : Int32) (x9 : Int32) (m : sh_X) : Option (Bool × sh_X) :=
  sf_315_484 Q x2 x5 x7 x8 x9 false m
noncomputable def sf_315_363s (Q : sh_Q279) (x2 : Int32) (x3 : Int32) (x5 : Int32) (x6 : Int32) (x7 : Int32) (x8 : Int32) (x9 : Int32) (x10 : Int32) (m : sh_X) : Option ((Int32 × sh_X) ⊕ (Bool × sh_X)) :=
  if x10 < x3 then
    if sh_okb (x6 + x10) 2000 = true then
      if sh_okb (x6 + x10) 2000 = true then
        if sh_okb (x6 + x10) 2000 = true then
          if sh_okb (x6 + x10) 2000 = true then
            if sh_okb ((8 * x2) + x10) 4800 = true then
              sh_bn (sf_318 (m.I 81 (Int32.toNatClampNeg ((8 * x2) + x10))) ⟨m.T, sh_u2 (sh_u2 (sh_u2 m.I 66 43 (m.I 112 (Int32.toNatClampNeg (x6 + x10)))) 66 44 (m.I 113 (Int32.toNatClampNeg (x6 + x10)))) 66 45 (m.I 114 (Int32.toNatClampNeg (x6 + x10))), sh_u2 m.J 66 46 (m.J 115 (Int32.toNatClampNeg (x6 + x10))), m.s⟩) fun _ m11 =>
              some (.inl (x10 + 1, m11))
            else none
          else none
        else none
      else none
    else none
  else
    if sh_okb x2 600 = true then
      sh_bn (Q.f290 (m.I 86 (Int32.toNatClampNeg x2)) ⟨m.T, sh_u2 m.I 66 79 x6, m.J, m.s⟩) fun r2 m12 =>
      if r2 = true then
        if sh_okb x2 600 = true then
          sh_bn (Q.f294 (m12.I 87 (Int32.toNatClampNeg x2)) m12) fun r3 m13 =>
          if r3 = true then
            sh_up (sf_315_484 Q x2 x5 x7 x8 x9 true m13)
          else
            sh_up (sf_315_483 Q x2 x5 x7 x8 x9 m13)
        else none
      else
        sh_up (sf_315_483 Q x2 x5 x7 x8 x9 m12)
    else none
noncomputable def sf_315_363 (Q : sh_Q279) (x2 : Int32) (x3 : Int32) (x5 : Int32) (x6 : Int32) (x7 : Int32) (x8 : Int32) (x9 : Int32) (x10 : Int32) (m : sh_X) : Option (Bool × sh_X) := sh_while (fun q => sf_315_363s Q x2 x3 x5 x6 x7 x8 x9 q.1 q.2) (x10, m)
noncomputable def sf_315_177s (Q : sh_Q279) (x2 : Int32) (x3 : Int32) (x4 : Int32) (x5 : Int32) (x6 : Int32) (x7 : Int32) (m : sh_X) : Option ((Int32 × Int32 × sh_X) ⊕ (Bool × sh_X)) :=
  if x7 < 0 then
    sh_up (sf_315_363 Q x2 x3 x5 x6 (m.I 66 54) (m.I 66 55) (m.I 66 59) 0 ⟨m.T, sh_u2 (sh_u2 (sh_u2 m.I 66 54 (m.I 66 53)) 66 55 x2) 66 59 x4, m.J, m.s⟩)
  else
    if sh_okb ((8 * x2) + x3) 4800 = true then
      sh_bc (sf_285 (m.I 82 (Int32.toNatClampNeg ((8 * x2) + x3))) m) fun r1 =>
      sh_bn (Q.f294 x7 m) fun r2 m12 =>
      if r2 = true then
        if sh_okb ((8 * x2) + x3) 4800 = true then
          sh_bc (sf_286 (m12.I 83 (Int32.toNatClampNeg ((8 * x2) + x3))) m12) fun r3 =>
          sh_bn (sf_317 x7 (r1 / 64) ((r1 - r1 / 64 * 64) + 1) r3 m12) fun r4 m14 =>
          if r4 = true then
            if sh_okb (m14.I 66 79) 2000 = true then
              if sh_okb (m14.I 66 79) 2000 = true then
                if sh_okb (m14.I 66 79) 2000 = true then
                  if sh_okb (m14.I 66 79) 2000 = true then
                    if sh_okb x7 9000 = true then
                      some (.inl (x3 + 1, m14.I 77 (Int32.toNatClampNeg x7), ⟨m14.T, sh_u2 (sh_u2 (sh_u2 (sh_u2 m14.I 112 (Int32.toNatClampNeg (m14.I 66 79)) (m14.I 66 43)) 113 (Int32.toNatClampNeg (m14.I 66 79)) (m14.I 66 44)) 114 (Int32.toNatClampNeg (m14.I 66 79)) (m14.I 66 45)) 66 79 ((m14.I 66 79) + 1), sh_u2 m14.J 115 (Int32.toNatClampNeg (m14.I 66 79)) (m14.J 66 46), m14.s⟩))
                    else none
                  else none
                else none
              else none
            else none
          else
            some (.inr ((false, m14)))
        else none
      else
        some (.inr ((false, m12)))
    else none
noncomputable def sf_315_177 (Q : sh_Q279) (x2 : Int32) (x3 : Int32) (x4 : Int32) (x5 : Int32) (x6 : Int32) (x7 : Int32) (m : sh_X) : Option (Bool × sh_X) := sh_while (fun q => sf_315_177s Q x2 q.1 x4 x5 x6 q.2.1 q.2.2) (x3, x7, m)
noncomputable def sf_315_42s (Q : sh_Q279) (x1 : Int32) (x2 : Int32) (x3 : Int32) (x4 : Int32) (m : sh_X) : Option ((Int32 × Int32 × sh_X) ⊕ (Bool × sh_X)) :=
  if x4 < 0 then
    if sh_okb x2 600 = true then
      if x3 = (m.I 80 (Int32.toNatClampNeg x2)) then
        if sh_okb x1 9000 = true then
          if 20 < ((m.I 66 59) + (m.I 75 (Int32.toNatClampNeg x1))) then
            if sh_okb x1 9000 = true then
              if sh_okb (m.I 73 (Int32.toNatClampNeg x1)) 4002 = true then
                sh_bn (sf_252 6 (m.I 69 (Int32.toNatClampNeg (m.I 73 (Int32.toNatClampNeg x1)))) m) fun r1 m11 =>
                some (.inr ((r1, m11)))
              else none
            else none
          else
            if sh_okb x1 9000 = true then
              sh_bn (sf_292 (1 + x3) (m.I 73 (Int32.toNatClampNeg x1)) m) fun r2 m12 =>
              if r2 = true then
                if sh_okb x1 9000 = true then
                  sh_up (sf_315_177 Q x2 0 ((m.I 66 59) + (m.I 75 (Int32.toNatClampNeg x1))) (m12.I 66 41) (m12.I 66 79) (m12.I 74 (Int32.toNatClampNeg x1)) ⟨m12.T, sh_u2 m12.I 66 58 ((m12.I 66 58) + 1), m12.J, m12.s⟩)
                else none
              else
                some (.inr ((false, m12)))
            else none
        else none
      else
        if sh_okb x1 9000 = true then
          if sh_okb (m.I 73 (Int32.toNatClampNeg x1)) 4002 = true then
            sh_bn (sf_252 4 (m.I 69 (Int32.toNatClampNeg (m.I 73 (Int32.toNatClampNeg x1)))) m) fun r3 m13 =>
            some (.inr ((r3, m13)))
          else none
        else none
    else none
  else
    if sh_okb x4 9000 = true then
      some (.inl (x3 + 1, m.I 77 (Int32.toNatClampNeg x4), m))
    else none
noncomputable def sf_315_42 (Q : sh_Q279) (x1 : Int32) (x2 : Int32) (x3 : Int32) (x4 : Int32) (m : sh_X) : Option (Bool × sh_X) := sh_while (fun q => sf_315_42s Q x1 x2 q.1 q.2.1 q.2.2) (x3, x4, m)
noncomputable def sf_315 (Q : sh_Q279) (x1 : Int32) (m : sh_X) : Option (Bool × sh_X) :=
  if sh_okb x1 9000 = true then
    sh_bc (sf_316 (m.I 73 (Int32.toNatClampNeg x1)) m) fun r1 =>
    if r1 < 0 then
      if sh_okb x1 9000 = true then
        if sh_okb (m.I 73 (Int32.toNatClampNeg x1)) 4002 = true then
          sh_bn (sf_252 3 (m.I 69 (Int32.toNatClampNeg (m.I 73 (Int32.toNatClampNeg x1)))) m) fun r2 m12 =>
          some ((r2, m12))
        else none
      else none
    else
      if sh_okb x1 9000 = true then
        sf_315_42 Q x1 r1 0 (m.I 74 (Int32.toNatClampNeg x1)) m
      else none
  else none
noncomputable def sf_319_189s (Q : sh_Q279) (x3 : Int32) (x5 : Int32) (m : sh_X) : Option ((Int32 × sh_X) ⊕ (Bool × sh_X)) :=
  if sh_okb x3 3000 = true then
    if x5 < (m.I 96 (Int32.toNatClampNeg x3)) then
      if sh_okb x3 3000 = true then
        if sh_okb ((Int64.toInt32 (m.J 66 46)) + x5) 80000 = true then
          if sh_okb ((m.I 97 (Int32.toNatClampNeg x3)) + x5) 80000 = true then
            some (.inl (x5 + 1, ⟨m.T, m.I, sh_u2 m.J 92 (Int32.toNatClampNeg ((m.I 97 (Int32.toNatClampNeg x3)) + x5)) (m.J 92 (Int32.toNatClampNeg ((Int64.toInt32 (m.J 66 46)) + x5))), m.s⟩))
          else none
        else none
      else none
    else
      some (.inr ((true, m)))
  else none
noncomputable def sf_319_189 (Q : sh_Q279) (x3 : Int32) (x5 : Int32) (m : sh_X) : Option (Bool × sh_X) := sh_while (fun q => sf_319_189s Q x3 q.1 q.2) (x5, m)
noncomputable def sf_319_186 (Q : sh_Q279) (x3 : Int32) (m : sh_X) : Option (Bool × sh_X) :=
  sf_319_189 Q x3 0 m
noncomputable def sf_319_153 (Q : sh_Q279) (x3 : Int32) (m : sh_X) : Option (Bool × sh_X) :=
  if (m.I 66 57) = 0 then
    some ((true, m))
  else
    if sh_okb x3 3000 = true then
      if (m.I 96 (Int32.toNatClampNeg x3)) = 0 then
        if sh_okb x3 3000 = true then
          if sh_okb (m.I 97 (Int32.toNatClampNeg x3)) 80000 = true then
            sf_319_186 Q x3 ⟨m.T, m.I, sh_u2 m.J 92 (Int32.toNatClampNeg (m.I 97 (Int32.toNatClampNeg x3))) (m.J 66 46), m.s⟩
          else none
        else none
      else
        sf_319_186 Q x3 m
    else none
noncomputable def sf_319_419 (Q : sh_Q279) (x3 : Int32) (x6 : Int64) (m : sh_X) : Option (Bool × sh_X) :=
  if (m.I 66 57) = 0 then
    some ((true, m))
  else
    if x6 < 0 then
      some ((true, m))
    else
      if sh_okb x3 3000 = true then
        if x6 < (Int32.toInt64 (m.I 96 (Int32.toNatClampNeg x3))) then
          if sh_okb x3 3000 = true then
            if sh_okb ((m.I 97 (Int32.toNatClampNeg x3)) + (Int64.toInt32 x6)) 80000 = true then
              some ((true, ⟨m.T, m.I, sh_u2 m.J 92 (Int32.toNatClampNeg ((m.I 97 (Int32.toNatClampNeg x3)) + (Int64.toInt32 x6))) (m.J 66 46), m.s⟩))
            else none
          else none
        else
          some ((true, m))
      else none
noncomputable def sf_319_340 (Q : sh_Q279) (x1 : Int32) (x2 : Int32) (x3 : Int32) (x4 : Int32) (x6 : Int64) (y0 : Int32) (m : sh_X) : Option (Bool × sh_X) :=
  if sh_okb x1 9000 = true then
    sh_bn (Q.f294 (m.I 74 (Int32.toNatClampNeg x1)) m) fun r1 m11 =>
    if r1 = true then
      if sh_okb x1 9000 = true then
        if sh_okb x3 3000 = true then
          if sh_okb x3 3000 = true then
            sh_bn (sf_317 (m11.I 74 (Int32.toNatClampNeg x1)) (m11.I 94 (Int32.toNatClampNeg x3)) (m11.I 95 (Int32.toNatClampNeg x3)) 0 m11) fun r2 m12 =>
            if r2 = true then
              if sh_okb x1 9000 = true then
                sh_bn (sf_292 y0 (m12.I 76 (Int32.toNatClampNeg x1)) m12) fun r3 m13 =>
                if r3 = true then
                  if 0 < (m13.I 66 56) then
                    sh_bn (sf_292 x4 x2 m13) fun r4 m14 =>
                    if r4 = true then
                      sf_319_419 Q x3 x6 m14
                    else
                      some ((false, m14))
                  else
                    sf_319_419 Q x3 x6 m13
                else
                  some ((false, m13))
              else none
            else
              some ((false, m12))
          else none
        else none
      else none
    else
      some ((false, m11))
  else none
noncomputable def sf_319_289 (Q : sh_Q279) (x1 : Int32) (x2 : Int32) (x3 : Int32) (x4 : Int32) (y0 : Bool) (m : sh_X) : Option (Bool × sh_X) :=
  if sh_okb x1 9000 = true then
    sh_bn (sf_310 (m.I 75 (Int32.toNatClampNeg x1)) m) fun r1 m11 =>
    if r1 = true then
      if y0 = true then
        sf_319_340 Q x1 x2 x3 x4 (m11.J 66 46) x4 m11
      else
        if sh_okb x3 3000 = true then
          if sh_okb x3 3000 = true then
            sf_319_340 Q x1 x2 x3 x4 (m11.J 66 46) ((m11.I 96 (Int32.toNatClampNeg x3)) * ((m11.I 95 (Int32.toNatClampNeg x3)) + (m11.I 66 44))) m11
          else none
        else none
    else
      some ((false, m11))
  else none
noncomputable def sf_319_76 (Q : sh_Q279) (x1 : Int32) (x2 : Int32) (x3 : Int32) (y0 : Int32) (y1 : Int32) (m : sh_X) : Option (Bool × sh_X) :=
  if sh_okb x1 9000 = true then
    if (m.I 75 (Int32.toNatClampNeg x1)) < 0 then
      if sh_okb x1 9000 = true then
        sh_bn (Q.f294 (m.I 74 (Int32.toNatClampNeg x1)) m) fun r1 m11 =>
        if r1 = true then
          if sh_okb x1 9000 = true then
            if sh_okb x3 3000 = true then
              if sh_okb x3 3000 = true then
                if sh_okb x3 3000 = true then
                  sh_bn (sf_317 (m11.I 74 (Int32.toNatClampNeg x1)) (m11.I 94 (Int32.toNatClampNeg x3)) (m11.I 95 (Int32.toNatClampNeg x3)) (m11.I 96 (Int32.toNatClampNeg x3)) m11) fun r2 m12 =>
                  if r2 = true then
                    if 0 < (m12.I 66 56) then
                      sh_bn (sf_292 (y0 * y1) x2 m12) fun r3 m13 =>
                      if r3 = true then
                        sf_319_153 Q x3 m13
                      else
                        some ((false, m13))
                    else
                      sf_319_153 Q x3 m12
                  else
                    some ((false, m12))
                else none
              else none
            else none
          else none
        else
          some ((false, m11))
      else none
    else
      if sh_okb x3 3000 = true then
        if (m.I 96 (Int32.toNatClampNeg x3)) = 0 then
          if sh_okb x1 9000 = true then
            if sh_okb (m.I 76 (Int32.toNatClampNeg x1)) 4002 = true then
              sh_bn (sf_252 4 (m.I 69 (Int32.toNatClampNeg (m.I 76 (Int32.toNatClampNeg x1)))) m) fun r4 m14 =>
              some ((r4, m14))
            else none
          else none
        else
          if sh_okb x1 9000 = true then
            sh_bn (Q.f294 (m.I 75 (Int32.toNatClampNeg x1)) m) fun r5 m15 =>
            if r5 = true then
              if (m15.I 66 43) = 3 then
                sf_319_289 Q x1 x2 x3 (y0 * y1) true m15
              else
                sf_319_289 Q x1 x2 x3 (y0 * y1) false m15
            else
              some ((false, m15))
          else none
      else none
  else none
noncomputable def sf_319 (Q : sh_Q279) (x1 : Int32) (m : sh_X) : Option (Bool × sh_X) :=
  if sh_okb x1 9000 = true then
    sh_bc (sf_284 (m.I 73 (Int32.toNatClampNeg x1)) m) fun r1 =>
    if r1 < 0 then
      if sh_okb (m.I 73 (Int32.toNatClampNeg x1)) 4002 = true then
        sh_bn (sf_252 3 (m.I 69 (Int32.toNatClampNeg (m.I 73 (Int32.toNatClampNeg x1)))) m) fun r2 m12 =>
        some ((r2, m12))
      else none
    else
      if sh_okb r1 3000 = true then
        if (m.I 94 (Int32.toNatClampNeg r1)) = 3 then
          if sh_okb (m.I 73 (Int32.toNatClampNeg x1)) 4002 = true then
            sh_bn (sf_252 4 (m.I 69 (Int32.toNatClampNeg (m.I 73 (Int32.toNatClampNeg x1)))) m) fun r3 m13 =>
            some ((r3, m13))
          else none
        else
          if sh_okb r1 3000 = true then
            if sh_okb r1 3000 = true then
              if (m.I 96 (Int32.toNatClampNeg r1)) = 0 then
                sf_319_76 Q x1 (m.I 73 (Int32.toNatClampNeg x1)) r1 (m.I 95 (Int32.toNatClampNeg r1)) 1 m
              else
                if sh_okb r1 3000 = true then
                  sf_319_76 Q x1 (m.I 73 (Int32.toNatClampNeg x1)) r1 (m.I 95 (Int32.toNatClampNeg r1)) (m.I 96 (Int32.toNatClampNeg r1)) m
                else none
            else none
          else none
      else none
  else none
noncomputable def sf_320 (Q : sh_Q279) (x1 : Int32) (m : sh_X) : Option (Bool × sh_X) :=
  sh_bn (Q.f290 x1 m) fun r1 m11 =>
  some ((r1, ⟨m11.T, sh_u2 (sh_u2 m11.I 66 53 (m.I 66 53)) 66 41 (m.I 66 41), m11.J, m11.s⟩))
noncomputable def sf_321_78s (Q : sh_Q279) (x1 : Int32) (x2 : Int32) (x5 : Int64) (x7 : Int64) (m : sh_X) : Option ((Int64 × sh_X) ⊕ (Bool × sh_X)) :=
  if x7 < x5 then
    sh_bn (sf_292 1 x2 m) fun r1 m11 =>
    if r1 = true then
      sh_bn (sf_318 x2 ⟨m11.T, sh_u2 (sh_u2 (sh_u2 m11.I 66 43 3) 66 44 0) 66 45 0, sh_u2 m11.J 66 46 x7, m11.s⟩) fun _ m12 =>
      if sh_okb x1 9000 = true then
        sh_bn (Q.f290 (m12.I 74 (Int32.toNatClampNeg x1)) m12) fun r3 m13 =>
        if r3 = true then
          some (.inl (x7 + (1 : Int64), ⟨m13.T, sh_u2 (sh_u2 m13.I 66 53 (m11.I 66 53)) 66 41 (m11.I 66 41), m13.J, m13.s⟩))
        else
          some (.inr ((false, m13)))
      else none
    else
      some (.inr ((false, m11)))
  else
    some (.inr ((true, m)))
noncomputable def sf_321_78 (Q : sh_Q279) (x1 : Int32) (x2 : Int32) (x5 : Int64) (x7 : Int64) (m : sh_X) : Option (Bool × sh_X) := sh_while (fun q => sf_321_78s Q x1 x2 x5 q.1 q.2) (x7, m)
noncomputable def sf_321 (Q : sh_Q279) (x1 : Int32) (m : sh_X) : Option (Bool × sh_X) :=
  if sh_okb x1 9000 = true then
    sh_bc (sf_284 (m.I 75 (Int32.toNatClampNeg x1)) m) fun r1 =>
    if r1 < 0 then
      if sh_okb x1 9000 = true then
        sh_bc (sf_281 (m.I 76 (Int32.toNatClampNeg x1)) m) fun r2 =>
        if sh_okb x1 9000 = true then
          sh_bc (sf_281 ((m.I 76 (Int32.toNatClampNeg x1)) + 2) m) fun r3 =>
          if 256 < (r3 - r2) then
            if sh_okb (m.I 75 (Int32.toNatClampNeg x1)) 4002 = true then
              sh_bn (sf_252 4 (m.I 69 (Int32.toNatClampNeg (m.I 75 (Int32.toNatClampNeg x1)))) m) fun r4 m14 =>
              some ((r4, m14))
            else none
          else
            sf_321_78 Q x1 (m.I 75 (Int32.toNatClampNeg x1)) r3 r2 m
        else none
      else none
    else
      if sh_okb (m.I 75 (Int32.toNatClampNeg x1)) 4002 = true then
        sh_bn (sf_252 3 (m.I 69 (Int32.toNatClampNeg (m.I 75 (Int32.toNatClampNeg x1)))) m) fun r5 m15 =>
        some ((r5, m15))
      else none
  else none
noncomputable def sf_322_14 (Q : sh_Q279) (x1 : Int32) (m : sh_X) : Option (Bool × sh_X) :=
  if sh_okb x1 9000 = true then
    if sh_okb (m.I 73 (Int32.toNatClampNeg x1)) 4002 = true then
      sh_bn (sf_252 4 (m.I 69 (Int32.toNatClampNeg (m.I 73 (Int32.toNatClampNeg x1)))) m) fun r1 m11 =>
      some ((r1, m11))
    else none
  else none
noncomputable def sf_322_167 (Q : sh_Q279) (x2 : Int32) (y1 : Int32) (y2 : Int64) (m : sh_X) : Option ((Int32 × sh_X) ⊕ (Bool × sh_X)) :=
  if sh_okb y1 256 = true then
    sh_bn (sf_289 2 (m.I 66 43) (m.I 66 44) ⟨m.T, m.I, sh_u2 m.J 104 (Int32.toNatClampNeg y1) y2, m.s⟩) fun _ m11 =>
    some (.inl (x2 + 1, m11))
  else none
noncomputable def sf_322_133 (Q : sh_Q279) (x2 : Int32) (y0 : Int64) (m : sh_X) : Option ((Int32 × sh_X) ⊕ (Bool × sh_X)) :=
  if (m.I 66 44) = 64 then
    sf_322_167 Q x2 (m.I 99 2) y0 m
  else
    sf_322_167 Q x2 (m.I 99 2) (y0 &&& (((1 : Int64) <<< (Int32.toInt64 (m.I 66 44) &&& 63)) - (1 : Int64))) m
noncomputable def sf_322_107 (Q : sh_Q279) (x2 : Int32) (m : sh_X) : Option ((Int32 × sh_X) ⊕ (Bool × sh_X)) :=
  if (m.I 66 45) = 0 then
    sf_322_133 Q x2 (m.J 66 46) m
  else
    if sh_okb ((Int64.toInt32 (m.J 66 46)) + x2) 80000 = true then
      sf_322_133 Q x2 (m.J 92 (Int32.toNatClampNeg ((Int64.toInt32 (m.J 66 46)) + x2))) m
    else none
noncomputable def sf_322_95s (Q : sh_Q279) (x2 : Int32) (m : sh_X) : Option ((Int32 × sh_X) ⊕ (Bool × sh_X)) :=
  if x2 = 0 then
    sf_322_107 Q x2 m
  else
    if x2 < (m.I 66 45) then
      sf_322_107 Q x2 m
    else
      some (.inr ((true, m)))
noncomputable def sf_322_95 (Q : sh_Q279) (x2 : Int32) (m : sh_X) : Option (Bool × sh_X) := sh_while (fun q => sf_322_95s Q q.1 q.2) (x2, m)
noncomputable def sf_322 (Q : sh_Q279) (x1 : Int32) (m : sh_X) : Option (Bool × sh_X) :=
  if 0 < (m.I 66 56) then
    sf_322_14 Q x1 m
  else
    if 0 < (m.I 66 58) then
      sf_322_14 Q x1 m
    else
      if sh_okb x1 9000 = true then
        sh_bn (Q.f294 (m.I 74 (Int32.toNatClampNeg x1)) m) fun r1 m11 =>
        if r1 = true then
          if sh_okb x1 9000 = true then
            sh_bn (sf_298 (m11.I 74 (Int32.toNatClampNeg x1)) m11) fun r2 m12 =>
            if r2 = true then
              sh_bc (sf_287 2 (m12.I 66 44) (m12.I 66 45) m12) fun r3 =>
              if r3 = true then
                if sh_okb x1 9000 = true then
                  if sh_okb (m12.I 73 (Int32.toNatClampNeg x1)) 4002 = true then
                    sh_bn (sf_252 6 (m12.I 69 (Int32.toNatClampNeg (m12.I 73 (Int32.toNatClampNeg x1)))) m12) fun r4 m14 =>
                    some ((r4, m14))
                  else none
                else none
              else
                sf_322_95 Q 0 m12
            else
              some ((false, m12))
          else none
        else
          some ((false, m11))
      else none
noncomputable def sq_279 : Nat → sh_Q279
  | 0 => ⟨(fun _ _ => none), (fun _ _ => none), (fun _ _ => none), (fun _ _ => none), (fun _ _ => none), (fun _ _ => none), (fun _ _ => none), (fun _ _ => none), (fun _ _ => none), (fun _ _ => none)⟩
  | d + 1 => ⟨sf_290 (sq_279 d), sf_291 (sq_279 d), sf_293 (sq_279 d), sf_294 (sq_279 d), sf_313 (sq_279 d), sf_315 (sq_279 d), sf_319 (sq_279 d), sf_320 (sq_279 d), sf_321 (sq_279 d), sf_322 (sq_279 d)⟩
noncomputable def sf_282_87s (x1 : Int32) (m : sh_X) : Option ((Int32 × sh_X) ⊕ (Bool × sh_X)) :=
  if x1 < (m.I 66 36) then
    sh_bn (sf_283 x1 m) fun r1 m11 =>
    if r1 = true then
      some (.inl (x1 + 1, m11))
    else
      some (.inr ((false, m11)))
  else
    sh_bn ((sq_279 sh_dp).f290 (m.I 66 37) m) fun r2 m12 =>
    some (.inr ((r2, m12)))
noncomputable def sf_282_87 (x1 : Int32) (m : sh_X) : Option (Bool × sh_X) := sh_while (fun q => sf_282_87s q.1 q.2) (x1, m)
noncomputable def sf_282_60s (x1 : Int32) (m : sh_X) : Option ((Int32 × sh_X) ⊕ (Bool × sh_X)) :=
  if x1 < 3 then
    if sh_okb x1 3 = true then
      if sh_okb x1 3 = true then
        some (.inl (x1 + 1, ⟨m.T, sh_u2 (sh_u2 m.I 99 (Int32.toNatClampNeg x1) 0) 102 (Int32.toNatClampNeg x1) 0, m.J, m.s⟩))
      else none
    else none
  else
    sh_up (sf_282_87 0 m)
noncomputable def sf_282_60 (x1 : Int32) (m : sh_X) : Option (Bool × sh_X) := sh_while (fun q => sf_282_60s q.1 q.2) (x1, m)
noncomputable def sf_282 (m : sh_X) : Option (Bool × sh_X) :=
  sf_282_60 0 ⟨m.T, sh_u2 (sh_u2 (sh_u2 (sh_u2 (sh_u2 (sh_u2 (sh_u2 (sh_u2 (sh_u2 (sh_u2 (sh_u2 m.I 66 41 0) 66 42 0) 66 53 0) 66 54 0) 66 55 (m.I 66 31)) 66 56 0) 66 57 1) 66 58 0) 66 59 0) 66 73 0) 66 79 0, m.J, m.s⟩
noncomputable def sf_246_111 (m : sh_X) : Option (Int32 × sh_X) :=
  some ((m.I 66 6, m))
noncomputable def sf_246_99 (x1 : Bool) (y1 : Bool) (m : sh_X) : Option (Int32 × sh_X) :=
  if x1 = true then
    sf_246_111  ⟨m.T, sh_u2 (sh_u2 m.I 66 4 (sh_b2 y1)) 66 7 (-1), m.J, m.s⟩
  else
    sf_246_111  ⟨m.T, sh_u2 m.I 66 4 (sh_b2 y1), m.J, m.s⟩
noncomputable def sf_246_89 (x1 : Bool) (m : sh_X) : Option (Int32 × sh_X) :=
  if x1 = true then
    sf_246_99 x1 true m
  else
    sf_246_99 x1 false m
noncomputable def sf_246_88 (y0 : Bool) (m : sh_X) : Option (Int32 × sh_X) :=
  sf_246_89 y0 m
noncomputable def sf_246_87 (m : sh_X) : Option (Int32 × sh_X) :=
  sf_246_88 false m
noncomputable def sf_246_36s (x2 : Int32) (m : sh_X) : Option ((Int32 × sh_X) ⊕ (Int32 × sh_X)) :=
  if x2 < (m.I 66 3) then
    if sh_okb x2 4000 = true then
      if sh_okb x2 4000 = true then
        some (.inl (x2 + 1, ⟨m.T, sh_u2 m.I 71 (Int32.toNatClampNeg x2) (vp_nar .byte (m.I 67 (Int32.toNatClampNeg x2))), m.J, m.s⟩))
      else none
    else none
  else
    sh_bn (sf_255 m) fun r1 m11 =>
    if r1 = true then
      sh_bn (sf_278 m11) fun r2 m12 =>
      if r2 = true then
        sh_bn (sf_282 m12) fun r3 m13 =>
        if r3 = true then
          sh_up (sf_246_88 true m13)
        else
          sh_up (sf_246_87  m13)
      else
        sh_up (sf_246_87  m12)
    else
      sh_up (sf_246_87  m11)
noncomputable def sf_246_36 (x2 : Int32) (m : sh_X) : Option (Int32 × sh_X) := sh_while (fun q => sf_246_36s q.1 q.2) (x2, m)
noncomputable def sf_246 (m : sh_X) : Option (Int32 × sh_X) :=
  if (m.I 66 80) = 24 then
    some (((-1), ⟨m.T, sh_u2 m.I 66 0 0, m.J, m.s⟩))
  else
    sh_bn (sf_247 ⟨m.T, sh_u2 m.I 66 0 0, m.J, m.s⟩) fun _ m11 =>
    sh_bn (sf_248 ⟨m11.T, sh_u2 m11.I 66 6 0, m11.J, m11.s⟩) fun r2 m12 =>
    if r2 = true then
      sf_246_36 0 m12
    else
      sf_246_89 r2 m12
noncomputable def sf_326_71 (m : sh_X) : Option (Bool × sh_X) :=
  sh_bn (sf_252 2 (m.I 66 91) m) fun r1 m11 =>
  some ((r1, m11))
noncomputable def sf_326_81 (x1 : Int32) (x2 : Int32) (x3 : Int32) (m : sh_X) : Option ((Int32 × sh_X) ⊕ (Bool × sh_X)) :=
  sh_bc (sf_249 (m.I 66 91) m) fun r1 =>
  some (.inl (x3 + 1, ⟨m.T, sh_u2 (sh_u2 m.I 66 92 (((10 * (m.I 66 92)) + r1) - 48)) 66 91 ((m.I 66 91) + 1), m.J, m.s⟩))
noncomputable def sf_326_148 (m : sh_X) : Option (Bool × sh_X) :=
  some ((true, m))
noncomputable def sf_326_136 (m : sh_X) : Option (Bool × sh_X) :=
  sh_bn (sf_252 2 (m.I 66 93) m) fun r1 m11 =>
  if r1 = true then
    sf_326_148  m11
  else
    some ((false, m11))
noncomputable def sf_326_39s (x1 : Int32) (x2 : Int32) (x3 : Int32) (m : sh_X) : Option ((Int32 × sh_X) ⊕ (Bool × sh_X)) :=
  sh_bc (sf_249 (m.I 66 91) m) fun r1 =>
  if (sf_251 r1) = true then
    if x3 = 9 then
      sh_up (sf_326_71  m)
    else
      if x3 = 1 then
        if (m.I 66 92) = 0 then
          sh_up (sf_326_71  m)
        else
          sf_326_81 x1 x2 x3 m
      else
        sf_326_81 x1 x2 x3 m
  else
    if (m.I 66 92) < x1 then
      sh_up (sf_326_136  m)
    else
      if x2 < (m.I 66 92) then
        sh_up (sf_326_136  m)
      else
        sh_up (sf_326_148  m)
noncomputable def sf_326_39 (x1 : Int32) (x2 : Int32) (x3 : Int32) (m : sh_X) : Option (Bool × sh_X) := sh_while (fun q => sf_326_39s x1 x2 q.1 q.2) (x3, m)
noncomputable def sf_326 (x1 : Int32) (x2 : Int32) (m : sh_X) : Option (Bool × sh_X) :=
  sh_bc (sf_249 (m.I 66 91) ⟨m.T, sh_u2 (sh_u2 m.I 66 93 (m.I 66 91)) 66 92 0, m.J, m.s⟩) fun r1 =>
  if (sf_251 r1) = true then
    sf_326_39 x1 x2 0 ⟨m.T, sh_u2 (sh_u2 m.I 66 93 (m.I 66 91)) 66 92 0, m.J, m.s⟩
  else
    sh_bn (sf_252 2 (m.I 66 91) ⟨m.T, sh_u2 (sh_u2 m.I 66 93 (m.I 66 91)) 66 92 0, m.J, m.s⟩) fun r3 m13 =>
    some ((r3, m13))
noncomputable def sf_327 (x1 : Int32) (m : sh_X) : Option (Bool × sh_X) :=
  sh_bc (sf_249 (m.I 66 91) m) fun r1 =>
  if r1 = x1 then
    some ((true, ⟨m.T, sh_u2 m.I 66 91 ((m.I 66 91) + 1), m.J, m.s⟩))
  else
    sh_bn (sf_252 2 (m.I 66 91) m) fun r2 m12 =>
    some ((r2, m12))
noncomputable def sf_325 (x1 : Int32) (x2 : Int32) (x3 : Int32) (m : sh_X) : Option (Bool × sh_X) :=
  sh_bn (sf_326 x1 x2 m) fun r1 m11 =>
  if r1 = true then
    sh_bn (sf_327 x3 m11) fun r2 m12 =>
    if r2 = true then
      some ((true, m12))
    else
      some ((false, m12))
  else
    some ((false, m11))
noncomputable def sf_328_2s (x1 : Nat) (x2 : Int32) (m : sh_X) : Option ((Int32 × sh_X) ⊕ (Bool × sh_X)) :=
  if 0 < sh_txn x1 then
    if x2 < (sh_txl x1) then
      sh_bc (sf_249 (m.I 66 91) m) fun r1 =>
      if sh_okb x2 (sh_txn x1) = true then
        if r1 = (sh_txc x1 x2) then
          some (.inl (x2 + 1, ⟨m.T, sh_u2 m.I 66 91 ((m.I 66 91) + 1), m.J, m.s⟩))
        else
          sh_bn (sf_252 2 (m.I 66 91) m) fun r2 m12 =>
          some (.inr ((r2, m12)))
      else none
    else
      some (.inr ((true, m)))
  else none
noncomputable def sf_328_2 (x1 : Nat) (x2 : Int32) (m : sh_X) : Option (Bool × sh_X) := sh_while (fun q => sf_328_2s x1 q.1 q.2) (x2, m)
noncomputable def sf_328 (x1 : Nat) (m : sh_X) : Option (Bool × sh_X) :=
  sf_328_2 x1 0 m
noncomputable def sf_330 (m : sh_X) : Option (Bool × sh_X) :=
  sh_bn (sf_326 0 ((m.I 66 86) - 1) m) fun r1 m11 =>
  if r1 = true then
    if sh_okb (m11.I 66 92) 4000 = true then
      if (m11.I 123 (Int32.toNatClampNeg (m11.I 66 92))) = 0 then
        sh_bn (sf_252 2 (m11.I 66 93) m11) fun r2 m12 =>
        some ((r2, m12))
      else
        sh_bn (sf_327 32 m11) fun r3 m13 =>
        some ((r3, m13))
    else none
  else
    some ((false, m11))
noncomputable def sf_331 (x1 : Nat) (m : sh_X) : Option Bool :=
  sh_bc (sf_249 (m.I 66 91) m) fun r1 =>
  if sh_okb 0 (sh_txn x1) = true then
    if r1 = (sh_txc x1 0) then
      some (true)
    else
      some (false)
  else none
noncomputable def sf_329_212 (y1 : Nat) (m : sh_X) : Option (Bool × sh_X) :=
  sh_bn (sf_328 y1 m) fun r1 m11 =>
  some ((r1, m11))
noncomputable def sf_329_176 (x1 : Int32) (y1 : Int32) (y2 : Bool) (m : sh_X) : Option (Bool × sh_X) :=
  if sh_okb y1 2000 = true then
    if sh_okb x1 2000 = true then
      if sh_okb x1 2000 = true then
        if ((sh_u2 m.I 117 (Int32.toNatClampNeg y1) (sh_b2 y2)) 117 (Int32.toNatClampNeg x1)) = 1 then
          sf_329_212 22 ⟨m.T, sh_u2 (sh_u2 m.I 117 (Int32.toNatClampNeg y1) (sh_b2 y2)) 66 87 ((m.I 66 87) + ((sh_u2 m.I 117 (Int32.toNatClampNeg y1) (sh_b2 y2)) 117 (Int32.toNatClampNeg x1))), m.J, m.s⟩
        else
          sf_329_212 23 ⟨m.T, sh_u2 (sh_u2 m.I 117 (Int32.toNatClampNeg y1) (sh_b2 y2)) 66 87 ((m.I 66 87) + ((sh_u2 m.I 117 (Int32.toNatClampNeg y1) (sh_b2 y2)) 117 (Int32.toNatClampNeg x1))), m.J, m.s⟩
      else none
    else none
  else none
noncomputable def sf_329_257 (y1 : Nat) (m : sh_X) : Option (Bool × sh_X) :=
  sh_bn (sf_328 y1 m) fun r1 m11 =>
  some ((r1, m11))
noncomputable def sf_329_236 (x1 : Int32) (y1 : Int32) (y2 : Int32) (m : sh_X) : Option (Bool × sh_X) :=
  if sh_okb y1 2000 = true then
    if sh_okb x1 2000 = true then
      if ((sh_u2 m.I 117 (Int32.toNatClampNeg y1) y2) 117 (Int32.toNatClampNeg x1)) = 3 then
        sf_329_257 25 ⟨m.T, sh_u2 m.I 117 (Int32.toNatClampNeg y1) y2, m.J, m.s⟩
      else
        sf_329_257 26 ⟨m.T, sh_u2 m.I 117 (Int32.toNatClampNeg y1) y2, m.J, m.s⟩
    else none
  else none
noncomputable def sf_329_82 (x1 : Int32) (x2 : Int32) (m : sh_X) : Option (Bool × sh_X) :=
  sh_bn (sf_326 0 ((m.I 66 86) - 1) m) fun r1 m11 =>
  if r1 = true then
    if sh_okb (m11.I 66 92) 4000 = true then
      if (m11.I 123 (Int32.toNatClampNeg (m11.I 66 92))) = 0 then
        sh_bn (sf_327 32 m11) fun r2 m12 =>
        if r2 = true then
          if sh_okb x1 2000 = true then
            if sh_okb (m12.I 66 92) 4000 = true then
              if x2 = 2 then
                sh_bc (sf_331 21 ⟨m12.T, sh_u2 (sh_u2 m12.I 120 (Int32.toNatClampNeg x1) (m12.I 66 92)) 123 (Int32.toNatClampNeg (m12.I 66 92)) (vp_nar .boolean 1), m12.J, m12.s⟩) fun r3 =>
                if r3 = true then
                  sf_329_176 x1 x1 true ⟨m12.T, sh_u2 (sh_u2 m12.I 120 (Int32.toNatClampNeg x1) (m12.I 66 92)) 123 (Int32.toNatClampNeg (m12.I 66 92)) (vp_nar .boolean 1), m12.J, m12.s⟩
                else
                  sf_329_176 x1 x1 false ⟨m12.T, sh_u2 (sh_u2 m12.I 120 (Int32.toNatClampNeg x1) (m12.I 66 92)) 123 (Int32.toNatClampNeg (m12.I 66 92)) (vp_nar .boolean 1), m12.J, m12.s⟩
              else
                sh_bc (sf_331 24 ⟨m12.T, sh_u2 (sh_u2 m12.I 120 (Int32.toNatClampNeg x1) (m12.I 66 92)) 123 (Int32.toNatClampNeg (m12.I 66 92)) (vp_nar .boolean 1), m12.J, m12.s⟩) fun r4 =>
                if r4 = true then
                  sf_329_236 x1 x1 3 ⟨m12.T, sh_u2 (sh_u2 m12.I 120 (Int32.toNatClampNeg x1) (m12.I 66 92)) 123 (Int32.toNatClampNeg (m12.I 66 92)) (vp_nar .boolean 1), m12.J, m12.s⟩
                else
                  sf_329_236 x1 x1 2 ⟨m12.T, sh_u2 (sh_u2 m12.I 120 (Int32.toNatClampNeg x1) (m12.I 66 92)) 123 (Int32.toNatClampNeg (m12.I 66 92)) (vp_nar .boolean 1), m12.J, m12.s⟩
            else none
          else none
        else
          some ((false, m12))
      else
        sh_bn (sf_252 2 (m11.I 66 93) m11) fun r5 m15 =>
        some ((r5, m15))
    else none
  else
    some ((false, m11))
noncomputable def sf_329 (x1 : Int32) (m : sh_X) : Option (Bool × sh_X) :=
  sh_bn (sf_325 1 2 32 m) fun r1 m11 =>
  if r1 = true then
    sh_bn (sf_325 1 1 32 m11) fun r2 m12 =>
    if r2 = true then
      sh_bn (sf_330 m12) fun r3 m13 =>
      if r3 = true then
        if sh_okb x1 2000 = true then
          if sh_okb x1 2000 = true then
            if (m11.I 66 92) = 2 then
              sh_bn (sf_330 ⟨m13.T, sh_u2 (sh_u2 m13.I 118 (Int32.toNatClampNeg x1) (m13.I 66 92)) 119 (Int32.toNatClampNeg x1) (m13.I 66 92), m13.J, m13.s⟩) fun r4 m14 =>
              if r4 = true then
                if sh_okb x1 2000 = true then
                  sf_329_82 x1 (m11.I 66 92) ⟨m14.T, sh_u2 m14.I 119 (Int32.toNatClampNeg x1) (m14.I 66 92), m14.J, m14.s⟩
                else none
              else
                some ((false, m14))
            else
              sf_329_82 x1 (m11.I 66 92) ⟨m13.T, sh_u2 (sh_u2 m13.I 118 (Int32.toNatClampNeg x1) (m13.I 66 92)) 119 (Int32.toNatClampNeg x1) (m13.I 66 92), m13.J, m13.s⟩
          else none
        else none
      else
        some ((false, m13))
    else
      some ((false, m12))
  else
    some ((false, m11))
noncomputable def sf_324_265 (x1 : Int32) (y1 : Int32) (y2 : Bool) (m : sh_X) : Option ((Int32 × sh_X) ⊕ (Bool × sh_X)) :=
  if sh_okb y1 4000 = true then
    some (.inl (x1 + 1, ⟨m.T, sh_u2 m.I 123 (Int32.toNatClampNeg y1) (vp_nar .boolean (sh_b2 y2)), m.J, m.s⟩))
  else none
noncomputable def sf_324_431 (x1 : Int32) (x2 : Int32) (y1 : Int32) (y2 : Bool) (y3 : Int32) (m : sh_X) : Option ((Int32 × sh_X) ⊕ ((Int32 × sh_X) ⊕ (Bool × sh_X))) :=
  sh_bn (sf_289 y1 (sh_b2 y2) y3 m) fun _ m11 =>
  some (.inl (x2 + 64, m11))
noncomputable def sf_324_392s (x1 : Int32) (x2 : Int32) (m : sh_X) : Option ((Int32 × sh_X) ⊕ ((Int32 × sh_X) ⊕ (Bool × sh_X))) :=
  if sh_okb x1 3 = true then
    if x2 < (m.I 121 (Int32.toNatClampNeg x1)) then
      if sh_okb x1 3 = true then
        if ((m.I 121 (Int32.toNatClampNeg x1)) - x2) < 64 then
          if sh_okb x1 3 = true then
            sf_324_431 x1 x2 x1 true ((m.I 121 (Int32.toNatClampNeg x1)) - x2) m
          else none
        else
          sf_324_431 x1 x2 x1 true 64 m
      else none
    else
      some (.inr (.inl (x1 + 1, m)))
  else none
noncomputable def sf_324_392 (x1 : Int32) (x2 : Int32) (m : sh_X) : Option ((Int32 × sh_X) ⊕ (Bool × sh_X)) := sh_while (fun q => sf_324_392s x1 q.1 q.2) (x2, m)
noncomputable def sf_324_371s (x1 : Int32) (m : sh_X) : Option ((Int32 × sh_X) ⊕ (Bool × sh_X)) :=
  if x1 < 3 then
    if sh_okb x1 3 = true then
      if sh_okb x1 3 = true then
        sf_324_392 x1 0 ⟨m.T, sh_u2 (sh_u2 m.I 99 (Int32.toNatClampNeg x1) 0) 102 (Int32.toNatClampNeg x1) 0, m.J, m.s⟩
      else none
    else none
  else
    some (.inr ((true, m)))
noncomputable def sf_324_371 (x1 : Int32) (m : sh_X) : Option (Bool × sh_X) := sh_while (fun q => sf_324_371s q.1 q.2) (x1, m)
noncomputable def sf_324_336s (x1 : Int32) (m : sh_X) : Option ((Int32 × sh_X) ⊕ (Bool × sh_X)) :=
  if x1 < (m.I 66 86) then
    if sh_okb x1 4000 = true then
      if (m.I 123 (Int32.toNatClampNeg x1)) = 0 then
        sh_bn (sf_252 2 (m.I 66 3) m) fun r1 m11 =>
        some (.inr ((r1, m11)))
      else
        some (.inl (x1 + 1, m))
    else none
  else
    sh_up (sf_324_371 0 m)
noncomputable def sf_324_336 (x1 : Int32) (m : sh_X) : Option (Bool × sh_X) := sh_while (fun q => sf_324_336s q.1 q.2) (x1, m)
noncomputable def sf_324_279s (x1 : Int32) (m : sh_X) : Option ((Int32 × sh_X) ⊕ (Bool × sh_X)) :=
  if x1 < (m.I 66 85) then
    sh_bn (sf_329 x1 m) fun r1 m11 =>
    if r1 = true then
      some (.inl (x1 + 1, m11))
    else
      some (.inr ((false, m11)))
  else
    if (m.I 66 91) < (m.I 66 3) then
      sh_bn (sf_252 2 (m.I 66 91) m) fun r2 m12 =>
      some (.inr ((r2, m12)))
    else
      sh_up (sf_324_336 ((m.I 66 86) - (m.I 121 2)) m)
noncomputable def sf_324_279 (x1 : Int32) (m : sh_X) : Option (Bool × sh_X) := sh_while (fun q => sf_324_279s q.1 q.2) (x1, m)
noncomputable def sf_324_231s (x1 : Int32) (m : sh_X) : Option ((Int32 × sh_X) ⊕ (Bool × sh_X)) :=
  if x1 < 4000 then
    if x1 < ((m.I 121 0) + (m.I 121 1)) then
      sf_324_265 x1 x1 true m
    else
      sf_324_265 x1 x1 false m
  else
    sh_up (sf_324_279 0 ⟨m.T, sh_u2 m.I 66 87 0, m.J, m.s⟩)
noncomputable def sf_324_231 (x1 : Int32) (m : sh_X) : Option (Bool × sh_X) := sh_while (fun q => sf_324_231s q.1 q.2) (x1, m)
noncomputable def sf_324 (m : sh_X) : Option (Bool × sh_X) :=
  sh_bn (sf_325 1 2000 32 ⟨m.T, sh_u2 m.I 66 91 0, m.J, m.s⟩) fun r1 m11 =>
  if r1 = true then
    sh_bn (sf_325 1 4000 10 ⟨m11.T, sh_u2 m11.I 66 85 (m11.I 66 92), m11.J, m11.s⟩) fun r2 m12 =>
    if r2 = true then
      sh_bn (sf_325 2 2 32 ⟨m12.T, sh_u2 m12.I 66 86 (m12.I 66 92), m12.J, m12.s⟩) fun r3 m13 =>
      if r3 = true then
        sh_bn (sf_325 1 500 32 m13) fun r4 m14 =>
        if r4 = true then
          sh_bn (sf_326 1 500 ⟨m14.T, sh_u2 m14.I 121 0 (m14.I 66 92), m14.J, m14.s⟩) fun r5 m15 =>
          if r5 = true then
            if (m15.I 66 86) < ((m15.I 121 0) + (m15.I 66 92)) then
              sh_bn (sf_252 2 (m15.I 66 93) ⟨m15.T, sh_u2 m15.I 121 1 (m15.I 66 92), m15.J, m15.s⟩) fun r6 m16 =>
              some ((r6, m16))
            else
              sh_bn (sf_327 10 ⟨m15.T, sh_u2 m15.I 121 1 (m15.I 66 92), m15.J, m15.s⟩) fun r7 m17 =>
              if r7 = true then
                sh_bn (sf_325 1 1 32 m17) fun r8 m18 =>
                if r8 = true then
                  sh_bn (sf_326 1 500 m18) fun r9 m19 =>
                  if r9 = true then
                    if (m19.I 66 86) < (m19.I 66 92) then
                      sh_bn (sf_252 2 (m19.I 66 93) ⟨m19.T, sh_u2 m19.I 121 2 (m19.I 66 92), m19.J, m19.s⟩) fun r10 m20 =>
                      some ((r10, m20))
                    else
                      sh_bn (sf_327 10 ⟨m19.T, sh_u2 m19.I 121 2 (m19.I 66 92), m19.J, m19.s⟩) fun r11 m21 =>
                      if r11 = true then
                        sh_bn (sf_328 20 m21) fun r12 m22 =>
                        if r12 = true then
                          sf_324_231 0 m22
                        else
                          some ((false, m22))
                      else
                        some ((false, m21))
                  else
                    some ((false, m19))
                else
                  some ((false, m18))
              else
                some ((false, m17))
          else
            some ((false, m15))
        else
          some ((false, m14))
      else
        some ((false, m13))
    else
      some ((false, m12))
  else
    some ((false, m11))
noncomputable def sf_323_47 (x1 : Bool) (m : sh_X) : Option (Int32 × sh_X) :=
  if x1 = true then
    some ((0, m))
  else
    some ((2, m))
noncomputable def sf_323_35 (x1 : Bool) (y1 : Int32) (m : sh_X) : Option (Int32 × sh_X) :=
  if x1 = true then
    sf_323_47 x1 ⟨m.T, sh_u2 (sh_u2 m.I 66 4 y1) 66 7 (-1), m.J, m.s⟩
  else
    sf_323_47 x1 ⟨m.T, sh_u2 m.I 66 4 y1, m.J, m.s⟩
noncomputable def sf_323 (m : sh_X) : Option (Int32 × sh_X) :=
  if (m.I 66 80) = 24 then
    some (((-1), ⟨m.T, sh_u2 m.I 66 0 0, m.J, m.s⟩))
  else
    sh_bn (sf_247 ⟨m.T, sh_u2 m.I 66 0 0, m.J, m.s⟩) fun _ m11 =>
    sh_bn (sf_324 m11) fun r2 m12 =>
    if r2 = true then
      sf_323_35 r2 2 m12
    else
      sf_323_35 r2 0 m12
noncomputable def sf_332 (m : sh_X) : Option (Int32 × sh_X) :=
  some ((m.I 66 7, ⟨m.T, sh_u2 m.I 66 0 0, m.J, m.s⟩))
noncomputable def sf_333 (x1 : Int32) (m : sh_X) : Option (Int32 × sh_X) :=
  if (m.I 66 4) = 0 then
    some (((-1), ⟨m.T, sh_u2 m.I 66 0 0, m.J, m.s⟩))
  else
    if x1 < 0 then
      some (((-1), ⟨m.T, sh_u2 m.I 66 0 0, m.J, m.s⟩))
    else
      if 6 < x1 then
        some (((-1), ⟨m.T, sh_u2 m.I 66 0 0, m.J, m.s⟩))
      else
        if x1 < 3 then
          if sh_okb x1 3 = true then
            some ((m.I 99 (Int32.toNatClampNeg x1), ⟨m.T, sh_u2 m.I 66 0 0, m.J, m.s⟩))
          else none
        else
          if x1 = 3 then
            some ((m.I 102 2, ⟨m.T, sh_u2 m.I 66 0 0, m.J, m.s⟩))
          else
            if (m.I 66 4) = 1 then
              some (((-1), ⟨m.T, sh_u2 m.I 66 0 0, m.J, m.s⟩))
            else
              if x1 = 4 then
                some ((m.I 66 87, ⟨m.T, sh_u2 m.I 66 0 0, m.J, m.s⟩))
              else
                if x1 = 5 then
                  some ((m.I 66 85, ⟨m.T, sh_u2 m.I 66 0 0, m.J, m.s⟩))
                else
                  some ((m.I 66 86, ⟨m.T, sh_u2 m.I 66 0 0, m.J, m.s⟩))
noncomputable def sf_335 (x1 : Int32) (x2 : Int32) (m : sh_X) : Option Bool :=
  if 0 < (m.I 66 4) then
    if x1 < 0 then
      some (false)
    else
      if x1 < 3 then
        if x2 < 0 then
          some (false)
        else
          if sh_okb x1 3 = true then
            if x2 < (m.I 99 (Int32.toNatClampNeg x1)) then
              some (true)
            else
              some (false)
          else none
      else
        some (false)
  else
    some (false)
noncomputable def sf_334_15 (x1 : Int32) (x2 : Int32) (y1 : Bool) (m : sh_X) : Option (Int32 × sh_X) :=
  if (sh_b2 y1) = 0 then
    if sh_okb ((256 * x1) + x2) 768 = true then
      some ((m.I 101 (Int32.toNatClampNeg ((256 * x1) + x2)), ⟨m.T, sh_u2 m.I 66 0 (sh_b2 y1), m.J, m.s⟩))
    else none
  else
    some ((0, ⟨m.T, sh_u2 m.I 66 0 (sh_b2 y1), m.J, m.s⟩))
noncomputable def sf_334 (x1 : Int32) (x2 : Int32) (m : sh_X) : Option (Int32 × sh_X) :=
  sh_bc (sf_335 x1 x2 m) fun r1 =>
  if r1 = true then
    sf_334_15 x1 x2 false m
  else
    sf_334_15 x1 x2 true m
noncomputable def sf_336_93 (y1 : Int32) (y2 : Int64) (m : sh_X) : Option (Unit × sh_X) :=
  if sh_okb y1 512 = true then
    some (((), ⟨m.T, m.I, sh_u2 m.J 103 (Int32.toNatClampNeg y1) y2, m.s⟩))
  else none
noncomputable def sf_336_20 (x1 : Int32) (x2 : Int32) (x3 : Int32) (x4 : Int32) (y1 : Bool) (m : sh_X) : Option (Unit × sh_X) :=
  if (sh_b2 y1) = 1 then
    some (((), ⟨m.T, sh_u2 m.I 66 0 (sh_b2 y1), m.J, m.s⟩))
  else
    if sh_okb ((256 * x1) + x2) 768 = true then
      if (m.I 101 (Int32.toNatClampNeg ((256 * x1) + x2))) = 64 then
        sf_336_93 ((256 * x1) + x2) (((Int32.toInt64 x3) <<< (Int32.toInt64 32 &&& 63)) ||| ((Int32.toInt64 x4) &&& (4294967295 : Int64))) ⟨m.T, sh_u2 m.I 66 0 (sh_b2 y1), m.J, m.s⟩
      else
        sf_336_93 ((256 * x1) + x2) ((((Int32.toInt64 x3) <<< (Int32.toInt64 32 &&& 63)) ||| ((Int32.toInt64 x4) &&& (4294967295 : Int64))) &&& (((1 : Int64) <<< (Int32.toInt64 (m.I 101 (Int32.toNatClampNeg ((256 * x1) + x2))) &&& 63)) - (1 : Int64))) ⟨m.T, sh_u2 m.I 66 0 (sh_b2 y1), m.J, m.s⟩
    else none
noncomputable def sf_336_19 (x1 : Int32) (x2 : Int32) (x3 : Int32) (x4 : Int32) (m : sh_X) : Option (Unit × sh_X) :=
  sf_336_20 x1 x2 x3 x4 true m
noncomputable def sf_336 (x1 : Int32) (x2 : Int32) (x3 : Int32) (x4 : Int32) (m : sh_X) : Option (Unit × sh_X) :=
  if x1 < 2 then
    sh_bc (sf_335 x1 x2 m) fun r1 =>
    if r1 = true then
      sf_336_20 x1 x2 x3 x4 false m
    else
      sf_336_19 x1 x2 x3 x4 m
  else
    sf_336_19 x1 x2 x3 x4 m
noncomputable def sf_337 (x1 : Int32) (x2 : Int32) (x3 : Int32) (m : sh_X) : Option (Unit × sh_X) :=
  some (((), ⟨m.T, sh_u2 m.I 66 0 0, m.J, m.s⟩))
noncomputable def sf_339_89 (x1 : Int32) (y1 : Int32) (y2 : Bool) (m : sh_X) : Option ((Int32 × sh_X) ⊕ (Unit × sh_X)) :=
  if sh_okb y1 4000 = true then
    some (.inl (x1 + 1, ⟨m.T, sh_u2 m.I 122 (Int32.toNatClampNeg y1) (vp_nar .boolean (sh_b2 y2)), m.J, m.s⟩))
  else none
noncomputable def sf_339_51 (x1 : Int32) (x2 : Bool) (y0 : Int32) (m : sh_X) : Option ((Int32 × sh_X) ⊕ (Unit × sh_X)) :=
  if sh_okb ((256 * (sh_b2 x2)) + (y0 / 64)) 512 = true then
    if ((((m.J 103 (Int32.toNatClampNeg ((256 * (sh_b2 x2)) + (y0 / 64)))).toUInt64 >>> ((Int32.toInt64 (y0 - y0 / 64 * 64)).toUInt64 &&& Int64.toUInt64 63)).toInt64) &&& (1 : Int64)) = 1 then
      sf_339_89 x1 x1 true m
    else
      sf_339_89 x1 x1 false m
  else none
noncomputable def sf_339_34 (x1 : Int32) (y0 : Bool) (m : sh_X) : Option ((Int32 × sh_X) ⊕ (Unit × sh_X)) :=
  if y0 = true then
    sf_339_51 x1 y0 (x1 - (m.I 121 0)) m
  else
    sf_339_51 x1 y0 x1 m
noncomputable def sf_339_211 (x1 : Int32) (y1 : Int32) (y2 : Int32) (m : sh_X) : Option ((Int32 × sh_X) ⊕ (Unit × sh_X)) :=
  if sh_okb y1 4000 = true then
    some (.inl (x1 + 1, ⟨m.T, sh_u2 m.I 122 (Int32.toNatClampNeg y1) (vp_nar .boolean y2), m.J, m.s⟩))
  else none
noncomputable def sf_339_184 (x1 : Int32) (y1 : Int32) (m : sh_X) : Option ((Int32 × sh_X) ⊕ (Unit × sh_X)) :=
  sf_339_211 x1 y1 0 m
noncomputable def sf_339_294 (x1 : Int32) (m : sh_X) : Option ((Int32 × sh_X) ⊕ (Unit × sh_X)) :=
  some (.inl (x1 + 1, m))
noncomputable def sf_339_245s (x1 : Int32) (m : sh_X) : Option ((Int32 × sh_X) ⊕ (Unit × sh_X)) :=
  if x1 < (m.I 121 2) then
    if sh_okb (((m.I 66 86) - (m.I 121 2)) + x1) 4000 = true then
      if (m.I 122 (Int32.toNatClampNeg (((m.I 66 86) - (m.I 121 2)) + x1))) = 0 then
        sf_339_294 x1 m
      else
        if sh_okb (x1 / 64) 256 = true then
          if sh_okb (x1 / 64) 256 = true then
            sf_339_294 x1 ⟨m.T, m.I, sh_u2 m.J 104 (Int32.toNatClampNeg (x1 / 64)) ((m.J 104 (Int32.toNatClampNeg (x1 / 64))) ||| ((1 : Int64) <<< (Int32.toInt64 (x1 - x1 / 64 * 64) &&& 63))), m.s⟩
          else none
        else none
    else none
  else
    some (.inr (((), m)))
noncomputable def sf_339_245 (x1 : Int32) (m : sh_X) : Option (Unit × sh_X) := sh_while (fun q => sf_339_245s q.1 q.2) (x1, m)
noncomputable def sf_339_220s (x1 : Int32) (m : sh_X) : Option ((Int32 × sh_X) ⊕ (Unit × sh_X)) :=
  if x1 < (m.I 99 2) then
    if sh_okb x1 256 = true then
      some (.inl (x1 + 1, ⟨m.T, m.I, sh_u2 m.J 104 (Int32.toNatClampNeg x1) 0, m.s⟩))
    else none
  else
    sh_up (sf_339_245 0 m)
noncomputable def sf_339_220 (x1 : Int32) (m : sh_X) : Option (Unit × sh_X) := sh_while (fun q => sf_339_220s q.1 q.2) (x1, m)
noncomputable def sf_339_98s (x1 : Int32) (m : sh_X) : Option ((Int32 × sh_X) ⊕ (Unit × sh_X)) :=
  if x1 < (m.I 66 85) then
    if sh_okb x1 2000 = true then
      if sh_okb (m.I 118 (Int32.toNatClampNeg x1)) 4000 = true then
        if sh_okb x1 2000 = true then
          if sh_okb (m.I 119 (Int32.toNatClampNeg x1)) 4000 = true then
            if sh_okb x1 2000 = true then
              if sh_okb x1 2000 = true then
                if (m.I 117 (Int32.toNatClampNeg x1)) = 0 then
                  if (m.I 122 (Int32.toNatClampNeg (m.I 118 (Int32.toNatClampNeg x1)))) = (m.I 122 (Int32.toNatClampNeg (m.I 119 (Int32.toNatClampNeg x1)))) then
                    sf_339_211 x1 (m.I 120 (Int32.toNatClampNeg x1)) 0 m
                  else
                    sf_339_211 x1 (m.I 120 (Int32.toNatClampNeg x1)) 1 m
                else
                  if sh_okb x1 2000 = true then
                    if (m.I 117 (Int32.toNatClampNeg x1)) = 1 then
                      if (m.I 122 (Int32.toNatClampNeg (m.I 118 (Int32.toNatClampNeg x1)))) = 0 then
                        sf_339_184 x1 (m.I 120 (Int32.toNatClampNeg x1)) m
                      else
                        if (m.I 122 (Int32.toNatClampNeg (m.I 119 (Int32.toNatClampNeg x1)))) = 0 then
                          sf_339_184 x1 (m.I 120 (Int32.toNatClampNeg x1)) m
                        else
                          sf_339_211 x1 (m.I 120 (Int32.toNatClampNeg x1)) 1 m
                    else
                      if sh_okb x1 2000 = true then
                        if (m.I 117 (Int32.toNatClampNeg x1)) = 2 then
                          if (m.I 122 (Int32.toNatClampNeg (m.I 118 (Int32.toNatClampNeg x1)))) = 0 then
                            sf_339_211 x1 (m.I 120 (Int32.toNatClampNeg x1)) 1 m
                          else
                            sf_339_211 x1 (m.I 120 (Int32.toNatClampNeg x1)) 0 m
                        else
                          sf_339_211 x1 (m.I 120 (Int32.toNatClampNeg x1)) (m.I 122 (Int32.toNatClampNeg (m.I 118 (Int32.toNatClampNeg x1)))) m
                      else none
                  else none
              else none
            else none
          else none
        else none
      else none
    else none
  else
    sh_up (sf_339_220 0 m)
noncomputable def sf_339_98 (x1 : Int32) (m : sh_X) : Option (Unit × sh_X) := sh_while (fun q => sf_339_98s q.1 q.2) (x1, m)
noncomputable def sf_339_2s (x1 : Int32) (m : sh_X) : Option ((Int32 × sh_X) ⊕ (Unit × sh_X)) :=
  if x1 < ((m.I 121 0) + (m.I 121 1)) then
    if x1 < (m.I 121 0) then
      sf_339_34 x1 false m
    else
      sf_339_34 x1 true m
  else
    sh_up (sf_339_98 0 m)
noncomputable def sf_339_2 (x1 : Int32) (m : sh_X) : Option (Unit × sh_X) := sh_while (fun q => sf_339_2s q.1 q.2) (x1, m)
noncomputable def sf_339 (m : sh_X) : Option (Unit × sh_X) :=
  sf_339_2 0 m
noncomputable def sf_338_34 (m : sh_X) : Option (Bool × sh_X) :=
  some ((true, ⟨m.T, sh_u2 m.I 66 5 1, m.J, m.s⟩))
noncomputable def sf_338 (m : sh_X) : Option (Bool × sh_X) :=
  if (m.I 66 4) = 0 then
    some ((false, ⟨m.T, sh_u2 m.I 66 0 0, m.J, m.s⟩))
  else
    if (m.I 66 4) = 2 then
      sh_bn (sf_339 ⟨m.T, sh_u2 m.I 66 0 0, m.J, m.s⟩) fun _ m11 =>
      sf_338_34  m11
    else
      sh_bn (sf_282 ⟨m.T, sh_u2 m.I 66 0 0, m.J, m.s⟩) fun r2 m12 =>
      sf_338_34  m12
noncomputable def sf_340_34 (x1 : Int32) (y1 : Bool) (m : sh_X) : Option (Int64 × sh_X) :=
  if (sh_b2 y1) = 0 then
    if sh_okb x1 256 = true then
      some ((m.J 104 (Int32.toNatClampNeg x1), ⟨m.T, sh_u2 m.I 66 0 (sh_b2 y1), m.J, m.s⟩))
    else none
  else
    some ((0, ⟨m.T, sh_u2 m.I 66 0 (sh_b2 y1), m.J, m.s⟩))
noncomputable def sf_340_33 (x1 : Int32) (m : sh_X) : Option (Int64 × sh_X) :=
  sf_340_34 x1 true m
noncomputable def sf_340 (x1 : Int32) (m : sh_X) : Option (Int64 × sh_X) :=
  if (m.I 66 5) = 0 then
    sf_340_33 x1 m
  else
    if 0 < (m.I 66 4) then
      if x1 < 0 then
        sf_340_33 x1 m
      else
        if x1 < (m.I 99 2) then
          sf_340_34 x1 false m
        else
          sf_340_33 x1 m
    else
      sf_340_33 x1 m
