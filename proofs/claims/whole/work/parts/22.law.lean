/-! THE LAW'S LOOP, a case at a time; printed by gen22.py -/
section Law
variable {sc : sh_S} {L : Nat} {xs : Nat → Int32} {i : Int32} {h h1 h2 h4 h3 : sh_H} {o : Outcome} {v v1 v2 v4 : sh_U}
theorem sh_laH {G : sh_G} {k pc : Nat} {lv : sh_Ls} {a n : Nat} {f : Nat → Int64} {j : Int32} {r : List Value} {x : Int64} {pc2 : Nat} (hi : sh_gI G k pc = some (.laload, 1)) (hT : h[a]? = some (.inl (2, n, .inr (.inl f)))) (h0 : ¬ j < 0) (hn : j.toNatClampNeg < n) (hx : f j.toNatClampNeg = x) (hp : pc + 1 = pc2)
    (kk : sh_To G sc k pc2 lv (.long x :: r) h o h3 v) : sh_To G sc k pc lv (.int j :: .ref (a + 1) :: r) h o h3 v := by
  subst hp
  refine sh_w hi rfl ?_ kk
  show sh_lald pc lv (.int j :: .ref (a + 1) :: r) h = _
  unfold sh_lald
  dsimp only
  rw [hT]
  show (if (decide (2 = 2) && !(decide (j < 0) || decide (n ≤ j.toNatClampNeg))) = true then _ else _) = _
  rw [sh_ix h0 hn, if_pos (by decide), hx]
/-- the script's next six ints are there -/
def sh_Ix (i : Int32) (L : Nat) : Prop := ¬ Int32.ofNat L - 6 < i ∧ (¬ i < 0 ∧ i.toNatClampNeg < L) ∧ (¬ i + 1 < 0 ∧ (i + 1).toNatClampNeg < L) ∧ (¬ i + 2 < 0 ∧ (i + 2).toNatClampNeg < L) ∧ (¬ i + 3 < 0 ∧ (i + 3).toNatClampNeg < L) ∧ (¬ i + 4 < 0 ∧ (i + 4).toNatClampNeg < L) ∧ (¬ i + 5 < 0 ∧ (i + 5).toNatClampNeg < L)
theorem sh_lawE {lv : sh_Ls} (hsc : sc.1 = some (L, xs)) (h4 : lv.lookup 4 = some (.int i)) (h0 : lv.lookup 0 = some (.ref 0)) (hi : Int32.ofNat L - 6 < i) : sh_To sh_G0 sc 0 23 lv [] h (.returned (some (.int 1))) h (0, 0, 8, 200) := by
  refine sh_w (i := .iload 4) (len := 2) (pc2 := 25) (lv2 := lv) (st2 := [.int i]) (h2 := h) rfl rfl (by show sh_ld sh_isI 4 2 23 lv [] h = _; unfold sh_ld; rw [h4]; rfl) ?_
  refine sh_w (i := .aload_n 0) (len := 1) (pc2 := 26) (lv2 := lv) (st2 := [.ref 0, .int i]) (h2 := h) rfl rfl (by show sh_ld sh_isR 0 1 25 lv _ h = _; unfold sh_ld; rw [h0]; rfl) ?_
  refine sh_sl1 (pc2 := 27) rfl hsc rfl ?_
  refine sh_w (i := .bipush 6) (len := 2) (pc2 := 29) (lv2 := lv) (st2 := [.int 6, .int (Int32.ofNat L), .int i]) (h2 := h) rfl rfl rfl ?_
  refine sh_w (i := .isub) (len := 1) (pc2 := 30) (lv2 := lv) (st2 := [.int (Int32.ofNat L - 6), .int i]) (h2 := h) rfl rfl rfl ?_
  refine sh_jc (c := .gt) (off := (493)) (pc2 := 523) true rfl (sh_Bgtt hi) rfl ?_
  refine sh_w (i := .iconst 1) (len := 1) (pc2 := 524) (lv2 := lv) (st2 := [.int 1]) (h2 := h) rfl rfl rfl ?_
  exact sh_To_le (sh_uB_le rfl) (sh_wret (i := .ireturn) (len := 1) (r := some (.int 1)) rfl rfl rfl)
theorem sh_law0 {p q : Int32} (hsc : sc.1 = some (L, xs)) (hI : sh_Ix i L) (hc : xs (Int32.toNatClampNeg i) &&& 15 = 0) (f0 : ∃ fs, h[0]? = some (.inr (0, fs))) (f1 : ∃ fs, h1[66]? = some (.inr (12, fs))) (hx : sh_To sh_G0 sc 13 0 [(0, .ref 1), (1, .int (xs (Int32.toNatClampNeg (i + 1)))), (2, .int (xs (Int32.toNatClampNeg (i + 2)))), (3, .int (xs (Int32.toNatClampNeg (i + 3)))), (4, .int (xs (Int32.toNatClampNeg (i + 4)))), (5, .int (xs (Int32.toNatClampNeg (i + 5))))] [] h (.returned (some (.int p))) h1 v1) (hm : sh_To sh_G0 sc 244 0 [(0, .ref 67), (1, .int (xs (Int32.toNatClampNeg (i + 1)))), (2, .int (xs (Int32.toNatClampNeg (i + 2)))), (3, .int (xs (Int32.toNatClampNeg (i + 3)))), (4, .int (xs (Int32.toNatClampNeg (i + 4)))), (5, .int (xs (Int32.toNatClampNeg (i + 5))))] [] h1 (.returned (some (.int q))) h2 v2) (hpq : p = q) (kk : sh_To sh_G0 sc 0 23 [(4, .int (i + 6)), (3, .ref 125), (2, .ref 67), (1, .ref 1), (0, .ref 0)] [] h2 o h3 v) : sh_To sh_G0 sc 0 23 [(4, .int i), (3, .ref 125), (2, .ref 67), (1, .ref 1), (0, .ref 0)] [] h o h3 (sh_seq (sh_L sh_G0 13) v1 (sh_seq (sh_L sh_G0 244) v2 v)) := by
  refine sh_w (i := (.iload 4)) (len := 2) (pc2 := 25) (lv2 := [(4, .int i), (3, .ref 125), (2, .ref 67), (1, .ref 1), (0, .ref 0)]) (st2 := [.int i]) (h2 := h) rfl rfl rfl ?_
  refine sh_w (i := (.aload_n 0)) (len := 1) (pc2 := 26) (lv2 := [(4, .int i), (3, .ref 125), (2, .ref 67), (1, .ref 1), (0, .ref 0)]) (st2 := [.ref 0, .int i]) (h2 := h) rfl rfl rfl ?_
  refine sh_sl1 (pc2 := 27) rfl hsc rfl ?_
  refine sh_w (i := (.bipush 6)) (len := 2) (pc2 := 29) (lv2 := [(4, .int i), (3, .ref 125), (2, .ref 67), (1, .ref 1), (0, .ref 0)]) (st2 := [.int 6, .int (Int32.ofNat L), .int i]) (h2 := h) rfl rfl rfl ?_
  refine sh_w (i := .isub) (len := 1) (pc2 := 30) (lv2 := [(4, .int i), (3, .ref 125), (2, .ref 67), (1, .ref 1), (0, .ref 0)]) (st2 := [.int ((Int32.ofNat L) - 6), .int i]) (h2 := h) rfl rfl rfl ?_
  refine sh_jc (c := .gt) (off := (493)) (pc2 := 33) false rfl (sh_Bgtf hI.1) rfl ?_
  refine sh_w (i := (.aload_n 0)) (len := 1) (pc2 := 34) (lv2 := [(4, .int i), (3, .ref 125), (2, .ref 67), (1, .ref 1), (0, .ref 0)]) (st2 := [.ref 0]) (h2 := h) rfl rfl rfl ?_
  refine sh_w (i := (.iload 4)) (len := 2) (pc2 := 36) (lv2 := [(4, .int i), (3, .ref 125), (2, .ref 67), (1, .ref 1), (0, .ref 0)]) (st2 := [.int i, .ref 0]) (h2 := h) rfl rfl rfl ?_
  refine sh_sc1 (pc2 := 37) rfl hsc hI.2.1.1 hI.2.1.2 rfl ?_
  refine sh_w (i := (.bipush 15)) (len := 2) (pc2 := 39) (lv2 := [(4, .int i), (3, .ref 125), (2, .ref 67), (1, .ref 1), (0, .ref 0)]) (st2 := [.int 15, .int (xs (Int32.toNatClampNeg i))]) (h2 := h) rfl rfl rfl ?_
  refine sh_w (i := .iand) (len := 1) (pc2 := 40) (lv2 := [(4, .int i), (3, .ref 125), (2, .ref 67), (1, .ref 1), (0, .ref 0)]) (st2 := [.int 0]) (h2 := h) rfl rfl (congrArg (fun z => some (40, [(4, Value.int i), (3, Value.ref 125), (2, Value.ref 67), (1, Value.ref 1), (0, Value.ref 0)], [Value.int z], h, 0, 0)) hc) ?_
  refine sh_w (i := (.tableswitch 477 0 10 #[60, 133, 158, 171, 184, 197, 222, 290, 362, 409, 422])) (len := 60) (pc2 := 100) (lv2 := [(4, .int i), (3, .ref 125), (2, .ref 67), (1, .ref 1), (0, .ref 0)]) (st2 := []) (h2 := h) rfl rfl rfl ?_
  refine sh_w (i := (.aload_n 1)) (len := 1) (pc2 := 101) (lv2 := [(4, .int i), (3, .ref 125), (2, .ref 67), (1, .ref 1), (0, .ref 0)]) (st2 := [.ref 1]) (h2 := h) rfl rfl rfl ?_
  refine sh_w (i := (.aload_n 0)) (len := 1) (pc2 := 102) (lv2 := [(4, .int i), (3, .ref 125), (2, .ref 67), (1, .ref 1), (0, .ref 0)]) (st2 := [.ref 0, .ref 1]) (h2 := h) rfl rfl rfl ?_
  refine sh_w (i := (.iload 4)) (len := 2) (pc2 := 104) (lv2 := [(4, .int i), (3, .ref 125), (2, .ref 67), (1, .ref 1), (0, .ref 0)]) (st2 := [.int i, .ref 0, .ref 1]) (h2 := h) rfl rfl rfl ?_
  refine sh_w (i := (.iconst 1)) (len := 1) (pc2 := 105) (lv2 := [(4, .int i), (3, .ref 125), (2, .ref 67), (1, .ref 1), (0, .ref 0)]) (st2 := [.int 1, .int i, .ref 0, .ref 1]) (h2 := h) rfl rfl rfl ?_
  refine sh_w (i := .iadd) (len := 1) (pc2 := 106) (lv2 := [(4, .int i), (3, .ref 125), (2, .ref 67), (1, .ref 1), (0, .ref 0)]) (st2 := [.int (i + 1), .ref 0, .ref 1]) (h2 := h) rfl rfl rfl ?_
  refine sh_sc1 (pc2 := 107) rfl hsc hI.2.2.1.1 hI.2.2.1.2 rfl ?_
  refine sh_w (i := (.aload_n 0)) (len := 1) (pc2 := 108) (lv2 := [(4, .int i), (3, .ref 125), (2, .ref 67), (1, .ref 1), (0, .ref 0)]) (st2 := [.ref 0, .int (xs (Int32.toNatClampNeg (i + 1))), .ref 1]) (h2 := h) rfl rfl rfl ?_
  refine sh_w (i := (.iload 4)) (len := 2) (pc2 := 110) (lv2 := [(4, .int i), (3, .ref 125), (2, .ref 67), (1, .ref 1), (0, .ref 0)]) (st2 := [.int i, .ref 0, .int (xs (Int32.toNatClampNeg (i + 1))), .ref 1]) (h2 := h) rfl rfl rfl ?_
  refine sh_w (i := (.iconst 2)) (len := 1) (pc2 := 111) (lv2 := [(4, .int i), (3, .ref 125), (2, .ref 67), (1, .ref 1), (0, .ref 0)]) (st2 := [.int 2, .int i, .ref 0, .int (xs (Int32.toNatClampNeg (i + 1))), .ref 1]) (h2 := h) rfl rfl rfl ?_
  refine sh_w (i := .iadd) (len := 1) (pc2 := 112) (lv2 := [(4, .int i), (3, .ref 125), (2, .ref 67), (1, .ref 1), (0, .ref 0)]) (st2 := [.int (i + 2), .ref 0, .int (xs (Int32.toNatClampNeg (i + 1))), .ref 1]) (h2 := h) rfl rfl rfl ?_
  refine sh_sc1 (pc2 := 113) rfl hsc hI.2.2.2.1.1 hI.2.2.2.1.2 rfl ?_
  refine sh_w (i := (.aload_n 0)) (len := 1) (pc2 := 114) (lv2 := [(4, .int i), (3, .ref 125), (2, .ref 67), (1, .ref 1), (0, .ref 0)]) (st2 := [.ref 0, .int (xs (Int32.toNatClampNeg (i + 2))), .int (xs (Int32.toNatClampNeg (i + 1))), .ref 1]) (h2 := h) rfl rfl rfl ?_
  refine sh_w (i := (.iload 4)) (len := 2) (pc2 := 116) (lv2 := [(4, .int i), (3, .ref 125), (2, .ref 67), (1, .ref 1), (0, .ref 0)]) (st2 := [.int i, .ref 0, .int (xs (Int32.toNatClampNeg (i + 2))), .int (xs (Int32.toNatClampNeg (i + 1))), .ref 1]) (h2 := h) rfl rfl rfl ?_
  refine sh_w (i := (.iconst 3)) (len := 1) (pc2 := 117) (lv2 := [(4, .int i), (3, .ref 125), (2, .ref 67), (1, .ref 1), (0, .ref 0)]) (st2 := [.int 3, .int i, .ref 0, .int (xs (Int32.toNatClampNeg (i + 2))), .int (xs (Int32.toNatClampNeg (i + 1))), .ref 1]) (h2 := h) rfl rfl rfl ?_
  refine sh_w (i := .iadd) (len := 1) (pc2 := 118) (lv2 := [(4, .int i), (3, .ref 125), (2, .ref 67), (1, .ref 1), (0, .ref 0)]) (st2 := [.int (i + 3), .ref 0, .int (xs (Int32.toNatClampNeg (i + 2))), .int (xs (Int32.toNatClampNeg (i + 1))), .ref 1]) (h2 := h) rfl rfl rfl ?_
  refine sh_sc1 (pc2 := 119) rfl hsc hI.2.2.2.2.1.1 hI.2.2.2.2.1.2 rfl ?_
  refine sh_w (i := (.aload_n 0)) (len := 1) (pc2 := 120) (lv2 := [(4, .int i), (3, .ref 125), (2, .ref 67), (1, .ref 1), (0, .ref 0)]) (st2 := [.ref 0, .int (xs (Int32.toNatClampNeg (i + 3))), .int (xs (Int32.toNatClampNeg (i + 2))), .int (xs (Int32.toNatClampNeg (i + 1))), .ref 1]) (h2 := h) rfl rfl rfl ?_
  refine sh_w (i := (.iload 4)) (len := 2) (pc2 := 122) (lv2 := [(4, .int i), (3, .ref 125), (2, .ref 67), (1, .ref 1), (0, .ref 0)]) (st2 := [.int i, .ref 0, .int (xs (Int32.toNatClampNeg (i + 3))), .int (xs (Int32.toNatClampNeg (i + 2))), .int (xs (Int32.toNatClampNeg (i + 1))), .ref 1]) (h2 := h) rfl rfl rfl ?_
  refine sh_w (i := (.iconst 4)) (len := 1) (pc2 := 123) (lv2 := [(4, .int i), (3, .ref 125), (2, .ref 67), (1, .ref 1), (0, .ref 0)]) (st2 := [.int 4, .int i, .ref 0, .int (xs (Int32.toNatClampNeg (i + 3))), .int (xs (Int32.toNatClampNeg (i + 2))), .int (xs (Int32.toNatClampNeg (i + 1))), .ref 1]) (h2 := h) rfl rfl rfl ?_
  refine sh_w (i := .iadd) (len := 1) (pc2 := 124) (lv2 := [(4, .int i), (3, .ref 125), (2, .ref 67), (1, .ref 1), (0, .ref 0)]) (st2 := [.int (i + 4), .ref 0, .int (xs (Int32.toNatClampNeg (i + 3))), .int (xs (Int32.toNatClampNeg (i + 2))), .int (xs (Int32.toNatClampNeg (i + 1))), .ref 1]) (h2 := h) rfl rfl rfl ?_
  refine sh_sc1 (pc2 := 125) rfl hsc hI.2.2.2.2.2.1.1 hI.2.2.2.2.2.1.2 rfl ?_
  refine sh_w (i := (.aload_n 0)) (len := 1) (pc2 := 126) (lv2 := [(4, .int i), (3, .ref 125), (2, .ref 67), (1, .ref 1), (0, .ref 0)]) (st2 := [.ref 0, .int (xs (Int32.toNatClampNeg (i + 4))), .int (xs (Int32.toNatClampNeg (i + 3))), .int (xs (Int32.toNatClampNeg (i + 2))), .int (xs (Int32.toNatClampNeg (i + 1))), .ref 1]) (h2 := h) rfl rfl rfl ?_
  refine sh_w (i := (.iload 4)) (len := 2) (pc2 := 128) (lv2 := [(4, .int i), (3, .ref 125), (2, .ref 67), (1, .ref 1), (0, .ref 0)]) (st2 := [.int i, .ref 0, .int (xs (Int32.toNatClampNeg (i + 4))), .int (xs (Int32.toNatClampNeg (i + 3))), .int (xs (Int32.toNatClampNeg (i + 2))), .int (xs (Int32.toNatClampNeg (i + 1))), .ref 1]) (h2 := h) rfl rfl rfl ?_
  refine sh_w (i := (.iconst 5)) (len := 1) (pc2 := 129) (lv2 := [(4, .int i), (3, .ref 125), (2, .ref 67), (1, .ref 1), (0, .ref 0)]) (st2 := [.int 5, .int i, .ref 0, .int (xs (Int32.toNatClampNeg (i + 4))), .int (xs (Int32.toNatClampNeg (i + 3))), .int (xs (Int32.toNatClampNeg (i + 2))), .int (xs (Int32.toNatClampNeg (i + 1))), .ref 1]) (h2 := h) rfl rfl rfl ?_
  refine sh_w (i := .iadd) (len := 1) (pc2 := 130) (lv2 := [(4, .int i), (3, .ref 125), (2, .ref 67), (1, .ref 1), (0, .ref 0)]) (st2 := [.int (i + 5), .ref 0, .int (xs (Int32.toNatClampNeg (i + 4))), .int (xs (Int32.toNatClampNeg (i + 3))), .int (xs (Int32.toNatClampNeg (i + 2))), .int (xs (Int32.toNatClampNeg (i + 1))), .ref 1]) (h2 := h) rfl rfl rfl ?_
  refine sh_sc1 (pc2 := 131) rfl hsc hI.2.2.2.2.2.2.1 hI.2.2.2.2.2.2.2 rfl ?_
  refine sh_cH (k2 := 13) (a := 0) (as := [.ref 1, .int (xs (Int32.toNatClampNeg (i + 1))), .int (xs (Int32.toNatClampNeg (i + 2))), .int (xs (Int32.toNatClampNeg (i + 3))), .int (xs (Int32.toNatClampNeg (i + 4))), .int (xs (Int32.toNatClampNeg (i + 5)))]) (rest := []) (st2 := [.int p]) (r := (some (.int p))) (pc2 := 134) rfl rfl rfl f0 rfl rfl ⟨Nat.le_of_ble_eq_true rfl, Nat.le_of_ble_eq_true rfl⟩ hx rfl rfl ?_
  refine sh_w (i := (.aload_n 2)) (len := 1) (pc2 := 135) (lv2 := [(4, .int i), (3, .ref 125), (2, .ref 67), (1, .ref 1), (0, .ref 0)]) (st2 := [.ref 67, .int p]) (h2 := h1) rfl rfl rfl ?_
  refine sh_w (i := (.aload_n 0)) (len := 1) (pc2 := 136) (lv2 := [(4, .int i), (3, .ref 125), (2, .ref 67), (1, .ref 1), (0, .ref 0)]) (st2 := [.ref 0, .ref 67, .int p]) (h2 := h1) rfl rfl rfl ?_
  refine sh_w (i := (.iload 4)) (len := 2) (pc2 := 138) (lv2 := [(4, .int i), (3, .ref 125), (2, .ref 67), (1, .ref 1), (0, .ref 0)]) (st2 := [.int i, .ref 0, .ref 67, .int p]) (h2 := h1) rfl rfl rfl ?_
  refine sh_w (i := (.iconst 1)) (len := 1) (pc2 := 139) (lv2 := [(4, .int i), (3, .ref 125), (2, .ref 67), (1, .ref 1), (0, .ref 0)]) (st2 := [.int 1, .int i, .ref 0, .ref 67, .int p]) (h2 := h1) rfl rfl rfl ?_
  refine sh_w (i := .iadd) (len := 1) (pc2 := 140) (lv2 := [(4, .int i), (3, .ref 125), (2, .ref 67), (1, .ref 1), (0, .ref 0)]) (st2 := [.int (i + 1), .ref 0, .ref 67, .int p]) (h2 := h1) rfl rfl rfl ?_
  refine sh_sc1 (pc2 := 141) rfl hsc hI.2.2.1.1 hI.2.2.1.2 rfl ?_
  refine sh_w (i := (.aload_n 0)) (len := 1) (pc2 := 142) (lv2 := [(4, .int i), (3, .ref 125), (2, .ref 67), (1, .ref 1), (0, .ref 0)]) (st2 := [.ref 0, .int (xs (Int32.toNatClampNeg (i + 1))), .ref 67, .int p]) (h2 := h1) rfl rfl rfl ?_
  refine sh_w (i := (.iload 4)) (len := 2) (pc2 := 144) (lv2 := [(4, .int i), (3, .ref 125), (2, .ref 67), (1, .ref 1), (0, .ref 0)]) (st2 := [.int i, .ref 0, .int (xs (Int32.toNatClampNeg (i + 1))), .ref 67, .int p]) (h2 := h1) rfl rfl rfl ?_
  refine sh_w (i := (.iconst 2)) (len := 1) (pc2 := 145) (lv2 := [(4, .int i), (3, .ref 125), (2, .ref 67), (1, .ref 1), (0, .ref 0)]) (st2 := [.int 2, .int i, .ref 0, .int (xs (Int32.toNatClampNeg (i + 1))), .ref 67, .int p]) (h2 := h1) rfl rfl rfl ?_
  refine sh_w (i := .iadd) (len := 1) (pc2 := 146) (lv2 := [(4, .int i), (3, .ref 125), (2, .ref 67), (1, .ref 1), (0, .ref 0)]) (st2 := [.int (i + 2), .ref 0, .int (xs (Int32.toNatClampNeg (i + 1))), .ref 67, .int p]) (h2 := h1) rfl rfl rfl ?_
  refine sh_sc1 (pc2 := 147) rfl hsc hI.2.2.2.1.1 hI.2.2.2.1.2 rfl ?_
  refine sh_w (i := (.aload_n 0)) (len := 1) (pc2 := 148) (lv2 := [(4, .int i), (3, .ref 125), (2, .ref 67), (1, .ref 1), (0, .ref 0)]) (st2 := [.ref 0, .int (xs (Int32.toNatClampNeg (i + 2))), .int (xs (Int32.toNatClampNeg (i + 1))), .ref 67, .int p]) (h2 := h1) rfl rfl rfl ?_
  refine sh_w (i := (.iload 4)) (len := 2) (pc2 := 150) (lv2 := [(4, .int i), (3, .ref 125), (2, .ref 67), (1, .ref 1), (0, .ref 0)]) (st2 := [.int i, .ref 0, .int (xs (Int32.toNatClampNeg (i + 2))), .int (xs (Int32.toNatClampNeg (i + 1))), .ref 67, .int p]) (h2 := h1) rfl rfl rfl ?_
  refine sh_w (i := (.iconst 3)) (len := 1) (pc2 := 151) (lv2 := [(4, .int i), (3, .ref 125), (2, .ref 67), (1, .ref 1), (0, .ref 0)]) (st2 := [.int 3, .int i, .ref 0, .int (xs (Int32.toNatClampNeg (i + 2))), .int (xs (Int32.toNatClampNeg (i + 1))), .ref 67, .int p]) (h2 := h1) rfl rfl rfl ?_
  refine sh_w (i := .iadd) (len := 1) (pc2 := 152) (lv2 := [(4, .int i), (3, .ref 125), (2, .ref 67), (1, .ref 1), (0, .ref 0)]) (st2 := [.int (i + 3), .ref 0, .int (xs (Int32.toNatClampNeg (i + 2))), .int (xs (Int32.toNatClampNeg (i + 1))), .ref 67, .int p]) (h2 := h1) rfl rfl rfl ?_
  refine sh_sc1 (pc2 := 153) rfl hsc hI.2.2.2.2.1.1 hI.2.2.2.2.1.2 rfl ?_
  refine sh_w (i := (.aload_n 0)) (len := 1) (pc2 := 154) (lv2 := [(4, .int i), (3, .ref 125), (2, .ref 67), (1, .ref 1), (0, .ref 0)]) (st2 := [.ref 0, .int (xs (Int32.toNatClampNeg (i + 3))), .int (xs (Int32.toNatClampNeg (i + 2))), .int (xs (Int32.toNatClampNeg (i + 1))), .ref 67, .int p]) (h2 := h1) rfl rfl rfl ?_
  refine sh_w (i := (.iload 4)) (len := 2) (pc2 := 156) (lv2 := [(4, .int i), (3, .ref 125), (2, .ref 67), (1, .ref 1), (0, .ref 0)]) (st2 := [.int i, .ref 0, .int (xs (Int32.toNatClampNeg (i + 3))), .int (xs (Int32.toNatClampNeg (i + 2))), .int (xs (Int32.toNatClampNeg (i + 1))), .ref 67, .int p]) (h2 := h1) rfl rfl rfl ?_
  refine sh_w (i := (.iconst 4)) (len := 1) (pc2 := 157) (lv2 := [(4, .int i), (3, .ref 125), (2, .ref 67), (1, .ref 1), (0, .ref 0)]) (st2 := [.int 4, .int i, .ref 0, .int (xs (Int32.toNatClampNeg (i + 3))), .int (xs (Int32.toNatClampNeg (i + 2))), .int (xs (Int32.toNatClampNeg (i + 1))), .ref 67, .int p]) (h2 := h1) rfl rfl rfl ?_
  refine sh_w (i := .iadd) (len := 1) (pc2 := 158) (lv2 := [(4, .int i), (3, .ref 125), (2, .ref 67), (1, .ref 1), (0, .ref 0)]) (st2 := [.int (i + 4), .ref 0, .int (xs (Int32.toNatClampNeg (i + 3))), .int (xs (Int32.toNatClampNeg (i + 2))), .int (xs (Int32.toNatClampNeg (i + 1))), .ref 67, .int p]) (h2 := h1) rfl rfl rfl ?_
  refine sh_sc1 (pc2 := 159) rfl hsc hI.2.2.2.2.2.1.1 hI.2.2.2.2.2.1.2 rfl ?_
  refine sh_w (i := (.aload_n 0)) (len := 1) (pc2 := 160) (lv2 := [(4, .int i), (3, .ref 125), (2, .ref 67), (1, .ref 1), (0, .ref 0)]) (st2 := [.ref 0, .int (xs (Int32.toNatClampNeg (i + 4))), .int (xs (Int32.toNatClampNeg (i + 3))), .int (xs (Int32.toNatClampNeg (i + 2))), .int (xs (Int32.toNatClampNeg (i + 1))), .ref 67, .int p]) (h2 := h1) rfl rfl rfl ?_
  refine sh_w (i := (.iload 4)) (len := 2) (pc2 := 162) (lv2 := [(4, .int i), (3, .ref 125), (2, .ref 67), (1, .ref 1), (0, .ref 0)]) (st2 := [.int i, .ref 0, .int (xs (Int32.toNatClampNeg (i + 4))), .int (xs (Int32.toNatClampNeg (i + 3))), .int (xs (Int32.toNatClampNeg (i + 2))), .int (xs (Int32.toNatClampNeg (i + 1))), .ref 67, .int p]) (h2 := h1) rfl rfl rfl ?_
  refine sh_w (i := (.iconst 5)) (len := 1) (pc2 := 163) (lv2 := [(4, .int i), (3, .ref 125), (2, .ref 67), (1, .ref 1), (0, .ref 0)]) (st2 := [.int 5, .int i, .ref 0, .int (xs (Int32.toNatClampNeg (i + 4))), .int (xs (Int32.toNatClampNeg (i + 3))), .int (xs (Int32.toNatClampNeg (i + 2))), .int (xs (Int32.toNatClampNeg (i + 1))), .ref 67, .int p]) (h2 := h1) rfl rfl rfl ?_
  refine sh_w (i := .iadd) (len := 1) (pc2 := 164) (lv2 := [(4, .int i), (3, .ref 125), (2, .ref 67), (1, .ref 1), (0, .ref 0)]) (st2 := [.int (i + 5), .ref 0, .int (xs (Int32.toNatClampNeg (i + 4))), .int (xs (Int32.toNatClampNeg (i + 3))), .int (xs (Int32.toNatClampNeg (i + 2))), .int (xs (Int32.toNatClampNeg (i + 1))), .ref 67, .int p]) (h2 := h1) rfl rfl rfl ?_
  refine sh_sc1 (pc2 := 165) rfl hsc hI.2.2.2.2.2.2.1 hI.2.2.2.2.2.2.2 rfl ?_
  refine sh_cH (k2 := 244) (a := 66) (as := [.ref 67, .int (xs (Int32.toNatClampNeg (i + 1))), .int (xs (Int32.toNatClampNeg (i + 2))), .int (xs (Int32.toNatClampNeg (i + 3))), .int (xs (Int32.toNatClampNeg (i + 4))), .int (xs (Int32.toNatClampNeg (i + 5)))]) (rest := [.int p]) (st2 := [.int q, .int p]) (r := (some (.int q))) (pc2 := 168) rfl rfl rfl f1 rfl rfl ⟨Nat.le_of_ble_eq_true rfl, Nat.le_of_ble_eq_true rfl⟩ hm rfl rfl ?_
  refine sh_jc (c := .eq) (off := (349)) (pc2 := 517) true rfl (sh_Beqt hpq) rfl ?_
  refine sh_w (i := (.iinc 4 6)) (len := 3) (pc2 := 520) (lv2 := [(4, .int (i + 6)), (3, .ref 125), (2, .ref 67), (1, .ref 1), (0, .ref 0)]) (st2 := []) (h2 := h2) rfl rfl rfl ?_
  refine sh_w (i := (.goto (-497))) (len := 3) (pc2 := 23) (lv2 := [(4, .int (i + 6)), (3, .ref 125), (2, .ref 67), (1, .ref 1), (0, .ref 0)]) (st2 := []) (h2 := h2) rfl rfl rfl ?_
  exact kk
theorem sh_law1 {p q : Int32} (hsc : sc.1 = some (L, xs)) (hI : sh_Ix i L) (hc : xs (Int32.toNatClampNeg i) &&& 15 = 1) (f0 : ∃ fs, h[0]? = some (.inr (0, fs))) (f1 : ∃ fs, h1[66]? = some (.inr (12, fs))) (hx : sh_To sh_G0 sc 15 0 [(0, .ref 1), (1, .int (xs (Int32.toNatClampNeg (i + 1))))] [] h (.returned (some (.int p))) h1 v1) (hm : sh_To sh_G0 sc 245 0 [(0, .ref 67), (1, .int (xs (Int32.toNatClampNeg (i + 1))))] [] h1 (.returned (some (.int q))) h2 v2) (hpq : p = q) (kk : sh_To sh_G0 sc 0 23 [(4, .int (i + 6)), (3, .ref 125), (2, .ref 67), (1, .ref 1), (0, .ref 0)] [] h2 o h3 v) : sh_To sh_G0 sc 0 23 [(4, .int i), (3, .ref 125), (2, .ref 67), (1, .ref 1), (0, .ref 0)] [] h o h3 (sh_seq (sh_L sh_G0 15) v1 (sh_seq (sh_L sh_G0 245) v2 v)) := by
  refine sh_w (i := (.iload 4)) (len := 2) (pc2 := 25) (lv2 := [(4, .int i), (3, .ref 125), (2, .ref 67), (1, .ref 1), (0, .ref 0)]) (st2 := [.int i]) (h2 := h) rfl rfl rfl ?_
  refine sh_w (i := (.aload_n 0)) (len := 1) (pc2 := 26) (lv2 := [(4, .int i), (3, .ref 125), (2, .ref 67), (1, .ref 1), (0, .ref 0)]) (st2 := [.ref 0, .int i]) (h2 := h) rfl rfl rfl ?_
  refine sh_sl1 (pc2 := 27) rfl hsc rfl ?_
  refine sh_w (i := (.bipush 6)) (len := 2) (pc2 := 29) (lv2 := [(4, .int i), (3, .ref 125), (2, .ref 67), (1, .ref 1), (0, .ref 0)]) (st2 := [.int 6, .int (Int32.ofNat L), .int i]) (h2 := h) rfl rfl rfl ?_
  refine sh_w (i := .isub) (len := 1) (pc2 := 30) (lv2 := [(4, .int i), (3, .ref 125), (2, .ref 67), (1, .ref 1), (0, .ref 0)]) (st2 := [.int ((Int32.ofNat L) - 6), .int i]) (h2 := h) rfl rfl rfl ?_
  refine sh_jc (c := .gt) (off := (493)) (pc2 := 33) false rfl (sh_Bgtf hI.1) rfl ?_
  refine sh_w (i := (.aload_n 0)) (len := 1) (pc2 := 34) (lv2 := [(4, .int i), (3, .ref 125), (2, .ref 67), (1, .ref 1), (0, .ref 0)]) (st2 := [.ref 0]) (h2 := h) rfl rfl rfl ?_
  refine sh_w (i := (.iload 4)) (len := 2) (pc2 := 36) (lv2 := [(4, .int i), (3, .ref 125), (2, .ref 67), (1, .ref 1), (0, .ref 0)]) (st2 := [.int i, .ref 0]) (h2 := h) rfl rfl rfl ?_
  refine sh_sc1 (pc2 := 37) rfl hsc hI.2.1.1 hI.2.1.2 rfl ?_
  refine sh_w (i := (.bipush 15)) (len := 2) (pc2 := 39) (lv2 := [(4, .int i), (3, .ref 125), (2, .ref 67), (1, .ref 1), (0, .ref 0)]) (st2 := [.int 15, .int (xs (Int32.toNatClampNeg i))]) (h2 := h) rfl rfl rfl ?_
  refine sh_w (i := .iand) (len := 1) (pc2 := 40) (lv2 := [(4, .int i), (3, .ref 125), (2, .ref 67), (1, .ref 1), (0, .ref 0)]) (st2 := [.int 1]) (h2 := h) rfl rfl (congrArg (fun z => some (40, [(4, Value.int i), (3, Value.ref 125), (2, Value.ref 67), (1, Value.ref 1), (0, Value.ref 0)], [Value.int z], h, 0, 0)) hc) ?_
  refine sh_w (i := (.tableswitch 477 0 10 #[60, 133, 158, 171, 184, 197, 222, 290, 362, 409, 422])) (len := 60) (pc2 := 173) (lv2 := [(4, .int i), (3, .ref 125), (2, .ref 67), (1, .ref 1), (0, .ref 0)]) (st2 := []) (h2 := h) rfl rfl rfl ?_
  refine sh_w (i := (.aload_n 1)) (len := 1) (pc2 := 174) (lv2 := [(4, .int i), (3, .ref 125), (2, .ref 67), (1, .ref 1), (0, .ref 0)]) (st2 := [.ref 1]) (h2 := h) rfl rfl rfl ?_
  refine sh_w (i := (.aload_n 0)) (len := 1) (pc2 := 175) (lv2 := [(4, .int i), (3, .ref 125), (2, .ref 67), (1, .ref 1), (0, .ref 0)]) (st2 := [.ref 0, .ref 1]) (h2 := h) rfl rfl rfl ?_
  refine sh_w (i := (.iload 4)) (len := 2) (pc2 := 177) (lv2 := [(4, .int i), (3, .ref 125), (2, .ref 67), (1, .ref 1), (0, .ref 0)]) (st2 := [.int i, .ref 0, .ref 1]) (h2 := h) rfl rfl rfl ?_
  refine sh_w (i := (.iconst 1)) (len := 1) (pc2 := 178) (lv2 := [(4, .int i), (3, .ref 125), (2, .ref 67), (1, .ref 1), (0, .ref 0)]) (st2 := [.int 1, .int i, .ref 0, .ref 1]) (h2 := h) rfl rfl rfl ?_
  refine sh_w (i := .iadd) (len := 1) (pc2 := 179) (lv2 := [(4, .int i), (3, .ref 125), (2, .ref 67), (1, .ref 1), (0, .ref 0)]) (st2 := [.int (i + 1), .ref 0, .ref 1]) (h2 := h) rfl rfl rfl ?_
  refine sh_sc1 (pc2 := 180) rfl hsc hI.2.2.1.1 hI.2.2.1.2 rfl ?_
  refine sh_cH (k2 := 15) (a := 0) (as := [.ref 1, .int (xs (Int32.toNatClampNeg (i + 1)))]) (rest := []) (st2 := [.int p]) (r := (some (.int p))) (pc2 := 183) rfl rfl rfl f0 rfl rfl ⟨Nat.le_of_ble_eq_true rfl, Nat.le_of_ble_eq_true rfl⟩ hx rfl rfl ?_
  refine sh_w (i := (.aload_n 2)) (len := 1) (pc2 := 184) (lv2 := [(4, .int i), (3, .ref 125), (2, .ref 67), (1, .ref 1), (0, .ref 0)]) (st2 := [.ref 67, .int p]) (h2 := h1) rfl rfl rfl ?_
  refine sh_w (i := (.aload_n 0)) (len := 1) (pc2 := 185) (lv2 := [(4, .int i), (3, .ref 125), (2, .ref 67), (1, .ref 1), (0, .ref 0)]) (st2 := [.ref 0, .ref 67, .int p]) (h2 := h1) rfl rfl rfl ?_
  refine sh_w (i := (.iload 4)) (len := 2) (pc2 := 187) (lv2 := [(4, .int i), (3, .ref 125), (2, .ref 67), (1, .ref 1), (0, .ref 0)]) (st2 := [.int i, .ref 0, .ref 67, .int p]) (h2 := h1) rfl rfl rfl ?_
  refine sh_w (i := (.iconst 1)) (len := 1) (pc2 := 188) (lv2 := [(4, .int i), (3, .ref 125), (2, .ref 67), (1, .ref 1), (0, .ref 0)]) (st2 := [.int 1, .int i, .ref 0, .ref 67, .int p]) (h2 := h1) rfl rfl rfl ?_
  refine sh_w (i := .iadd) (len := 1) (pc2 := 189) (lv2 := [(4, .int i), (3, .ref 125), (2, .ref 67), (1, .ref 1), (0, .ref 0)]) (st2 := [.int (i + 1), .ref 0, .ref 67, .int p]) (h2 := h1) rfl rfl rfl ?_
  refine sh_sc1 (pc2 := 190) rfl hsc hI.2.2.1.1 hI.2.2.1.2 rfl ?_
  refine sh_cH (k2 := 245) (a := 66) (as := [.ref 67, .int (xs (Int32.toNatClampNeg (i + 1)))]) (rest := [.int p]) (st2 := [.int q, .int p]) (r := (some (.int q))) (pc2 := 193) rfl rfl rfl f1 rfl rfl ⟨Nat.le_of_ble_eq_true rfl, Nat.le_of_ble_eq_true rfl⟩ hm rfl rfl ?_
  refine sh_jc (c := .eq) (off := (324)) (pc2 := 517) true rfl (sh_Beqt hpq) rfl ?_
  refine sh_w (i := (.iinc 4 6)) (len := 3) (pc2 := 520) (lv2 := [(4, .int (i + 6)), (3, .ref 125), (2, .ref 67), (1, .ref 1), (0, .ref 0)]) (st2 := []) (h2 := h2) rfl rfl rfl ?_
  refine sh_w (i := (.goto (-497))) (len := 3) (pc2 := 23) (lv2 := [(4, .int (i + 6)), (3, .ref 125), (2, .ref 67), (1, .ref 1), (0, .ref 0)]) (st2 := []) (h2 := h2) rfl rfl rfl ?_
  exact kk
theorem sh_law2 {p q : Int32} (hsc : sc.1 = some (L, xs)) (hI : sh_Ix i L) (hc : xs (Int32.toNatClampNeg i) &&& 15 = 2) (f0 : ∃ fs, h[0]? = some (.inr (0, fs))) (f1 : ∃ fs, h1[66]? = some (.inr (12, fs))) (hx : sh_To sh_G0 sc 16 0 [(0, .ref 1)] [] h (.returned (some (.int p))) h1 v1) (hm : sh_To sh_G0 sc 246 0 [(0, .ref 67)] [] h1 (.returned (some (.int q))) h2 v2) (hpq : p = q) (kk : sh_To sh_G0 sc 0 23 [(4, .int (i + 6)), (3, .ref 125), (2, .ref 67), (1, .ref 1), (0, .ref 0)] [] h2 o h3 v) : sh_To sh_G0 sc 0 23 [(4, .int i), (3, .ref 125), (2, .ref 67), (1, .ref 1), (0, .ref 0)] [] h o h3 (sh_seq (sh_L sh_G0 16) v1 (sh_seq (sh_L sh_G0 246) v2 v)) := by
  refine sh_w (i := (.iload 4)) (len := 2) (pc2 := 25) (lv2 := [(4, .int i), (3, .ref 125), (2, .ref 67), (1, .ref 1), (0, .ref 0)]) (st2 := [.int i]) (h2 := h) rfl rfl rfl ?_
  refine sh_w (i := (.aload_n 0)) (len := 1) (pc2 := 26) (lv2 := [(4, .int i), (3, .ref 125), (2, .ref 67), (1, .ref 1), (0, .ref 0)]) (st2 := [.ref 0, .int i]) (h2 := h) rfl rfl rfl ?_
  refine sh_sl1 (pc2 := 27) rfl hsc rfl ?_
  refine sh_w (i := (.bipush 6)) (len := 2) (pc2 := 29) (lv2 := [(4, .int i), (3, .ref 125), (2, .ref 67), (1, .ref 1), (0, .ref 0)]) (st2 := [.int 6, .int (Int32.ofNat L), .int i]) (h2 := h) rfl rfl rfl ?_
  refine sh_w (i := .isub) (len := 1) (pc2 := 30) (lv2 := [(4, .int i), (3, .ref 125), (2, .ref 67), (1, .ref 1), (0, .ref 0)]) (st2 := [.int ((Int32.ofNat L) - 6), .int i]) (h2 := h) rfl rfl rfl ?_
  refine sh_jc (c := .gt) (off := (493)) (pc2 := 33) false rfl (sh_Bgtf hI.1) rfl ?_
  refine sh_w (i := (.aload_n 0)) (len := 1) (pc2 := 34) (lv2 := [(4, .int i), (3, .ref 125), (2, .ref 67), (1, .ref 1), (0, .ref 0)]) (st2 := [.ref 0]) (h2 := h) rfl rfl rfl ?_
  refine sh_w (i := (.iload 4)) (len := 2) (pc2 := 36) (lv2 := [(4, .int i), (3, .ref 125), (2, .ref 67), (1, .ref 1), (0, .ref 0)]) (st2 := [.int i, .ref 0]) (h2 := h) rfl rfl rfl ?_
  refine sh_sc1 (pc2 := 37) rfl hsc hI.2.1.1 hI.2.1.2 rfl ?_
  refine sh_w (i := (.bipush 15)) (len := 2) (pc2 := 39) (lv2 := [(4, .int i), (3, .ref 125), (2, .ref 67), (1, .ref 1), (0, .ref 0)]) (st2 := [.int 15, .int (xs (Int32.toNatClampNeg i))]) (h2 := h) rfl rfl rfl ?_
  refine sh_w (i := .iand) (len := 1) (pc2 := 40) (lv2 := [(4, .int i), (3, .ref 125), (2, .ref 67), (1, .ref 1), (0, .ref 0)]) (st2 := [.int 2]) (h2 := h) rfl rfl (congrArg (fun z => some (40, [(4, Value.int i), (3, Value.ref 125), (2, Value.ref 67), (1, Value.ref 1), (0, Value.ref 0)], [Value.int z], h, 0, 0)) hc) ?_
  refine sh_w (i := (.tableswitch 477 0 10 #[60, 133, 158, 171, 184, 197, 222, 290, 362, 409, 422])) (len := 60) (pc2 := 198) (lv2 := [(4, .int i), (3, .ref 125), (2, .ref 67), (1, .ref 1), (0, .ref 0)]) (st2 := []) (h2 := h) rfl rfl rfl ?_
  refine sh_w (i := (.aload_n 1)) (len := 1) (pc2 := 199) (lv2 := [(4, .int i), (3, .ref 125), (2, .ref 67), (1, .ref 1), (0, .ref 0)]) (st2 := [.ref 1]) (h2 := h) rfl rfl rfl ?_
  refine sh_cH (k2 := 16) (a := 0) (as := [.ref 1]) (rest := []) (st2 := [.int p]) (r := (some (.int p))) (pc2 := 202) rfl rfl rfl f0 rfl rfl ⟨Nat.le_of_ble_eq_true rfl, Nat.le_of_ble_eq_true rfl⟩ hx rfl rfl ?_
  refine sh_w (i := (.aload_n 2)) (len := 1) (pc2 := 203) (lv2 := [(4, .int i), (3, .ref 125), (2, .ref 67), (1, .ref 1), (0, .ref 0)]) (st2 := [.ref 67, .int p]) (h2 := h1) rfl rfl rfl ?_
  refine sh_cH (k2 := 246) (a := 66) (as := [.ref 67]) (rest := [.int p]) (st2 := [.int q, .int p]) (r := (some (.int q))) (pc2 := 206) rfl rfl rfl f1 rfl rfl ⟨Nat.le_of_ble_eq_true rfl, Nat.le_of_ble_eq_true rfl⟩ hm rfl rfl ?_
  refine sh_jc (c := .eq) (off := (311)) (pc2 := 517) true rfl (sh_Beqt hpq) rfl ?_
  refine sh_w (i := (.iinc 4 6)) (len := 3) (pc2 := 520) (lv2 := [(4, .int (i + 6)), (3, .ref 125), (2, .ref 67), (1, .ref 1), (0, .ref 0)]) (st2 := []) (h2 := h2) rfl rfl rfl ?_
  refine sh_w (i := (.goto (-497))) (len := 3) (pc2 := 23) (lv2 := [(4, .int (i + 6)), (3, .ref 125), (2, .ref 67), (1, .ref 1), (0, .ref 0)]) (st2 := []) (h2 := h2) rfl rfl rfl ?_
  exact kk
theorem sh_law3 {p q : Int32} (hsc : sc.1 = some (L, xs)) (hI : sh_Ix i L) (hc : xs (Int32.toNatClampNeg i) &&& 15 = 3) (f0 : ∃ fs, h[0]? = some (.inr (0, fs))) (f1 : ∃ fs, h1[66]? = some (.inr (12, fs))) (hx : sh_To sh_G0 sc 199 0 [(0, .ref 1)] [] h (.returned (some (.int p))) h1 v1) (hm : sh_To sh_G0 sc 323 0 [(0, .ref 67)] [] h1 (.returned (some (.int q))) h2 v2) (hpq : p = q) (kk : sh_To sh_G0 sc 0 23 [(4, .int (i + 6)), (3, .ref 125), (2, .ref 67), (1, .ref 1), (0, .ref 0)] [] h2 o h3 v) : sh_To sh_G0 sc 0 23 [(4, .int i), (3, .ref 125), (2, .ref 67), (1, .ref 1), (0, .ref 0)] [] h o h3 (sh_seq (sh_L sh_G0 199) v1 (sh_seq (sh_L sh_G0 323) v2 v)) := by
  refine sh_w (i := (.iload 4)) (len := 2) (pc2 := 25) (lv2 := [(4, .int i), (3, .ref 125), (2, .ref 67), (1, .ref 1), (0, .ref 0)]) (st2 := [.int i]) (h2 := h) rfl rfl rfl ?_
  refine sh_w (i := (.aload_n 0)) (len := 1) (pc2 := 26) (lv2 := [(4, .int i), (3, .ref 125), (2, .ref 67), (1, .ref 1), (0, .ref 0)]) (st2 := [.ref 0, .int i]) (h2 := h) rfl rfl rfl ?_
  refine sh_sl1 (pc2 := 27) rfl hsc rfl ?_
  refine sh_w (i := (.bipush 6)) (len := 2) (pc2 := 29) (lv2 := [(4, .int i), (3, .ref 125), (2, .ref 67), (1, .ref 1), (0, .ref 0)]) (st2 := [.int 6, .int (Int32.ofNat L), .int i]) (h2 := h) rfl rfl rfl ?_
  refine sh_w (i := .isub) (len := 1) (pc2 := 30) (lv2 := [(4, .int i), (3, .ref 125), (2, .ref 67), (1, .ref 1), (0, .ref 0)]) (st2 := [.int ((Int32.ofNat L) - 6), .int i]) (h2 := h) rfl rfl rfl ?_
  refine sh_jc (c := .gt) (off := (493)) (pc2 := 33) false rfl (sh_Bgtf hI.1) rfl ?_
  refine sh_w (i := (.aload_n 0)) (len := 1) (pc2 := 34) (lv2 := [(4, .int i), (3, .ref 125), (2, .ref 67), (1, .ref 1), (0, .ref 0)]) (st2 := [.ref 0]) (h2 := h) rfl rfl rfl ?_
  refine sh_w (i := (.iload 4)) (len := 2) (pc2 := 36) (lv2 := [(4, .int i), (3, .ref 125), (2, .ref 67), (1, .ref 1), (0, .ref 0)]) (st2 := [.int i, .ref 0]) (h2 := h) rfl rfl rfl ?_
  refine sh_sc1 (pc2 := 37) rfl hsc hI.2.1.1 hI.2.1.2 rfl ?_
  refine sh_w (i := (.bipush 15)) (len := 2) (pc2 := 39) (lv2 := [(4, .int i), (3, .ref 125), (2, .ref 67), (1, .ref 1), (0, .ref 0)]) (st2 := [.int 15, .int (xs (Int32.toNatClampNeg i))]) (h2 := h) rfl rfl rfl ?_
  refine sh_w (i := .iand) (len := 1) (pc2 := 40) (lv2 := [(4, .int i), (3, .ref 125), (2, .ref 67), (1, .ref 1), (0, .ref 0)]) (st2 := [.int 3]) (h2 := h) rfl rfl (congrArg (fun z => some (40, [(4, Value.int i), (3, Value.ref 125), (2, Value.ref 67), (1, Value.ref 1), (0, Value.ref 0)], [Value.int z], h, 0, 0)) hc) ?_
  refine sh_w (i := (.tableswitch 477 0 10 #[60, 133, 158, 171, 184, 197, 222, 290, 362, 409, 422])) (len := 60) (pc2 := 211) (lv2 := [(4, .int i), (3, .ref 125), (2, .ref 67), (1, .ref 1), (0, .ref 0)]) (st2 := []) (h2 := h) rfl rfl rfl ?_
  refine sh_w (i := (.aload_n 1)) (len := 1) (pc2 := 212) (lv2 := [(4, .int i), (3, .ref 125), (2, .ref 67), (1, .ref 1), (0, .ref 0)]) (st2 := [.ref 1]) (h2 := h) rfl rfl rfl ?_
  refine sh_cH (k2 := 199) (a := 0) (as := [.ref 1]) (rest := []) (st2 := [.int p]) (r := (some (.int p))) (pc2 := 215) rfl rfl rfl f0 rfl rfl ⟨Nat.le_of_ble_eq_true rfl, Nat.le_of_ble_eq_true rfl⟩ hx rfl rfl ?_
  refine sh_w (i := (.aload_n 2)) (len := 1) (pc2 := 216) (lv2 := [(4, .int i), (3, .ref 125), (2, .ref 67), (1, .ref 1), (0, .ref 0)]) (st2 := [.ref 67, .int p]) (h2 := h1) rfl rfl rfl ?_
  refine sh_cH (k2 := 323) (a := 66) (as := [.ref 67]) (rest := [.int p]) (st2 := [.int q, .int p]) (r := (some (.int q))) (pc2 := 219) rfl rfl rfl f1 rfl rfl ⟨Nat.le_of_ble_eq_true rfl, Nat.le_of_ble_eq_true rfl⟩ hm rfl rfl ?_
  refine sh_jc (c := .eq) (off := (298)) (pc2 := 517) true rfl (sh_Beqt hpq) rfl ?_
  refine sh_w (i := (.iinc 4 6)) (len := 3) (pc2 := 520) (lv2 := [(4, .int (i + 6)), (3, .ref 125), (2, .ref 67), (1, .ref 1), (0, .ref 0)]) (st2 := []) (h2 := h2) rfl rfl rfl ?_
  refine sh_w (i := (.goto (-497))) (len := 3) (pc2 := 23) (lv2 := [(4, .int (i + 6)), (3, .ref 125), (2, .ref 67), (1, .ref 1), (0, .ref 0)]) (st2 := []) (h2 := h2) rfl rfl rfl ?_
  exact kk
theorem sh_law4 {p q : Int32} (hsc : sc.1 = some (L, xs)) (hI : sh_Ix i L) (hc : xs (Int32.toNatClampNeg i) &&& 15 = 4) (f0 : ∃ fs, h[0]? = some (.inr (0, fs))) (f1 : ∃ fs, h1[66]? = some (.inr (12, fs))) (hx : sh_To sh_G0 sc 213 0 [(0, .ref 1)] [] h (.returned (some (.int p))) h1 v1) (hm : sh_To sh_G0 sc 332 0 [(0, .ref 67)] [] h1 (.returned (some (.int q))) h2 v2) (hpq : p = q) (kk : sh_To sh_G0 sc 0 23 [(4, .int (i + 6)), (3, .ref 125), (2, .ref 67), (1, .ref 1), (0, .ref 0)] [] h2 o h3 v) : sh_To sh_G0 sc 0 23 [(4, .int i), (3, .ref 125), (2, .ref 67), (1, .ref 1), (0, .ref 0)] [] h o h3 (sh_seq (sh_L sh_G0 213) v1 (sh_seq (sh_L sh_G0 332) v2 v)) := by
  refine sh_w (i := (.iload 4)) (len := 2) (pc2 := 25) (lv2 := [(4, .int i), (3, .ref 125), (2, .ref 67), (1, .ref 1), (0, .ref 0)]) (st2 := [.int i]) (h2 := h) rfl rfl rfl ?_
  refine sh_w (i := (.aload_n 0)) (len := 1) (pc2 := 26) (lv2 := [(4, .int i), (3, .ref 125), (2, .ref 67), (1, .ref 1), (0, .ref 0)]) (st2 := [.ref 0, .int i]) (h2 := h) rfl rfl rfl ?_
  refine sh_sl1 (pc2 := 27) rfl hsc rfl ?_
  refine sh_w (i := (.bipush 6)) (len := 2) (pc2 := 29) (lv2 := [(4, .int i), (3, .ref 125), (2, .ref 67), (1, .ref 1), (0, .ref 0)]) (st2 := [.int 6, .int (Int32.ofNat L), .int i]) (h2 := h) rfl rfl rfl ?_
  refine sh_w (i := .isub) (len := 1) (pc2 := 30) (lv2 := [(4, .int i), (3, .ref 125), (2, .ref 67), (1, .ref 1), (0, .ref 0)]) (st2 := [.int ((Int32.ofNat L) - 6), .int i]) (h2 := h) rfl rfl rfl ?_
  refine sh_jc (c := .gt) (off := (493)) (pc2 := 33) false rfl (sh_Bgtf hI.1) rfl ?_
  refine sh_w (i := (.aload_n 0)) (len := 1) (pc2 := 34) (lv2 := [(4, .int i), (3, .ref 125), (2, .ref 67), (1, .ref 1), (0, .ref 0)]) (st2 := [.ref 0]) (h2 := h) rfl rfl rfl ?_
  refine sh_w (i := (.iload 4)) (len := 2) (pc2 := 36) (lv2 := [(4, .int i), (3, .ref 125), (2, .ref 67), (1, .ref 1), (0, .ref 0)]) (st2 := [.int i, .ref 0]) (h2 := h) rfl rfl rfl ?_
  refine sh_sc1 (pc2 := 37) rfl hsc hI.2.1.1 hI.2.1.2 rfl ?_
  refine sh_w (i := (.bipush 15)) (len := 2) (pc2 := 39) (lv2 := [(4, .int i), (3, .ref 125), (2, .ref 67), (1, .ref 1), (0, .ref 0)]) (st2 := [.int 15, .int (xs (Int32.toNatClampNeg i))]) (h2 := h) rfl rfl rfl ?_
  refine sh_w (i := .iand) (len := 1) (pc2 := 40) (lv2 := [(4, .int i), (3, .ref 125), (2, .ref 67), (1, .ref 1), (0, .ref 0)]) (st2 := [.int 4]) (h2 := h) rfl rfl (congrArg (fun z => some (40, [(4, Value.int i), (3, Value.ref 125), (2, Value.ref 67), (1, Value.ref 1), (0, Value.ref 0)], [Value.int z], h, 0, 0)) hc) ?_
  refine sh_w (i := (.tableswitch 477 0 10 #[60, 133, 158, 171, 184, 197, 222, 290, 362, 409, 422])) (len := 60) (pc2 := 224) (lv2 := [(4, .int i), (3, .ref 125), (2, .ref 67), (1, .ref 1), (0, .ref 0)]) (st2 := []) (h2 := h) rfl rfl rfl ?_
  refine sh_w (i := (.aload_n 1)) (len := 1) (pc2 := 225) (lv2 := [(4, .int i), (3, .ref 125), (2, .ref 67), (1, .ref 1), (0, .ref 0)]) (st2 := [.ref 1]) (h2 := h) rfl rfl rfl ?_
  refine sh_cH (k2 := 213) (a := 0) (as := [.ref 1]) (rest := []) (st2 := [.int p]) (r := (some (.int p))) (pc2 := 228) rfl rfl rfl f0 rfl rfl ⟨Nat.le_of_ble_eq_true rfl, Nat.le_of_ble_eq_true rfl⟩ hx rfl rfl ?_
  refine sh_w (i := (.aload_n 2)) (len := 1) (pc2 := 229) (lv2 := [(4, .int i), (3, .ref 125), (2, .ref 67), (1, .ref 1), (0, .ref 0)]) (st2 := [.ref 67, .int p]) (h2 := h1) rfl rfl rfl ?_
  refine sh_cH (k2 := 332) (a := 66) (as := [.ref 67]) (rest := [.int p]) (st2 := [.int q, .int p]) (r := (some (.int q))) (pc2 := 232) rfl rfl rfl f1 rfl rfl ⟨Nat.le_of_ble_eq_true rfl, Nat.le_of_ble_eq_true rfl⟩ hm rfl rfl ?_
  refine sh_jc (c := .eq) (off := (285)) (pc2 := 517) true rfl (sh_Beqt hpq) rfl ?_
  refine sh_w (i := (.iinc 4 6)) (len := 3) (pc2 := 520) (lv2 := [(4, .int (i + 6)), (3, .ref 125), (2, .ref 67), (1, .ref 1), (0, .ref 0)]) (st2 := []) (h2 := h2) rfl rfl rfl ?_
  refine sh_w (i := (.goto (-497))) (len := 3) (pc2 := 23) (lv2 := [(4, .int (i + 6)), (3, .ref 125), (2, .ref 67), (1, .ref 1), (0, .ref 0)]) (st2 := []) (h2 := h2) rfl rfl rfl ?_
  exact kk
theorem sh_law5 {p q : Int32} (hsc : sc.1 = some (L, xs)) (hI : sh_Ix i L) (hc : xs (Int32.toNatClampNeg i) &&& 15 = 5) (f0 : ∃ fs, h[0]? = some (.inr (0, fs))) (f1 : ∃ fs, h1[66]? = some (.inr (12, fs))) (hx : sh_To sh_G0 sc 214 0 [(0, .ref 1), (1, .int (xs (Int32.toNatClampNeg (i + 1))))] [] h (.returned (some (.int p))) h1 v1) (hm : sh_To sh_G0 sc 333 0 [(0, .ref 67), (1, .int (xs (Int32.toNatClampNeg (i + 1))))] [] h1 (.returned (some (.int q))) h2 v2) (hpq : p = q) (kk : sh_To sh_G0 sc 0 23 [(4, .int (i + 6)), (3, .ref 125), (2, .ref 67), (1, .ref 1), (0, .ref 0)] [] h2 o h3 v) : sh_To sh_G0 sc 0 23 [(4, .int i), (3, .ref 125), (2, .ref 67), (1, .ref 1), (0, .ref 0)] [] h o h3 (sh_seq (sh_L sh_G0 214) v1 (sh_seq (sh_L sh_G0 333) v2 v)) := by
  refine sh_w (i := (.iload 4)) (len := 2) (pc2 := 25) (lv2 := [(4, .int i), (3, .ref 125), (2, .ref 67), (1, .ref 1), (0, .ref 0)]) (st2 := [.int i]) (h2 := h) rfl rfl rfl ?_
  refine sh_w (i := (.aload_n 0)) (len := 1) (pc2 := 26) (lv2 := [(4, .int i), (3, .ref 125), (2, .ref 67), (1, .ref 1), (0, .ref 0)]) (st2 := [.ref 0, .int i]) (h2 := h) rfl rfl rfl ?_
  refine sh_sl1 (pc2 := 27) rfl hsc rfl ?_
  refine sh_w (i := (.bipush 6)) (len := 2) (pc2 := 29) (lv2 := [(4, .int i), (3, .ref 125), (2, .ref 67), (1, .ref 1), (0, .ref 0)]) (st2 := [.int 6, .int (Int32.ofNat L), .int i]) (h2 := h) rfl rfl rfl ?_
  refine sh_w (i := .isub) (len := 1) (pc2 := 30) (lv2 := [(4, .int i), (3, .ref 125), (2, .ref 67), (1, .ref 1), (0, .ref 0)]) (st2 := [.int ((Int32.ofNat L) - 6), .int i]) (h2 := h) rfl rfl rfl ?_
  refine sh_jc (c := .gt) (off := (493)) (pc2 := 33) false rfl (sh_Bgtf hI.1) rfl ?_
  refine sh_w (i := (.aload_n 0)) (len := 1) (pc2 := 34) (lv2 := [(4, .int i), (3, .ref 125), (2, .ref 67), (1, .ref 1), (0, .ref 0)]) (st2 := [.ref 0]) (h2 := h) rfl rfl rfl ?_
  refine sh_w (i := (.iload 4)) (len := 2) (pc2 := 36) (lv2 := [(4, .int i), (3, .ref 125), (2, .ref 67), (1, .ref 1), (0, .ref 0)]) (st2 := [.int i, .ref 0]) (h2 := h) rfl rfl rfl ?_
  refine sh_sc1 (pc2 := 37) rfl hsc hI.2.1.1 hI.2.1.2 rfl ?_
  refine sh_w (i := (.bipush 15)) (len := 2) (pc2 := 39) (lv2 := [(4, .int i), (3, .ref 125), (2, .ref 67), (1, .ref 1), (0, .ref 0)]) (st2 := [.int 15, .int (xs (Int32.toNatClampNeg i))]) (h2 := h) rfl rfl rfl ?_
  refine sh_w (i := .iand) (len := 1) (pc2 := 40) (lv2 := [(4, .int i), (3, .ref 125), (2, .ref 67), (1, .ref 1), (0, .ref 0)]) (st2 := [.int 5]) (h2 := h) rfl rfl (congrArg (fun z => some (40, [(4, Value.int i), (3, Value.ref 125), (2, Value.ref 67), (1, Value.ref 1), (0, Value.ref 0)], [Value.int z], h, 0, 0)) hc) ?_
  refine sh_w (i := (.tableswitch 477 0 10 #[60, 133, 158, 171, 184, 197, 222, 290, 362, 409, 422])) (len := 60) (pc2 := 237) (lv2 := [(4, .int i), (3, .ref 125), (2, .ref 67), (1, .ref 1), (0, .ref 0)]) (st2 := []) (h2 := h) rfl rfl rfl ?_
  refine sh_w (i := (.aload_n 1)) (len := 1) (pc2 := 238) (lv2 := [(4, .int i), (3, .ref 125), (2, .ref 67), (1, .ref 1), (0, .ref 0)]) (st2 := [.ref 1]) (h2 := h) rfl rfl rfl ?_
  refine sh_w (i := (.aload_n 0)) (len := 1) (pc2 := 239) (lv2 := [(4, .int i), (3, .ref 125), (2, .ref 67), (1, .ref 1), (0, .ref 0)]) (st2 := [.ref 0, .ref 1]) (h2 := h) rfl rfl rfl ?_
  refine sh_w (i := (.iload 4)) (len := 2) (pc2 := 241) (lv2 := [(4, .int i), (3, .ref 125), (2, .ref 67), (1, .ref 1), (0, .ref 0)]) (st2 := [.int i, .ref 0, .ref 1]) (h2 := h) rfl rfl rfl ?_
  refine sh_w (i := (.iconst 1)) (len := 1) (pc2 := 242) (lv2 := [(4, .int i), (3, .ref 125), (2, .ref 67), (1, .ref 1), (0, .ref 0)]) (st2 := [.int 1, .int i, .ref 0, .ref 1]) (h2 := h) rfl rfl rfl ?_
  refine sh_w (i := .iadd) (len := 1) (pc2 := 243) (lv2 := [(4, .int i), (3, .ref 125), (2, .ref 67), (1, .ref 1), (0, .ref 0)]) (st2 := [.int (i + 1), .ref 0, .ref 1]) (h2 := h) rfl rfl rfl ?_
  refine sh_sc1 (pc2 := 244) rfl hsc hI.2.2.1.1 hI.2.2.1.2 rfl ?_
  refine sh_cH (k2 := 214) (a := 0) (as := [.ref 1, .int (xs (Int32.toNatClampNeg (i + 1)))]) (rest := []) (st2 := [.int p]) (r := (some (.int p))) (pc2 := 247) rfl rfl rfl f0 rfl rfl ⟨Nat.le_of_ble_eq_true rfl, Nat.le_of_ble_eq_true rfl⟩ hx rfl rfl ?_
  refine sh_w (i := (.aload_n 2)) (len := 1) (pc2 := 248) (lv2 := [(4, .int i), (3, .ref 125), (2, .ref 67), (1, .ref 1), (0, .ref 0)]) (st2 := [.ref 67, .int p]) (h2 := h1) rfl rfl rfl ?_
  refine sh_w (i := (.aload_n 0)) (len := 1) (pc2 := 249) (lv2 := [(4, .int i), (3, .ref 125), (2, .ref 67), (1, .ref 1), (0, .ref 0)]) (st2 := [.ref 0, .ref 67, .int p]) (h2 := h1) rfl rfl rfl ?_
  refine sh_w (i := (.iload 4)) (len := 2) (pc2 := 251) (lv2 := [(4, .int i), (3, .ref 125), (2, .ref 67), (1, .ref 1), (0, .ref 0)]) (st2 := [.int i, .ref 0, .ref 67, .int p]) (h2 := h1) rfl rfl rfl ?_
  refine sh_w (i := (.iconst 1)) (len := 1) (pc2 := 252) (lv2 := [(4, .int i), (3, .ref 125), (2, .ref 67), (1, .ref 1), (0, .ref 0)]) (st2 := [.int 1, .int i, .ref 0, .ref 67, .int p]) (h2 := h1) rfl rfl rfl ?_
  refine sh_w (i := .iadd) (len := 1) (pc2 := 253) (lv2 := [(4, .int i), (3, .ref 125), (2, .ref 67), (1, .ref 1), (0, .ref 0)]) (st2 := [.int (i + 1), .ref 0, .ref 67, .int p]) (h2 := h1) rfl rfl rfl ?_
  refine sh_sc1 (pc2 := 254) rfl hsc hI.2.2.1.1 hI.2.2.1.2 rfl ?_
  refine sh_cH (k2 := 333) (a := 66) (as := [.ref 67, .int (xs (Int32.toNatClampNeg (i + 1)))]) (rest := [.int p]) (st2 := [.int q, .int p]) (r := (some (.int q))) (pc2 := 257) rfl rfl rfl f1 rfl rfl ⟨Nat.le_of_ble_eq_true rfl, Nat.le_of_ble_eq_true rfl⟩ hm rfl rfl ?_
  refine sh_jc (c := .eq) (off := (260)) (pc2 := 517) true rfl (sh_Beqt hpq) rfl ?_
  refine sh_w (i := (.iinc 4 6)) (len := 3) (pc2 := 520) (lv2 := [(4, .int (i + 6)), (3, .ref 125), (2, .ref 67), (1, .ref 1), (0, .ref 0)]) (st2 := []) (h2 := h2) rfl rfl rfl ?_
  refine sh_w (i := (.goto (-497))) (len := 3) (pc2 := 23) (lv2 := [(4, .int (i + 6)), (3, .ref 125), (2, .ref 67), (1, .ref 1), (0, .ref 0)]) (st2 := []) (h2 := h2) rfl rfl rfl ?_
  exact kk
theorem sh_law9 {p q : Int32} (hsc : sc.1 = some (L, xs)) (hI : sh_Ix i L) (hc : xs (Int32.toNatClampNeg i) &&& 15 = 9) (f0 : ∃ fs, h[0]? = some (.inr (0, fs))) (f1 : ∃ fs, h1[66]? = some (.inr (12, fs))) (hx : sh_To sh_G0 sc 219 0 [(0, .ref 1)] [] h (.returned (some (.int p))) h1 v1) (hm : sh_To sh_G0 sc 338 0 [(0, .ref 67)] [] h1 (.returned (some (.int q))) h2 v2) (hpq : p = q) (kk : sh_To sh_G0 sc 0 23 [(4, .int (i + 6)), (3, .ref 125), (2, .ref 67), (1, .ref 1), (0, .ref 0)] [] h2 o h3 v) : sh_To sh_G0 sc 0 23 [(4, .int i), (3, .ref 125), (2, .ref 67), (1, .ref 1), (0, .ref 0)] [] h o h3 (sh_seq (sh_L sh_G0 219) v1 (sh_seq (sh_L sh_G0 338) v2 v)) := by
  refine sh_w (i := (.iload 4)) (len := 2) (pc2 := 25) (lv2 := [(4, .int i), (3, .ref 125), (2, .ref 67), (1, .ref 1), (0, .ref 0)]) (st2 := [.int i]) (h2 := h) rfl rfl rfl ?_
  refine sh_w (i := (.aload_n 0)) (len := 1) (pc2 := 26) (lv2 := [(4, .int i), (3, .ref 125), (2, .ref 67), (1, .ref 1), (0, .ref 0)]) (st2 := [.ref 0, .int i]) (h2 := h) rfl rfl rfl ?_
  refine sh_sl1 (pc2 := 27) rfl hsc rfl ?_
  refine sh_w (i := (.bipush 6)) (len := 2) (pc2 := 29) (lv2 := [(4, .int i), (3, .ref 125), (2, .ref 67), (1, .ref 1), (0, .ref 0)]) (st2 := [.int 6, .int (Int32.ofNat L), .int i]) (h2 := h) rfl rfl rfl ?_
  refine sh_w (i := .isub) (len := 1) (pc2 := 30) (lv2 := [(4, .int i), (3, .ref 125), (2, .ref 67), (1, .ref 1), (0, .ref 0)]) (st2 := [.int ((Int32.ofNat L) - 6), .int i]) (h2 := h) rfl rfl rfl ?_
  refine sh_jc (c := .gt) (off := (493)) (pc2 := 33) false rfl (sh_Bgtf hI.1) rfl ?_
  refine sh_w (i := (.aload_n 0)) (len := 1) (pc2 := 34) (lv2 := [(4, .int i), (3, .ref 125), (2, .ref 67), (1, .ref 1), (0, .ref 0)]) (st2 := [.ref 0]) (h2 := h) rfl rfl rfl ?_
  refine sh_w (i := (.iload 4)) (len := 2) (pc2 := 36) (lv2 := [(4, .int i), (3, .ref 125), (2, .ref 67), (1, .ref 1), (0, .ref 0)]) (st2 := [.int i, .ref 0]) (h2 := h) rfl rfl rfl ?_
  refine sh_sc1 (pc2 := 37) rfl hsc hI.2.1.1 hI.2.1.2 rfl ?_
  refine sh_w (i := (.bipush 15)) (len := 2) (pc2 := 39) (lv2 := [(4, .int i), (3, .ref 125), (2, .ref 67), (1, .ref 1), (0, .ref 0)]) (st2 := [.int 15, .int (xs (Int32.toNatClampNeg i))]) (h2 := h) rfl rfl rfl ?_
  refine sh_w (i := .iand) (len := 1) (pc2 := 40) (lv2 := [(4, .int i), (3, .ref 125), (2, .ref 67), (1, .ref 1), (0, .ref 0)]) (st2 := [.int 9]) (h2 := h) rfl rfl (congrArg (fun z => some (40, [(4, Value.int i), (3, Value.ref 125), (2, Value.ref 67), (1, Value.ref 1), (0, Value.ref 0)], [Value.int z], h, 0, 0)) hc) ?_
  refine sh_w (i := (.tableswitch 477 0 10 #[60, 133, 158, 171, 184, 197, 222, 290, 362, 409, 422])) (len := 60) (pc2 := 449) (lv2 := [(4, .int i), (3, .ref 125), (2, .ref 67), (1, .ref 1), (0, .ref 0)]) (st2 := []) (h2 := h) rfl rfl rfl ?_
  refine sh_w (i := (.aload_n 1)) (len := 1) (pc2 := 450) (lv2 := [(4, .int i), (3, .ref 125), (2, .ref 67), (1, .ref 1), (0, .ref 0)]) (st2 := [.ref 1]) (h2 := h) rfl rfl rfl ?_
  refine sh_cH (k2 := 219) (a := 0) (as := [.ref 1]) (rest := []) (st2 := [.int p]) (r := (some (.int p))) (pc2 := 453) rfl rfl rfl f0 rfl rfl ⟨Nat.le_of_ble_eq_true rfl, Nat.le_of_ble_eq_true rfl⟩ hx rfl rfl ?_
  refine sh_w (i := (.aload_n 2)) (len := 1) (pc2 := 454) (lv2 := [(4, .int i), (3, .ref 125), (2, .ref 67), (1, .ref 1), (0, .ref 0)]) (st2 := [.ref 67, .int p]) (h2 := h1) rfl rfl rfl ?_
  refine sh_cH (k2 := 338) (a := 66) (as := [.ref 67]) (rest := [.int p]) (st2 := [.int q, .int p]) (r := (some (.int q))) (pc2 := 457) rfl rfl rfl f1 rfl rfl ⟨Nat.le_of_ble_eq_true rfl, Nat.le_of_ble_eq_true rfl⟩ hm rfl rfl ?_
  refine sh_jc (c := .eq) (off := (60)) (pc2 := 517) true rfl (sh_Beqt hpq) rfl ?_
  refine sh_w (i := (.iinc 4 6)) (len := 3) (pc2 := 520) (lv2 := [(4, .int (i + 6)), (3, .ref 125), (2, .ref 67), (1, .ref 1), (0, .ref 0)]) (st2 := []) (h2 := h2) rfl rfl rfl ?_
  refine sh_w (i := (.goto (-497))) (len := 3) (pc2 := 23) (lv2 := [(4, .int (i + 6)), (3, .ref 125), (2, .ref 67), (1, .ref 1), (0, .ref 0)]) (st2 := []) (h2 := h2) rfl rfl rfl ?_
  exact kk
theorem sh_cmp0 (x : Int64) : lg_cmp x x = 0 := by unfold lg_cmp; simp
theorem sh_law6_0 {p : Int32} {q : Int32} (hsc : sc.1 = some (L, xs)) (hI : sh_Ix i L) (hc : xs (Int32.toNatClampNeg i) &&& 15 = 6) (f1 : ∃ fs, h1[66]? = some (.inr (12, fs))) (f2 : ∃ fs, h2[66]? = some (.inr (12, fs))) (hx : sh_To sh_G0 sc 236 0 [(0, .ref 1), (1, .int (xs (Int32.toNatClampNeg (i + 1)))), (2, .int (xs (Int32.toNatClampNeg (i + 2)))), (3, .ref 125)] [] h (.returned (some (.int 0))) h1 v1) (hm : sh_To sh_G0 sc 334 0 [(0, .ref 67), (1, .int (xs (Int32.toNatClampNeg (i + 1)))), (2, .int (xs (Int32.toNatClampNeg (i + 2))))] [] h1 (.returned (some (.int q))) h2 v2) (ht : sh_To sh_G0 sc 243 0 [(0, .ref 67)] [] h2 (.returned (some (.int 0))) h4 v4) (hq : ∃ f : Nat → Int64, h4[124]? = some (.inl (2, 1, .inr (.inl f))) ∧ f 0 = q.toInt64) (kk : sh_To sh_G0 sc 0 23 [(4, .int (i + 6)), (6, .int q), (5, .int 0), (3, .ref 125), (2, .ref 67), (1, .ref 1), (0, .ref 0)] [] h4 o h3 v) : sh_To sh_G0 sc 0 23 [(4, .int i), (3, .ref 125), (2, .ref 67), (1, .ref 1), (0, .ref 0)] [] h o h3 (sh_seq (sh_L sh_G0 236) v1 (sh_seq (sh_L sh_G0 334) v2 (sh_seq (sh_L sh_G0 243) v4 v))) := by
  obtain ⟨f, hf, hf0⟩ := hq
  refine sh_w (i := (.iload 4)) (len := 2) (pc2 := 25) (lv2 := [(4, .int i), (3, .ref 125), (2, .ref 67), (1, .ref 1), (0, .ref 0)]) (st2 := [.int i]) (h2 := h) rfl rfl rfl ?_
  refine sh_w (i := (.aload_n 0)) (len := 1) (pc2 := 26) (lv2 := [(4, .int i), (3, .ref 125), (2, .ref 67), (1, .ref 1), (0, .ref 0)]) (st2 := [.ref 0, .int i]) (h2 := h) rfl rfl rfl ?_
  refine sh_sl1 (pc2 := 27) rfl hsc rfl ?_
  refine sh_w (i := (.bipush 6)) (len := 2) (pc2 := 29) (lv2 := [(4, .int i), (3, .ref 125), (2, .ref 67), (1, .ref 1), (0, .ref 0)]) (st2 := [.int 6, .int (Int32.ofNat L), .int i]) (h2 := h) rfl rfl rfl ?_
  refine sh_w (i := .isub) (len := 1) (pc2 := 30) (lv2 := [(4, .int i), (3, .ref 125), (2, .ref 67), (1, .ref 1), (0, .ref 0)]) (st2 := [.int ((Int32.ofNat L) - 6), .int i]) (h2 := h) rfl rfl rfl ?_
  refine sh_jc (c := .gt) (off := (493)) (pc2 := 33) false rfl (sh_Bgtf hI.1) rfl ?_
  refine sh_w (i := (.aload_n 0)) (len := 1) (pc2 := 34) (lv2 := [(4, .int i), (3, .ref 125), (2, .ref 67), (1, .ref 1), (0, .ref 0)]) (st2 := [.ref 0]) (h2 := h) rfl rfl rfl ?_
  refine sh_w (i := (.iload 4)) (len := 2) (pc2 := 36) (lv2 := [(4, .int i), (3, .ref 125), (2, .ref 67), (1, .ref 1), (0, .ref 0)]) (st2 := [.int i, .ref 0]) (h2 := h) rfl rfl rfl ?_
  refine sh_sc1 (pc2 := 37) rfl hsc hI.2.1.1 hI.2.1.2 rfl ?_
  refine sh_w (i := (.bipush 15)) (len := 2) (pc2 := 39) (lv2 := [(4, .int i), (3, .ref 125), (2, .ref 67), (1, .ref 1), (0, .ref 0)]) (st2 := [.int 15, .int (xs (Int32.toNatClampNeg i))]) (h2 := h) rfl rfl rfl ?_
  refine sh_w (i := .iand) (len := 1) (pc2 := 40) (lv2 := [(4, .int i), (3, .ref 125), (2, .ref 67), (1, .ref 1), (0, .ref 0)]) (st2 := [.int 6]) (h2 := h) rfl rfl (congrArg (fun z => some (40, [(4, Value.int i), (3, Value.ref 125), (2, Value.ref 67), (1, Value.ref 1), (0, Value.ref 0)], [Value.int z], h, 0, 0)) hc) ?_
  refine sh_w (i := (.tableswitch 477 0 10 #[60, 133, 158, 171, 184, 197, 222, 290, 362, 409, 422])) (len := 60) (pc2 := 262) (lv2 := [(4, .int i), (3, .ref 125), (2, .ref 67), (1, .ref 1), (0, .ref 0)]) (st2 := []) (h2 := h) rfl rfl rfl ?_
  refine sh_w (i := (.aload_n 1)) (len := 1) (pc2 := 263) (lv2 := [(4, .int i), (3, .ref 125), (2, .ref 67), (1, .ref 1), (0, .ref 0)]) (st2 := [.ref 1]) (h2 := h) rfl rfl rfl ?_
  refine sh_w (i := (.aload_n 0)) (len := 1) (pc2 := 264) (lv2 := [(4, .int i), (3, .ref 125), (2, .ref 67), (1, .ref 1), (0, .ref 0)]) (st2 := [.ref 0, .ref 1]) (h2 := h) rfl rfl rfl ?_
  refine sh_w (i := (.iload 4)) (len := 2) (pc2 := 266) (lv2 := [(4, .int i), (3, .ref 125), (2, .ref 67), (1, .ref 1), (0, .ref 0)]) (st2 := [.int i, .ref 0, .ref 1]) (h2 := h) rfl rfl rfl ?_
  refine sh_w (i := (.iconst 1)) (len := 1) (pc2 := 267) (lv2 := [(4, .int i), (3, .ref 125), (2, .ref 67), (1, .ref 1), (0, .ref 0)]) (st2 := [.int 1, .int i, .ref 0, .ref 1]) (h2 := h) rfl rfl rfl ?_
  refine sh_w (i := .iadd) (len := 1) (pc2 := 268) (lv2 := [(4, .int i), (3, .ref 125), (2, .ref 67), (1, .ref 1), (0, .ref 0)]) (st2 := [.int (i + 1), .ref 0, .ref 1]) (h2 := h) rfl rfl rfl ?_
  refine sh_sc1 (pc2 := 269) rfl hsc hI.2.2.1.1 hI.2.2.1.2 rfl ?_
  refine sh_w (i := (.aload_n 0)) (len := 1) (pc2 := 270) (lv2 := [(4, .int i), (3, .ref 125), (2, .ref 67), (1, .ref 1), (0, .ref 0)]) (st2 := [.ref 0, .int (xs (Int32.toNatClampNeg (i + 1))), .ref 1]) (h2 := h) rfl rfl rfl ?_
  refine sh_w (i := (.iload 4)) (len := 2) (pc2 := 272) (lv2 := [(4, .int i), (3, .ref 125), (2, .ref 67), (1, .ref 1), (0, .ref 0)]) (st2 := [.int i, .ref 0, .int (xs (Int32.toNatClampNeg (i + 1))), .ref 1]) (h2 := h) rfl rfl rfl ?_
  refine sh_w (i := (.iconst 2)) (len := 1) (pc2 := 273) (lv2 := [(4, .int i), (3, .ref 125), (2, .ref 67), (1, .ref 1), (0, .ref 0)]) (st2 := [.int 2, .int i, .ref 0, .int (xs (Int32.toNatClampNeg (i + 1))), .ref 1]) (h2 := h) rfl rfl rfl ?_
  refine sh_w (i := .iadd) (len := 1) (pc2 := 274) (lv2 := [(4, .int i), (3, .ref 125), (2, .ref 67), (1, .ref 1), (0, .ref 0)]) (st2 := [.int (i + 2), .ref 0, .int (xs (Int32.toNatClampNeg (i + 1))), .ref 1]) (h2 := h) rfl rfl rfl ?_
  refine sh_sc1 (pc2 := 275) rfl hsc hI.2.2.2.1.1 hI.2.2.2.1.2 rfl ?_
  refine sh_w (i := (.aload_n 3)) (len := 1) (pc2 := 276) (lv2 := [(4, .int i), (3, .ref 125), (2, .ref 67), (1, .ref 1), (0, .ref 0)]) (st2 := [.ref 125, .int (xs (Int32.toNatClampNeg (i + 2))), .int (xs (Int32.toNatClampNeg (i + 1))), .ref 1]) (h2 := h) rfl rfl rfl ?_
  refine sh_cS (k2 := 236) (as := [.ref 1, .int (xs (Int32.toNatClampNeg (i + 1))), .int (xs (Int32.toNatClampNeg (i + 2))), .ref 125]) (rest := []) (st2 := [.int 0]) (r := (some (.int 0))) (pc2 := 279) rfl rfl (by decide) (Nat.le_of_ble_eq_true rfl) rfl rfl ⟨Nat.le_of_ble_eq_true rfl, Nat.le_of_ble_eq_true rfl⟩ hx rfl rfl ?_
  refine sh_w (i := (.istore 5)) (len := 2) (pc2 := 281) (lv2 := [(5, .int 0), (4, .int i), (3, .ref 125), (2, .ref 67), (1, .ref 1), (0, .ref 0)]) (st2 := []) (h2 := h1) rfl rfl rfl ?_
  refine sh_w (i := (.aload_n 2)) (len := 1) (pc2 := 282) (lv2 := [(5, .int 0), (4, .int i), (3, .ref 125), (2, .ref 67), (1, .ref 1), (0, .ref 0)]) (st2 := [.ref 67]) (h2 := h1) rfl rfl rfl ?_
  refine sh_w (i := (.aload_n 0)) (len := 1) (pc2 := 283) (lv2 := [(5, .int 0), (4, .int i), (3, .ref 125), (2, .ref 67), (1, .ref 1), (0, .ref 0)]) (st2 := [.ref 0, .ref 67]) (h2 := h1) rfl rfl rfl ?_
  refine sh_w (i := (.iload 4)) (len := 2) (pc2 := 285) (lv2 := [(5, .int 0), (4, .int i), (3, .ref 125), (2, .ref 67), (1, .ref 1), (0, .ref 0)]) (st2 := [.int i, .ref 0, .ref 67]) (h2 := h1) rfl rfl rfl ?_
  refine sh_w (i := (.iconst 1)) (len := 1) (pc2 := 286) (lv2 := [(5, .int 0), (4, .int i), (3, .ref 125), (2, .ref 67), (1, .ref 1), (0, .ref 0)]) (st2 := [.int 1, .int i, .ref 0, .ref 67]) (h2 := h1) rfl rfl rfl ?_
  refine sh_w (i := .iadd) (len := 1) (pc2 := 287) (lv2 := [(5, .int 0), (4, .int i), (3, .ref 125), (2, .ref 67), (1, .ref 1), (0, .ref 0)]) (st2 := [.int (i + 1), .ref 0, .ref 67]) (h2 := h1) rfl rfl rfl ?_
  refine sh_sc1 (pc2 := 288) rfl hsc hI.2.2.1.1 hI.2.2.1.2 rfl ?_
  refine sh_w (i := (.aload_n 0)) (len := 1) (pc2 := 289) (lv2 := [(5, .int 0), (4, .int i), (3, .ref 125), (2, .ref 67), (1, .ref 1), (0, .ref 0)]) (st2 := [.ref 0, .int (xs (Int32.toNatClampNeg (i + 1))), .ref 67]) (h2 := h1) rfl rfl rfl ?_
  refine sh_w (i := (.iload 4)) (len := 2) (pc2 := 291) (lv2 := [(5, .int 0), (4, .int i), (3, .ref 125), (2, .ref 67), (1, .ref 1), (0, .ref 0)]) (st2 := [.int i, .ref 0, .int (xs (Int32.toNatClampNeg (i + 1))), .ref 67]) (h2 := h1) rfl rfl rfl ?_
  refine sh_w (i := (.iconst 2)) (len := 1) (pc2 := 292) (lv2 := [(5, .int 0), (4, .int i), (3, .ref 125), (2, .ref 67), (1, .ref 1), (0, .ref 0)]) (st2 := [.int 2, .int i, .ref 0, .int (xs (Int32.toNatClampNeg (i + 1))), .ref 67]) (h2 := h1) rfl rfl rfl ?_
  refine sh_w (i := .iadd) (len := 1) (pc2 := 293) (lv2 := [(5, .int 0), (4, .int i), (3, .ref 125), (2, .ref 67), (1, .ref 1), (0, .ref 0)]) (st2 := [.int (i + 2), .ref 0, .int (xs (Int32.toNatClampNeg (i + 1))), .ref 67]) (h2 := h1) rfl rfl rfl ?_
  refine sh_sc1 (pc2 := 294) rfl hsc hI.2.2.2.1.1 hI.2.2.2.1.2 rfl ?_
  refine sh_cH (k2 := 334) (a := 66) (as := [.ref 67, .int (xs (Int32.toNatClampNeg (i + 1))), .int (xs (Int32.toNatClampNeg (i + 2)))]) (rest := []) (st2 := [.int q]) (r := (some (.int q))) (pc2 := 297) rfl rfl rfl f1 rfl rfl ⟨Nat.le_of_ble_eq_true rfl, Nat.le_of_ble_eq_true rfl⟩ hm rfl rfl ?_
  refine sh_w (i := (.istore 6)) (len := 2) (pc2 := 299) (lv2 := [(6, .int q), (5, .int 0), (4, .int i), (3, .ref 125), (2, .ref 67), (1, .ref 1), (0, .ref 0)]) (st2 := []) (h2 := h2) rfl rfl rfl ?_
  refine sh_w (i := (.aload_n 2)) (len := 1) (pc2 := 300) (lv2 := [(6, .int q), (5, .int 0), (4, .int i), (3, .ref 125), (2, .ref 67), (1, .ref 1), (0, .ref 0)]) (st2 := [.ref 67]) (h2 := h2) rfl rfl rfl ?_
  refine sh_cH (k2 := 243) (a := 66) (as := [.ref 67]) (rest := []) (st2 := [.int 0]) (r := (some (.int 0))) (pc2 := 303) rfl rfl rfl f2 rfl rfl ⟨Nat.le_of_ble_eq_true rfl, Nat.le_of_ble_eq_true rfl⟩ ht rfl rfl ?_
  refine sh_w (i := (.iload 5)) (len := 2) (pc2 := 305) (lv2 := [(6, .int q), (5, .int 0), (4, .int i), (3, .ref 125), (2, .ref 67), (1, .ref 1), (0, .ref 0)]) (st2 := [.int 0, .int 0]) (h2 := h4) rfl rfl rfl ?_
  refine sh_jc (c := .eq) (off := (5)) (pc2 := 310) true rfl rfl rfl ?_
  refine sh_w (i := (.iload 5)) (len := 2) (pc2 := 312) (lv2 := [(6, .int q), (5, .int 0), (4, .int i), (3, .ref 125), (2, .ref 67), (1, .ref 1), (0, .ref 0)]) (st2 := [.int 0]) (h2 := h4) rfl rfl rfl ?_
  refine sh_j0 (c := .ne) (off := (15)) (pc2 := 315) false rfl rfl rfl ?_
  refine sh_w (i := (.aload_n 3)) (len := 1) (pc2 := 316) (lv2 := [(6, .int q), (5, .int 0), (4, .int i), (3, .ref 125), (2, .ref 67), (1, .ref 1), (0, .ref 0)]) (st2 := [.ref 125]) (h2 := h4) rfl rfl rfl ?_
  refine sh_w (i := (.iconst 0)) (len := 1) (pc2 := 317) (lv2 := [(6, .int q), (5, .int 0), (4, .int i), (3, .ref 125), (2, .ref 67), (1, .ref 1), (0, .ref 0)]) (st2 := [.int 0, .ref 125]) (h2 := h4) rfl rfl rfl ?_
  refine sh_laH (x := f 0) (pc2 := 318) rfl hf (by decide) (by decide) rfl rfl ?_
  refine sh_w (i := (.iload 6)) (len := 2) (pc2 := 320) (lv2 := [(6, .int q), (5, .int 0), (4, .int i), (3, .ref 125), (2, .ref 67), (1, .ref 1), (0, .ref 0)]) (st2 := [.int q, .long (f 0)]) (h2 := h4) rfl rfl rfl ?_
  refine sh_w (i := .i2l) (len := 1) (pc2 := 321) (lv2 := [(6, .int q), (5, .int 0), (4, .int i), (3, .ref 125), (2, .ref 67), (1, .ref 1), (0, .ref 0)]) (st2 := [.long (Int32.toInt64 q), .long (f 0)]) (h2 := h4) rfl rfl rfl ?_
  refine sh_w (i := .lcmp) (len := 1) (pc2 := 322) (lv2 := [(6, .int q), (5, .int 0), (4, .int i), (3, .ref 125), (2, .ref 67), (1, .ref 1), (0, .ref 0)]) (st2 := [.int 0]) (h2 := h4) rfl rfl (by rw [hf0]; show some (322, _, [Value.int (lg_cmp (Int32.toInt64 q) (Int32.toInt64 q))], h4, 0, 0) = _; rw [sh_cmp0]) ?_
  refine sh_j0 (c := .eq) (off := (5)) (pc2 := 327) true rfl rfl rfl ?_
  refine sh_w (i := (.goto 190)) (len := 3) (pc2 := 517) (lv2 := [(6, .int q), (5, .int 0), (4, .int i), (3, .ref 125), (2, .ref 67), (1, .ref 1), (0, .ref 0)]) (st2 := []) (h2 := h4) rfl rfl rfl ?_
  refine sh_w (i := (.iinc 4 6)) (len := 3) (pc2 := 520) (lv2 := [(4, .int (i + 6)), (6, .int q), (5, .int 0), (3, .ref 125), (2, .ref 67), (1, .ref 1), (0, .ref 0)]) (st2 := []) (h2 := h4) rfl rfl rfl ?_
  refine sh_w (i := (.goto (-497))) (len := 3) (pc2 := 23) (lv2 := [(4, .int (i + 6)), (6, .int q), (5, .int 0), (3, .ref 125), (2, .ref 67), (1, .ref 1), (0, .ref 0)]) (st2 := []) (h2 := h4) rfl rfl rfl ?_
  exact kk
theorem sh_law6_1 {p : Int32} {q : Int32} (hsc : sc.1 = some (L, xs)) (hI : sh_Ix i L) (hc : xs (Int32.toNatClampNeg i) &&& 15 = 6) (f1 : ∃ fs, h1[66]? = some (.inr (12, fs))) (f2 : ∃ fs, h2[66]? = some (.inr (12, fs))) (hx : sh_To sh_G0 sc 236 0 [(0, .ref 1), (1, .int (xs (Int32.toNatClampNeg (i + 1)))), (2, .int (xs (Int32.toNatClampNeg (i + 2)))), (3, .ref 125)] [] h (.returned (some (.int 1))) h1 v1) (hm : sh_To sh_G0 sc 334 0 [(0, .ref 67), (1, .int (xs (Int32.toNatClampNeg (i + 1)))), (2, .int (xs (Int32.toNatClampNeg (i + 2))))] [] h1 (.returned (some (.int q))) h2 v2) (ht : sh_To sh_G0 sc 243 0 [(0, .ref 67)] [] h2 (.returned (some (.int 1))) h4 v4) (kk : sh_To sh_G0 sc 0 23 [(4, .int (i + 6)), (6, .int q), (5, .int 1), (3, .ref 125), (2, .ref 67), (1, .ref 1), (0, .ref 0)] [] h4 o h3 v) : sh_To sh_G0 sc 0 23 [(4, .int i), (3, .ref 125), (2, .ref 67), (1, .ref 1), (0, .ref 0)] [] h o h3 (sh_seq (sh_L sh_G0 236) v1 (sh_seq (sh_L sh_G0 334) v2 (sh_seq (sh_L sh_G0 243) v4 v))) := by
  refine sh_w (i := (.iload 4)) (len := 2) (pc2 := 25) (lv2 := [(4, .int i), (3, .ref 125), (2, .ref 67), (1, .ref 1), (0, .ref 0)]) (st2 := [.int i]) (h2 := h) rfl rfl rfl ?_
  refine sh_w (i := (.aload_n 0)) (len := 1) (pc2 := 26) (lv2 := [(4, .int i), (3, .ref 125), (2, .ref 67), (1, .ref 1), (0, .ref 0)]) (st2 := [.ref 0, .int i]) (h2 := h) rfl rfl rfl ?_
  refine sh_sl1 (pc2 := 27) rfl hsc rfl ?_
  refine sh_w (i := (.bipush 6)) (len := 2) (pc2 := 29) (lv2 := [(4, .int i), (3, .ref 125), (2, .ref 67), (1, .ref 1), (0, .ref 0)]) (st2 := [.int 6, .int (Int32.ofNat L), .int i]) (h2 := h) rfl rfl rfl ?_
  refine sh_w (i := .isub) (len := 1) (pc2 := 30) (lv2 := [(4, .int i), (3, .ref 125), (2, .ref 67), (1, .ref 1), (0, .ref 0)]) (st2 := [.int ((Int32.ofNat L) - 6), .int i]) (h2 := h) rfl rfl rfl ?_
  refine sh_jc (c := .gt) (off := (493)) (pc2 := 33) false rfl (sh_Bgtf hI.1) rfl ?_
  refine sh_w (i := (.aload_n 0)) (len := 1) (pc2 := 34) (lv2 := [(4, .int i), (3, .ref 125), (2, .ref 67), (1, .ref 1), (0, .ref 0)]) (st2 := [.ref 0]) (h2 := h) rfl rfl rfl ?_
  refine sh_w (i := (.iload 4)) (len := 2) (pc2 := 36) (lv2 := [(4, .int i), (3, .ref 125), (2, .ref 67), (1, .ref 1), (0, .ref 0)]) (st2 := [.int i, .ref 0]) (h2 := h) rfl rfl rfl ?_
  refine sh_sc1 (pc2 := 37) rfl hsc hI.2.1.1 hI.2.1.2 rfl ?_
  refine sh_w (i := (.bipush 15)) (len := 2) (pc2 := 39) (lv2 := [(4, .int i), (3, .ref 125), (2, .ref 67), (1, .ref 1), (0, .ref 0)]) (st2 := [.int 15, .int (xs (Int32.toNatClampNeg i))]) (h2 := h) rfl rfl rfl ?_
  refine sh_w (i := .iand) (len := 1) (pc2 := 40) (lv2 := [(4, .int i), (3, .ref 125), (2, .ref 67), (1, .ref 1), (0, .ref 0)]) (st2 := [.int 6]) (h2 := h) rfl rfl (congrArg (fun z => some (40, [(4, Value.int i), (3, Value.ref 125), (2, Value.ref 67), (1, Value.ref 1), (0, Value.ref 0)], [Value.int z], h, 0, 0)) hc) ?_
  refine sh_w (i := (.tableswitch 477 0 10 #[60, 133, 158, 171, 184, 197, 222, 290, 362, 409, 422])) (len := 60) (pc2 := 262) (lv2 := [(4, .int i), (3, .ref 125), (2, .ref 67), (1, .ref 1), (0, .ref 0)]) (st2 := []) (h2 := h) rfl rfl rfl ?_
  refine sh_w (i := (.aload_n 1)) (len := 1) (pc2 := 263) (lv2 := [(4, .int i), (3, .ref 125), (2, .ref 67), (1, .ref 1), (0, .ref 0)]) (st2 := [.ref 1]) (h2 := h) rfl rfl rfl ?_
  refine sh_w (i := (.aload_n 0)) (len := 1) (pc2 := 264) (lv2 := [(4, .int i), (3, .ref 125), (2, .ref 67), (1, .ref 1), (0, .ref 0)]) (st2 := [.ref 0, .ref 1]) (h2 := h) rfl rfl rfl ?_
  refine sh_w (i := (.iload 4)) (len := 2) (pc2 := 266) (lv2 := [(4, .int i), (3, .ref 125), (2, .ref 67), (1, .ref 1), (0, .ref 0)]) (st2 := [.int i, .ref 0, .ref 1]) (h2 := h) rfl rfl rfl ?_
  refine sh_w (i := (.iconst 1)) (len := 1) (pc2 := 267) (lv2 := [(4, .int i), (3, .ref 125), (2, .ref 67), (1, .ref 1), (0, .ref 0)]) (st2 := [.int 1, .int i, .ref 0, .ref 1]) (h2 := h) rfl rfl rfl ?_
  refine sh_w (i := .iadd) (len := 1) (pc2 := 268) (lv2 := [(4, .int i), (3, .ref 125), (2, .ref 67), (1, .ref 1), (0, .ref 0)]) (st2 := [.int (i + 1), .ref 0, .ref 1]) (h2 := h) rfl rfl rfl ?_
  refine sh_sc1 (pc2 := 269) rfl hsc hI.2.2.1.1 hI.2.2.1.2 rfl ?_
  refine sh_w (i := (.aload_n 0)) (len := 1) (pc2 := 270) (lv2 := [(4, .int i), (3, .ref 125), (2, .ref 67), (1, .ref 1), (0, .ref 0)]) (st2 := [.ref 0, .int (xs (Int32.toNatClampNeg (i + 1))), .ref 1]) (h2 := h) rfl rfl rfl ?_
  refine sh_w (i := (.iload 4)) (len := 2) (pc2 := 272) (lv2 := [(4, .int i), (3, .ref 125), (2, .ref 67), (1, .ref 1), (0, .ref 0)]) (st2 := [.int i, .ref 0, .int (xs (Int32.toNatClampNeg (i + 1))), .ref 1]) (h2 := h) rfl rfl rfl ?_
  refine sh_w (i := (.iconst 2)) (len := 1) (pc2 := 273) (lv2 := [(4, .int i), (3, .ref 125), (2, .ref 67), (1, .ref 1), (0, .ref 0)]) (st2 := [.int 2, .int i, .ref 0, .int (xs (Int32.toNatClampNeg (i + 1))), .ref 1]) (h2 := h) rfl rfl rfl ?_
  refine sh_w (i := .iadd) (len := 1) (pc2 := 274) (lv2 := [(4, .int i), (3, .ref 125), (2, .ref 67), (1, .ref 1), (0, .ref 0)]) (st2 := [.int (i + 2), .ref 0, .int (xs (Int32.toNatClampNeg (i + 1))), .ref 1]) (h2 := h) rfl rfl rfl ?_
  refine sh_sc1 (pc2 := 275) rfl hsc hI.2.2.2.1.1 hI.2.2.2.1.2 rfl ?_
  refine sh_w (i := (.aload_n 3)) (len := 1) (pc2 := 276) (lv2 := [(4, .int i), (3, .ref 125), (2, .ref 67), (1, .ref 1), (0, .ref 0)]) (st2 := [.ref 125, .int (xs (Int32.toNatClampNeg (i + 2))), .int (xs (Int32.toNatClampNeg (i + 1))), .ref 1]) (h2 := h) rfl rfl rfl ?_
  refine sh_cS (k2 := 236) (as := [.ref 1, .int (xs (Int32.toNatClampNeg (i + 1))), .int (xs (Int32.toNatClampNeg (i + 2))), .ref 125]) (rest := []) (st2 := [.int 1]) (r := (some (.int 1))) (pc2 := 279) rfl rfl (by decide) (Nat.le_of_ble_eq_true rfl) rfl rfl ⟨Nat.le_of_ble_eq_true rfl, Nat.le_of_ble_eq_true rfl⟩ hx rfl rfl ?_
  refine sh_w (i := (.istore 5)) (len := 2) (pc2 := 281) (lv2 := [(5, .int 1), (4, .int i), (3, .ref 125), (2, .ref 67), (1, .ref 1), (0, .ref 0)]) (st2 := []) (h2 := h1) rfl rfl rfl ?_
  refine sh_w (i := (.aload_n 2)) (len := 1) (pc2 := 282) (lv2 := [(5, .int 1), (4, .int i), (3, .ref 125), (2, .ref 67), (1, .ref 1), (0, .ref 0)]) (st2 := [.ref 67]) (h2 := h1) rfl rfl rfl ?_
  refine sh_w (i := (.aload_n 0)) (len := 1) (pc2 := 283) (lv2 := [(5, .int 1), (4, .int i), (3, .ref 125), (2, .ref 67), (1, .ref 1), (0, .ref 0)]) (st2 := [.ref 0, .ref 67]) (h2 := h1) rfl rfl rfl ?_
  refine sh_w (i := (.iload 4)) (len := 2) (pc2 := 285) (lv2 := [(5, .int 1), (4, .int i), (3, .ref 125), (2, .ref 67), (1, .ref 1), (0, .ref 0)]) (st2 := [.int i, .ref 0, .ref 67]) (h2 := h1) rfl rfl rfl ?_
  refine sh_w (i := (.iconst 1)) (len := 1) (pc2 := 286) (lv2 := [(5, .int 1), (4, .int i), (3, .ref 125), (2, .ref 67), (1, .ref 1), (0, .ref 0)]) (st2 := [.int 1, .int i, .ref 0, .ref 67]) (h2 := h1) rfl rfl rfl ?_
  refine sh_w (i := .iadd) (len := 1) (pc2 := 287) (lv2 := [(5, .int 1), (4, .int i), (3, .ref 125), (2, .ref 67), (1, .ref 1), (0, .ref 0)]) (st2 := [.int (i + 1), .ref 0, .ref 67]) (h2 := h1) rfl rfl rfl ?_
  refine sh_sc1 (pc2 := 288) rfl hsc hI.2.2.1.1 hI.2.2.1.2 rfl ?_
  refine sh_w (i := (.aload_n 0)) (len := 1) (pc2 := 289) (lv2 := [(5, .int 1), (4, .int i), (3, .ref 125), (2, .ref 67), (1, .ref 1), (0, .ref 0)]) (st2 := [.ref 0, .int (xs (Int32.toNatClampNeg (i + 1))), .ref 67]) (h2 := h1) rfl rfl rfl ?_
  refine sh_w (i := (.iload 4)) (len := 2) (pc2 := 291) (lv2 := [(5, .int 1), (4, .int i), (3, .ref 125), (2, .ref 67), (1, .ref 1), (0, .ref 0)]) (st2 := [.int i, .ref 0, .int (xs (Int32.toNatClampNeg (i + 1))), .ref 67]) (h2 := h1) rfl rfl rfl ?_
  refine sh_w (i := (.iconst 2)) (len := 1) (pc2 := 292) (lv2 := [(5, .int 1), (4, .int i), (3, .ref 125), (2, .ref 67), (1, .ref 1), (0, .ref 0)]) (st2 := [.int 2, .int i, .ref 0, .int (xs (Int32.toNatClampNeg (i + 1))), .ref 67]) (h2 := h1) rfl rfl rfl ?_
  refine sh_w (i := .iadd) (len := 1) (pc2 := 293) (lv2 := [(5, .int 1), (4, .int i), (3, .ref 125), (2, .ref 67), (1, .ref 1), (0, .ref 0)]) (st2 := [.int (i + 2), .ref 0, .int (xs (Int32.toNatClampNeg (i + 1))), .ref 67]) (h2 := h1) rfl rfl rfl ?_
  refine sh_sc1 (pc2 := 294) rfl hsc hI.2.2.2.1.1 hI.2.2.2.1.2 rfl ?_
  refine sh_cH (k2 := 334) (a := 66) (as := [.ref 67, .int (xs (Int32.toNatClampNeg (i + 1))), .int (xs (Int32.toNatClampNeg (i + 2)))]) (rest := []) (st2 := [.int q]) (r := (some (.int q))) (pc2 := 297) rfl rfl rfl f1 rfl rfl ⟨Nat.le_of_ble_eq_true rfl, Nat.le_of_ble_eq_true rfl⟩ hm rfl rfl ?_
  refine sh_w (i := (.istore 6)) (len := 2) (pc2 := 299) (lv2 := [(6, .int q), (5, .int 1), (4, .int i), (3, .ref 125), (2, .ref 67), (1, .ref 1), (0, .ref 0)]) (st2 := []) (h2 := h2) rfl rfl rfl ?_
  refine sh_w (i := (.aload_n 2)) (len := 1) (pc2 := 300) (lv2 := [(6, .int q), (5, .int 1), (4, .int i), (3, .ref 125), (2, .ref 67), (1, .ref 1), (0, .ref 0)]) (st2 := [.ref 67]) (h2 := h2) rfl rfl rfl ?_
  refine sh_cH (k2 := 243) (a := 66) (as := [.ref 67]) (rest := []) (st2 := [.int 1]) (r := (some (.int 1))) (pc2 := 303) rfl rfl rfl f2 rfl rfl ⟨Nat.le_of_ble_eq_true rfl, Nat.le_of_ble_eq_true rfl⟩ ht rfl rfl ?_
  refine sh_w (i := (.iload 5)) (len := 2) (pc2 := 305) (lv2 := [(6, .int q), (5, .int 1), (4, .int i), (3, .ref 125), (2, .ref 67), (1, .ref 1), (0, .ref 0)]) (st2 := [.int 1, .int 1]) (h2 := h4) rfl rfl rfl ?_
  refine sh_jc (c := .eq) (off := (5)) (pc2 := 310) true rfl rfl rfl ?_
  refine sh_w (i := (.iload 5)) (len := 2) (pc2 := 312) (lv2 := [(6, .int q), (5, .int 1), (4, .int i), (3, .ref 125), (2, .ref 67), (1, .ref 1), (0, .ref 0)]) (st2 := [.int 1]) (h2 := h4) rfl rfl rfl ?_
  refine sh_j0 (c := .ne) (off := (15)) (pc2 := 327) true rfl rfl rfl ?_
  refine sh_w (i := (.goto 190)) (len := 3) (pc2 := 517) (lv2 := [(6, .int q), (5, .int 1), (4, .int i), (3, .ref 125), (2, .ref 67), (1, .ref 1), (0, .ref 0)]) (st2 := []) (h2 := h4) rfl rfl rfl ?_
  refine sh_w (i := (.iinc 4 6)) (len := 3) (pc2 := 520) (lv2 := [(4, .int (i + 6)), (6, .int q), (5, .int 1), (3, .ref 125), (2, .ref 67), (1, .ref 1), (0, .ref 0)]) (st2 := []) (h2 := h4) rfl rfl rfl ?_
  refine sh_w (i := (.goto (-497))) (len := 3) (pc2 := 23) (lv2 := [(4, .int (i + 6)), (6, .int q), (5, .int 1), (3, .ref 125), (2, .ref 67), (1, .ref 1), (0, .ref 0)]) (st2 := []) (h2 := h4) rfl rfl rfl ?_
  exact kk
theorem sh_law7 {p : Int32}  (hsc : sc.1 = some (L, xs)) (hI : sh_Ix i L) (hc : xs (Int32.toNatClampNeg i) &&& 15 = 7) (f1 : ∃ fs, h1[66]? = some (.inr (12, fs))) (f2 : ∃ fs, h2[66]? = some (.inr (12, fs))) (hx : sh_To sh_G0 sc 238 0 [(0, .ref 1), (1, .int (xs (Int32.toNatClampNeg (i + 1)))), (2, .int (xs (Int32.toNatClampNeg (i + 2)))), (3, .int (xs (Int32.toNatClampNeg (i + 3)))), (4, .int (xs (Int32.toNatClampNeg (i + 4))))] [] h (.returned (some (.int p))) h1 v1) (hm : sh_To sh_G0 sc 336 0 [(0, .ref 67), (1, .int (xs (Int32.toNatClampNeg (i + 1)))), (2, .int (xs (Int32.toNatClampNeg (i + 2)))), (3, .int (xs (Int32.toNatClampNeg (i + 3)))), (4, .int (xs (Int32.toNatClampNeg (i + 4))))] [] h1 (.returned none) h2 v2) (ht : sh_To sh_G0 sc 243 0 [(0, .ref 67)] [] h2 (.returned (some (.int p))) h4 v4) (kk : sh_To sh_G0 sc 0 23 [(4, .int (i + 6)), (5, .int p), (3, .ref 125), (2, .ref 67), (1, .ref 1), (0, .ref 0)] [] h4 o h3 v) : sh_To sh_G0 sc 0 23 [(4, .int i), (3, .ref 125), (2, .ref 67), (1, .ref 1), (0, .ref 0)] [] h o h3 (sh_seq (sh_L sh_G0 238) v1 (sh_seq (sh_L sh_G0 336) v2 (sh_seq (sh_L sh_G0 243) v4 v))) := by
  refine sh_w (i := (.iload 4)) (len := 2) (pc2 := 25) (lv2 := [(4, .int i), (3, .ref 125), (2, .ref 67), (1, .ref 1), (0, .ref 0)]) (st2 := [.int i]) (h2 := h) rfl rfl rfl ?_
  refine sh_w (i := (.aload_n 0)) (len := 1) (pc2 := 26) (lv2 := [(4, .int i), (3, .ref 125), (2, .ref 67), (1, .ref 1), (0, .ref 0)]) (st2 := [.ref 0, .int i]) (h2 := h) rfl rfl rfl ?_
  refine sh_sl1 (pc2 := 27) rfl hsc rfl ?_
  refine sh_w (i := (.bipush 6)) (len := 2) (pc2 := 29) (lv2 := [(4, .int i), (3, .ref 125), (2, .ref 67), (1, .ref 1), (0, .ref 0)]) (st2 := [.int 6, .int (Int32.ofNat L), .int i]) (h2 := h) rfl rfl rfl ?_
  refine sh_w (i := .isub) (len := 1) (pc2 := 30) (lv2 := [(4, .int i), (3, .ref 125), (2, .ref 67), (1, .ref 1), (0, .ref 0)]) (st2 := [.int ((Int32.ofNat L) - 6), .int i]) (h2 := h) rfl rfl rfl ?_
  refine sh_jc (c := .gt) (off := (493)) (pc2 := 33) false rfl (sh_Bgtf hI.1) rfl ?_
  refine sh_w (i := (.aload_n 0)) (len := 1) (pc2 := 34) (lv2 := [(4, .int i), (3, .ref 125), (2, .ref 67), (1, .ref 1), (0, .ref 0)]) (st2 := [.ref 0]) (h2 := h) rfl rfl rfl ?_
  refine sh_w (i := (.iload 4)) (len := 2) (pc2 := 36) (lv2 := [(4, .int i), (3, .ref 125), (2, .ref 67), (1, .ref 1), (0, .ref 0)]) (st2 := [.int i, .ref 0]) (h2 := h) rfl rfl rfl ?_
  refine sh_sc1 (pc2 := 37) rfl hsc hI.2.1.1 hI.2.1.2 rfl ?_
  refine sh_w (i := (.bipush 15)) (len := 2) (pc2 := 39) (lv2 := [(4, .int i), (3, .ref 125), (2, .ref 67), (1, .ref 1), (0, .ref 0)]) (st2 := [.int 15, .int (xs (Int32.toNatClampNeg i))]) (h2 := h) rfl rfl rfl ?_
  refine sh_w (i := .iand) (len := 1) (pc2 := 40) (lv2 := [(4, .int i), (3, .ref 125), (2, .ref 67), (1, .ref 1), (0, .ref 0)]) (st2 := [.int 7]) (h2 := h) rfl rfl (congrArg (fun z => some (40, [(4, Value.int i), (3, Value.ref 125), (2, Value.ref 67), (1, Value.ref 1), (0, Value.ref 0)], [Value.int z], h, 0, 0)) hc) ?_
  refine sh_w (i := (.tableswitch 477 0 10 #[60, 133, 158, 171, 184, 197, 222, 290, 362, 409, 422])) (len := 60) (pc2 := 330) (lv2 := [(4, .int i), (3, .ref 125), (2, .ref 67), (1, .ref 1), (0, .ref 0)]) (st2 := []) (h2 := h) rfl rfl rfl ?_
  refine sh_w (i := (.aload_n 1)) (len := 1) (pc2 := 331) (lv2 := [(4, .int i), (3, .ref 125), (2, .ref 67), (1, .ref 1), (0, .ref 0)]) (st2 := [.ref 1]) (h2 := h) rfl rfl rfl ?_
  refine sh_w (i := (.aload_n 0)) (len := 1) (pc2 := 332) (lv2 := [(4, .int i), (3, .ref 125), (2, .ref 67), (1, .ref 1), (0, .ref 0)]) (st2 := [.ref 0, .ref 1]) (h2 := h) rfl rfl rfl ?_
  refine sh_w (i := (.iload 4)) (len := 2) (pc2 := 334) (lv2 := [(4, .int i), (3, .ref 125), (2, .ref 67), (1, .ref 1), (0, .ref 0)]) (st2 := [.int i, .ref 0, .ref 1]) (h2 := h) rfl rfl rfl ?_
  refine sh_w (i := (.iconst 1)) (len := 1) (pc2 := 335) (lv2 := [(4, .int i), (3, .ref 125), (2, .ref 67), (1, .ref 1), (0, .ref 0)]) (st2 := [.int 1, .int i, .ref 0, .ref 1]) (h2 := h) rfl rfl rfl ?_
  refine sh_w (i := .iadd) (len := 1) (pc2 := 336) (lv2 := [(4, .int i), (3, .ref 125), (2, .ref 67), (1, .ref 1), (0, .ref 0)]) (st2 := [.int (i + 1), .ref 0, .ref 1]) (h2 := h) rfl rfl rfl ?_
  refine sh_sc1 (pc2 := 337) rfl hsc hI.2.2.1.1 hI.2.2.1.2 rfl ?_
  refine sh_w (i := (.aload_n 0)) (len := 1) (pc2 := 338) (lv2 := [(4, .int i), (3, .ref 125), (2, .ref 67), (1, .ref 1), (0, .ref 0)]) (st2 := [.ref 0, .int (xs (Int32.toNatClampNeg (i + 1))), .ref 1]) (h2 := h) rfl rfl rfl ?_
  refine sh_w (i := (.iload 4)) (len := 2) (pc2 := 340) (lv2 := [(4, .int i), (3, .ref 125), (2, .ref 67), (1, .ref 1), (0, .ref 0)]) (st2 := [.int i, .ref 0, .int (xs (Int32.toNatClampNeg (i + 1))), .ref 1]) (h2 := h) rfl rfl rfl ?_
  refine sh_w (i := (.iconst 2)) (len := 1) (pc2 := 341) (lv2 := [(4, .int i), (3, .ref 125), (2, .ref 67), (1, .ref 1), (0, .ref 0)]) (st2 := [.int 2, .int i, .ref 0, .int (xs (Int32.toNatClampNeg (i + 1))), .ref 1]) (h2 := h) rfl rfl rfl ?_
  refine sh_w (i := .iadd) (len := 1) (pc2 := 342) (lv2 := [(4, .int i), (3, .ref 125), (2, .ref 67), (1, .ref 1), (0, .ref 0)]) (st2 := [.int (i + 2), .ref 0, .int (xs (Int32.toNatClampNeg (i + 1))), .ref 1]) (h2 := h) rfl rfl rfl ?_
  refine sh_sc1 (pc2 := 343) rfl hsc hI.2.2.2.1.1 hI.2.2.2.1.2 rfl ?_
  refine sh_w (i := (.aload_n 0)) (len := 1) (pc2 := 344) (lv2 := [(4, .int i), (3, .ref 125), (2, .ref 67), (1, .ref 1), (0, .ref 0)]) (st2 := [.ref 0, .int (xs (Int32.toNatClampNeg (i + 2))), .int (xs (Int32.toNatClampNeg (i + 1))), .ref 1]) (h2 := h) rfl rfl rfl ?_
  refine sh_w (i := (.iload 4)) (len := 2) (pc2 := 346) (lv2 := [(4, .int i), (3, .ref 125), (2, .ref 67), (1, .ref 1), (0, .ref 0)]) (st2 := [.int i, .ref 0, .int (xs (Int32.toNatClampNeg (i + 2))), .int (xs (Int32.toNatClampNeg (i + 1))), .ref 1]) (h2 := h) rfl rfl rfl ?_
  refine sh_w (i := (.iconst 3)) (len := 1) (pc2 := 347) (lv2 := [(4, .int i), (3, .ref 125), (2, .ref 67), (1, .ref 1), (0, .ref 0)]) (st2 := [.int 3, .int i, .ref 0, .int (xs (Int32.toNatClampNeg (i + 2))), .int (xs (Int32.toNatClampNeg (i + 1))), .ref 1]) (h2 := h) rfl rfl rfl ?_
  refine sh_w (i := .iadd) (len := 1) (pc2 := 348) (lv2 := [(4, .int i), (3, .ref 125), (2, .ref 67), (1, .ref 1), (0, .ref 0)]) (st2 := [.int (i + 3), .ref 0, .int (xs (Int32.toNatClampNeg (i + 2))), .int (xs (Int32.toNatClampNeg (i + 1))), .ref 1]) (h2 := h) rfl rfl rfl ?_
  refine sh_sc1 (pc2 := 349) rfl hsc hI.2.2.2.2.1.1 hI.2.2.2.2.1.2 rfl ?_
  refine sh_w (i := (.aload_n 0)) (len := 1) (pc2 := 350) (lv2 := [(4, .int i), (3, .ref 125), (2, .ref 67), (1, .ref 1), (0, .ref 0)]) (st2 := [.ref 0, .int (xs (Int32.toNatClampNeg (i + 3))), .int (xs (Int32.toNatClampNeg (i + 2))), .int (xs (Int32.toNatClampNeg (i + 1))), .ref 1]) (h2 := h) rfl rfl rfl ?_
  refine sh_w (i := (.iload 4)) (len := 2) (pc2 := 352) (lv2 := [(4, .int i), (3, .ref 125), (2, .ref 67), (1, .ref 1), (0, .ref 0)]) (st2 := [.int i, .ref 0, .int (xs (Int32.toNatClampNeg (i + 3))), .int (xs (Int32.toNatClampNeg (i + 2))), .int (xs (Int32.toNatClampNeg (i + 1))), .ref 1]) (h2 := h) rfl rfl rfl ?_
  refine sh_w (i := (.iconst 4)) (len := 1) (pc2 := 353) (lv2 := [(4, .int i), (3, .ref 125), (2, .ref 67), (1, .ref 1), (0, .ref 0)]) (st2 := [.int 4, .int i, .ref 0, .int (xs (Int32.toNatClampNeg (i + 3))), .int (xs (Int32.toNatClampNeg (i + 2))), .int (xs (Int32.toNatClampNeg (i + 1))), .ref 1]) (h2 := h) rfl rfl rfl ?_
  refine sh_w (i := .iadd) (len := 1) (pc2 := 354) (lv2 := [(4, .int i), (3, .ref 125), (2, .ref 67), (1, .ref 1), (0, .ref 0)]) (st2 := [.int (i + 4), .ref 0, .int (xs (Int32.toNatClampNeg (i + 3))), .int (xs (Int32.toNatClampNeg (i + 2))), .int (xs (Int32.toNatClampNeg (i + 1))), .ref 1]) (h2 := h) rfl rfl rfl ?_
  refine sh_sc1 (pc2 := 355) rfl hsc hI.2.2.2.2.2.1.1 hI.2.2.2.2.2.1.2 rfl ?_
  refine sh_cS (k2 := 238) (as := [.ref 1, .int (xs (Int32.toNatClampNeg (i + 1))), .int (xs (Int32.toNatClampNeg (i + 2))), .int (xs (Int32.toNatClampNeg (i + 3))), .int (xs (Int32.toNatClampNeg (i + 4)))]) (rest := []) (st2 := [.int p]) (r := (some (.int p))) (pc2 := 358) rfl rfl (by decide) (Nat.le_of_ble_eq_true rfl) rfl rfl ⟨Nat.le_of_ble_eq_true rfl, Nat.le_of_ble_eq_true rfl⟩ hx rfl rfl ?_
  refine sh_w (i := (.istore 5)) (len := 2) (pc2 := 360) (lv2 := [(5, .int p), (4, .int i), (3, .ref 125), (2, .ref 67), (1, .ref 1), (0, .ref 0)]) (st2 := []) (h2 := h1) rfl rfl rfl ?_
  refine sh_w (i := (.aload_n 2)) (len := 1) (pc2 := 361) (lv2 := [(5, .int p), (4, .int i), (3, .ref 125), (2, .ref 67), (1, .ref 1), (0, .ref 0)]) (st2 := [.ref 67]) (h2 := h1) rfl rfl rfl ?_
  refine sh_w (i := (.aload_n 0)) (len := 1) (pc2 := 362) (lv2 := [(5, .int p), (4, .int i), (3, .ref 125), (2, .ref 67), (1, .ref 1), (0, .ref 0)]) (st2 := [.ref 0, .ref 67]) (h2 := h1) rfl rfl rfl ?_
  refine sh_w (i := (.iload 4)) (len := 2) (pc2 := 364) (lv2 := [(5, .int p), (4, .int i), (3, .ref 125), (2, .ref 67), (1, .ref 1), (0, .ref 0)]) (st2 := [.int i, .ref 0, .ref 67]) (h2 := h1) rfl rfl rfl ?_
  refine sh_w (i := (.iconst 1)) (len := 1) (pc2 := 365) (lv2 := [(5, .int p), (4, .int i), (3, .ref 125), (2, .ref 67), (1, .ref 1), (0, .ref 0)]) (st2 := [.int 1, .int i, .ref 0, .ref 67]) (h2 := h1) rfl rfl rfl ?_
  refine sh_w (i := .iadd) (len := 1) (pc2 := 366) (lv2 := [(5, .int p), (4, .int i), (3, .ref 125), (2, .ref 67), (1, .ref 1), (0, .ref 0)]) (st2 := [.int (i + 1), .ref 0, .ref 67]) (h2 := h1) rfl rfl rfl ?_
  refine sh_sc1 (pc2 := 367) rfl hsc hI.2.2.1.1 hI.2.2.1.2 rfl ?_
  refine sh_w (i := (.aload_n 0)) (len := 1) (pc2 := 368) (lv2 := [(5, .int p), (4, .int i), (3, .ref 125), (2, .ref 67), (1, .ref 1), (0, .ref 0)]) (st2 := [.ref 0, .int (xs (Int32.toNatClampNeg (i + 1))), .ref 67]) (h2 := h1) rfl rfl rfl ?_
  refine sh_w (i := (.iload 4)) (len := 2) (pc2 := 370) (lv2 := [(5, .int p), (4, .int i), (3, .ref 125), (2, .ref 67), (1, .ref 1), (0, .ref 0)]) (st2 := [.int i, .ref 0, .int (xs (Int32.toNatClampNeg (i + 1))), .ref 67]) (h2 := h1) rfl rfl rfl ?_
  refine sh_w (i := (.iconst 2)) (len := 1) (pc2 := 371) (lv2 := [(5, .int p), (4, .int i), (3, .ref 125), (2, .ref 67), (1, .ref 1), (0, .ref 0)]) (st2 := [.int 2, .int i, .ref 0, .int (xs (Int32.toNatClampNeg (i + 1))), .ref 67]) (h2 := h1) rfl rfl rfl ?_
  refine sh_w (i := .iadd) (len := 1) (pc2 := 372) (lv2 := [(5, .int p), (4, .int i), (3, .ref 125), (2, .ref 67), (1, .ref 1), (0, .ref 0)]) (st2 := [.int (i + 2), .ref 0, .int (xs (Int32.toNatClampNeg (i + 1))), .ref 67]) (h2 := h1) rfl rfl rfl ?_
  refine sh_sc1 (pc2 := 373) rfl hsc hI.2.2.2.1.1 hI.2.2.2.1.2 rfl ?_
  refine sh_w (i := (.aload_n 0)) (len := 1) (pc2 := 374) (lv2 := [(5, .int p), (4, .int i), (3, .ref 125), (2, .ref 67), (1, .ref 1), (0, .ref 0)]) (st2 := [.ref 0, .int (xs (Int32.toNatClampNeg (i + 2))), .int (xs (Int32.toNatClampNeg (i + 1))), .ref 67]) (h2 := h1) rfl rfl rfl ?_
  refine sh_w (i := (.iload 4)) (len := 2) (pc2 := 376) (lv2 := [(5, .int p), (4, .int i), (3, .ref 125), (2, .ref 67), (1, .ref 1), (0, .ref 0)]) (st2 := [.int i, .ref 0, .int (xs (Int32.toNatClampNeg (i + 2))), .int (xs (Int32.toNatClampNeg (i + 1))), .ref 67]) (h2 := h1) rfl rfl rfl ?_
  refine sh_w (i := (.iconst 3)) (len := 1) (pc2 := 377) (lv2 := [(5, .int p), (4, .int i), (3, .ref 125), (2, .ref 67), (1, .ref 1), (0, .ref 0)]) (st2 := [.int 3, .int i, .ref 0, .int (xs (Int32.toNatClampNeg (i + 2))), .int (xs (Int32.toNatClampNeg (i + 1))), .ref 67]) (h2 := h1) rfl rfl rfl ?_
  refine sh_w (i := .iadd) (len := 1) (pc2 := 378) (lv2 := [(5, .int p), (4, .int i), (3, .ref 125), (2, .ref 67), (1, .ref 1), (0, .ref 0)]) (st2 := [.int (i + 3), .ref 0, .int (xs (Int32.toNatClampNeg (i + 2))), .int (xs (Int32.toNatClampNeg (i + 1))), .ref 67]) (h2 := h1) rfl rfl rfl ?_
  refine sh_sc1 (pc2 := 379) rfl hsc hI.2.2.2.2.1.1 hI.2.2.2.2.1.2 rfl ?_
  refine sh_w (i := (.aload_n 0)) (len := 1) (pc2 := 380) (lv2 := [(5, .int p), (4, .int i), (3, .ref 125), (2, .ref 67), (1, .ref 1), (0, .ref 0)]) (st2 := [.ref 0, .int (xs (Int32.toNatClampNeg (i + 3))), .int (xs (Int32.toNatClampNeg (i + 2))), .int (xs (Int32.toNatClampNeg (i + 1))), .ref 67]) (h2 := h1) rfl rfl rfl ?_
  refine sh_w (i := (.iload 4)) (len := 2) (pc2 := 382) (lv2 := [(5, .int p), (4, .int i), (3, .ref 125), (2, .ref 67), (1, .ref 1), (0, .ref 0)]) (st2 := [.int i, .ref 0, .int (xs (Int32.toNatClampNeg (i + 3))), .int (xs (Int32.toNatClampNeg (i + 2))), .int (xs (Int32.toNatClampNeg (i + 1))), .ref 67]) (h2 := h1) rfl rfl rfl ?_
  refine sh_w (i := (.iconst 4)) (len := 1) (pc2 := 383) (lv2 := [(5, .int p), (4, .int i), (3, .ref 125), (2, .ref 67), (1, .ref 1), (0, .ref 0)]) (st2 := [.int 4, .int i, .ref 0, .int (xs (Int32.toNatClampNeg (i + 3))), .int (xs (Int32.toNatClampNeg (i + 2))), .int (xs (Int32.toNatClampNeg (i + 1))), .ref 67]) (h2 := h1) rfl rfl rfl ?_
  refine sh_w (i := .iadd) (len := 1) (pc2 := 384) (lv2 := [(5, .int p), (4, .int i), (3, .ref 125), (2, .ref 67), (1, .ref 1), (0, .ref 0)]) (st2 := [.int (i + 4), .ref 0, .int (xs (Int32.toNatClampNeg (i + 3))), .int (xs (Int32.toNatClampNeg (i + 2))), .int (xs (Int32.toNatClampNeg (i + 1))), .ref 67]) (h2 := h1) rfl rfl rfl ?_
  refine sh_sc1 (pc2 := 385) rfl hsc hI.2.2.2.2.2.1.1 hI.2.2.2.2.2.1.2 rfl ?_
  refine sh_cH (k2 := 336) (a := 66) (as := [.ref 67, .int (xs (Int32.toNatClampNeg (i + 1))), .int (xs (Int32.toNatClampNeg (i + 2))), .int (xs (Int32.toNatClampNeg (i + 3))), .int (xs (Int32.toNatClampNeg (i + 4)))]) (rest := []) (st2 := []) (r := none) (pc2 := 388) rfl rfl rfl f1 rfl rfl ⟨Nat.le_of_ble_eq_true rfl, Nat.le_of_ble_eq_true rfl⟩ hm rfl rfl ?_
  refine sh_w (i := (.aload_n 2)) (len := 1) (pc2 := 389) (lv2 := [(5, .int p), (4, .int i), (3, .ref 125), (2, .ref 67), (1, .ref 1), (0, .ref 0)]) (st2 := [.ref 67]) (h2 := h2) rfl rfl rfl ?_
  refine sh_cH (k2 := 243) (a := 66) (as := [.ref 67]) (rest := []) (st2 := [.int p]) (r := (some (.int p))) (pc2 := 392) rfl rfl rfl f2 rfl rfl ⟨Nat.le_of_ble_eq_true rfl, Nat.le_of_ble_eq_true rfl⟩ ht rfl rfl ?_
  refine sh_w (i := (.iload 5)) (len := 2) (pc2 := 394) (lv2 := [(5, .int p), (4, .int i), (3, .ref 125), (2, .ref 67), (1, .ref 1), (0, .ref 0)]) (st2 := [.int p, .int p]) (h2 := h4) rfl rfl rfl ?_
  refine sh_jc (c := .eq) (off := (5)) (pc2 := 399) true rfl (sh_Beqt rfl) rfl ?_
  refine sh_w (i := (.goto 118)) (len := 3) (pc2 := 517) (lv2 := [(5, .int p), (4, .int i), (3, .ref 125), (2, .ref 67), (1, .ref 1), (0, .ref 0)]) (st2 := []) (h2 := h4) rfl rfl rfl ?_
  refine sh_w (i := (.iinc 4 6)) (len := 3) (pc2 := 520) (lv2 := [(4, .int (i + 6)), (5, .int p), (3, .ref 125), (2, .ref 67), (1, .ref 1), (0, .ref 0)]) (st2 := []) (h2 := h4) rfl rfl rfl ?_
  refine sh_w (i := (.goto (-497))) (len := 3) (pc2 := 23) (lv2 := [(4, .int (i + 6)), (5, .int p), (3, .ref 125), (2, .ref 67), (1, .ref 1), (0, .ref 0)]) (st2 := []) (h2 := h4) rfl rfl rfl ?_
  exact kk
theorem sh_law10_0 {p : Int32} {q : Int64} (hsc : sc.1 = some (L, xs)) (hI : sh_Ix i L) (hc : xs (Int32.toNatClampNeg i) &&& 15 = 10) (f1 : ∃ fs, h1[66]? = some (.inr (12, fs))) (f2 : ∃ fs, h2[66]? = some (.inr (12, fs))) (hx : sh_To sh_G0 sc 240 0 [(0, .ref 1), (1, .int (xs (Int32.toNatClampNeg (i + 1)))), (2, .ref 125)] [] h (.returned (some (.int 0))) h1 v1) (hm : sh_To sh_G0 sc 340 0 [(0, .ref 67), (1, .int (xs (Int32.toNatClampNeg (i + 1))))] [] h1 (.returned (some (.long q))) h2 v2) (ht : sh_To sh_G0 sc 243 0 [(0, .ref 67)] [] h2 (.returned (some (.int 0))) h4 v4) (hq : ∃ f : Nat → Int64, h4[124]? = some (.inl (2, 1, .inr (.inl f))) ∧ f 0 = q) (kk : sh_To sh_G0 sc 0 23 [(4, .int (i + 6)), (6, .long q), (5, .int 0), (3, .ref 125), (2, .ref 67), (1, .ref 1), (0, .ref 0)] [] h4 o h3 v) : sh_To sh_G0 sc 0 23 [(4, .int i), (3, .ref 125), (2, .ref 67), (1, .ref 1), (0, .ref 0)] [] h o h3 (sh_seq (sh_L sh_G0 240) v1 (sh_seq (sh_L sh_G0 340) v2 (sh_seq (sh_L sh_G0 243) v4 v))) := by
  obtain ⟨f, hf, hf0⟩ := hq
  refine sh_w (i := (.iload 4)) (len := 2) (pc2 := 25) (lv2 := [(4, .int i), (3, .ref 125), (2, .ref 67), (1, .ref 1), (0, .ref 0)]) (st2 := [.int i]) (h2 := h) rfl rfl rfl ?_
  refine sh_w (i := (.aload_n 0)) (len := 1) (pc2 := 26) (lv2 := [(4, .int i), (3, .ref 125), (2, .ref 67), (1, .ref 1), (0, .ref 0)]) (st2 := [.ref 0, .int i]) (h2 := h) rfl rfl rfl ?_
  refine sh_sl1 (pc2 := 27) rfl hsc rfl ?_
  refine sh_w (i := (.bipush 6)) (len := 2) (pc2 := 29) (lv2 := [(4, .int i), (3, .ref 125), (2, .ref 67), (1, .ref 1), (0, .ref 0)]) (st2 := [.int 6, .int (Int32.ofNat L), .int i]) (h2 := h) rfl rfl rfl ?_
  refine sh_w (i := .isub) (len := 1) (pc2 := 30) (lv2 := [(4, .int i), (3, .ref 125), (2, .ref 67), (1, .ref 1), (0, .ref 0)]) (st2 := [.int ((Int32.ofNat L) - 6), .int i]) (h2 := h) rfl rfl rfl ?_
  refine sh_jc (c := .gt) (off := (493)) (pc2 := 33) false rfl (sh_Bgtf hI.1) rfl ?_
  refine sh_w (i := (.aload_n 0)) (len := 1) (pc2 := 34) (lv2 := [(4, .int i), (3, .ref 125), (2, .ref 67), (1, .ref 1), (0, .ref 0)]) (st2 := [.ref 0]) (h2 := h) rfl rfl rfl ?_
  refine sh_w (i := (.iload 4)) (len := 2) (pc2 := 36) (lv2 := [(4, .int i), (3, .ref 125), (2, .ref 67), (1, .ref 1), (0, .ref 0)]) (st2 := [.int i, .ref 0]) (h2 := h) rfl rfl rfl ?_
  refine sh_sc1 (pc2 := 37) rfl hsc hI.2.1.1 hI.2.1.2 rfl ?_
  refine sh_w (i := (.bipush 15)) (len := 2) (pc2 := 39) (lv2 := [(4, .int i), (3, .ref 125), (2, .ref 67), (1, .ref 1), (0, .ref 0)]) (st2 := [.int 15, .int (xs (Int32.toNatClampNeg i))]) (h2 := h) rfl rfl rfl ?_
  refine sh_w (i := .iand) (len := 1) (pc2 := 40) (lv2 := [(4, .int i), (3, .ref 125), (2, .ref 67), (1, .ref 1), (0, .ref 0)]) (st2 := [.int 10]) (h2 := h) rfl rfl (congrArg (fun z => some (40, [(4, Value.int i), (3, Value.ref 125), (2, Value.ref 67), (1, Value.ref 1), (0, Value.ref 0)], [Value.int z], h, 0, 0)) hc) ?_
  refine sh_w (i := (.tableswitch 477 0 10 #[60, 133, 158, 171, 184, 197, 222, 290, 362, 409, 422])) (len := 60) (pc2 := 462) (lv2 := [(4, .int i), (3, .ref 125), (2, .ref 67), (1, .ref 1), (0, .ref 0)]) (st2 := []) (h2 := h) rfl rfl rfl ?_
  refine sh_w (i := (.aload_n 1)) (len := 1) (pc2 := 463) (lv2 := [(4, .int i), (3, .ref 125), (2, .ref 67), (1, .ref 1), (0, .ref 0)]) (st2 := [.ref 1]) (h2 := h) rfl rfl rfl ?_
  refine sh_w (i := (.aload_n 0)) (len := 1) (pc2 := 464) (lv2 := [(4, .int i), (3, .ref 125), (2, .ref 67), (1, .ref 1), (0, .ref 0)]) (st2 := [.ref 0, .ref 1]) (h2 := h) rfl rfl rfl ?_
  refine sh_w (i := (.iload 4)) (len := 2) (pc2 := 466) (lv2 := [(4, .int i), (3, .ref 125), (2, .ref 67), (1, .ref 1), (0, .ref 0)]) (st2 := [.int i, .ref 0, .ref 1]) (h2 := h) rfl rfl rfl ?_
  refine sh_w (i := (.iconst 1)) (len := 1) (pc2 := 467) (lv2 := [(4, .int i), (3, .ref 125), (2, .ref 67), (1, .ref 1), (0, .ref 0)]) (st2 := [.int 1, .int i, .ref 0, .ref 1]) (h2 := h) rfl rfl rfl ?_
  refine sh_w (i := .iadd) (len := 1) (pc2 := 468) (lv2 := [(4, .int i), (3, .ref 125), (2, .ref 67), (1, .ref 1), (0, .ref 0)]) (st2 := [.int (i + 1), .ref 0, .ref 1]) (h2 := h) rfl rfl rfl ?_
  refine sh_sc1 (pc2 := 469) rfl hsc hI.2.2.1.1 hI.2.2.1.2 rfl ?_
  refine sh_w (i := (.aload_n 3)) (len := 1) (pc2 := 470) (lv2 := [(4, .int i), (3, .ref 125), (2, .ref 67), (1, .ref 1), (0, .ref 0)]) (st2 := [.ref 125, .int (xs (Int32.toNatClampNeg (i + 1))), .ref 1]) (h2 := h) rfl rfl rfl ?_
  refine sh_cS (k2 := 240) (as := [.ref 1, .int (xs (Int32.toNatClampNeg (i + 1))), .ref 125]) (rest := []) (st2 := [.int 0]) (r := (some (.int 0))) (pc2 := 473) rfl rfl (by decide) (Nat.le_of_ble_eq_true rfl) rfl rfl ⟨Nat.le_of_ble_eq_true rfl, Nat.le_of_ble_eq_true rfl⟩ hx rfl rfl ?_
  refine sh_w (i := (.istore 5)) (len := 2) (pc2 := 475) (lv2 := [(5, .int 0), (4, .int i), (3, .ref 125), (2, .ref 67), (1, .ref 1), (0, .ref 0)]) (st2 := []) (h2 := h1) rfl rfl rfl ?_
  refine sh_w (i := (.aload_n 2)) (len := 1) (pc2 := 476) (lv2 := [(5, .int 0), (4, .int i), (3, .ref 125), (2, .ref 67), (1, .ref 1), (0, .ref 0)]) (st2 := [.ref 67]) (h2 := h1) rfl rfl rfl ?_
  refine sh_w (i := (.aload_n 0)) (len := 1) (pc2 := 477) (lv2 := [(5, .int 0), (4, .int i), (3, .ref 125), (2, .ref 67), (1, .ref 1), (0, .ref 0)]) (st2 := [.ref 0, .ref 67]) (h2 := h1) rfl rfl rfl ?_
  refine sh_w (i := (.iload 4)) (len := 2) (pc2 := 479) (lv2 := [(5, .int 0), (4, .int i), (3, .ref 125), (2, .ref 67), (1, .ref 1), (0, .ref 0)]) (st2 := [.int i, .ref 0, .ref 67]) (h2 := h1) rfl rfl rfl ?_
  refine sh_w (i := (.iconst 1)) (len := 1) (pc2 := 480) (lv2 := [(5, .int 0), (4, .int i), (3, .ref 125), (2, .ref 67), (1, .ref 1), (0, .ref 0)]) (st2 := [.int 1, .int i, .ref 0, .ref 67]) (h2 := h1) rfl rfl rfl ?_
  refine sh_w (i := .iadd) (len := 1) (pc2 := 481) (lv2 := [(5, .int 0), (4, .int i), (3, .ref 125), (2, .ref 67), (1, .ref 1), (0, .ref 0)]) (st2 := [.int (i + 1), .ref 0, .ref 67]) (h2 := h1) rfl rfl rfl ?_
  refine sh_sc1 (pc2 := 482) rfl hsc hI.2.2.1.1 hI.2.2.1.2 rfl ?_
  refine sh_cH (k2 := 340) (a := 66) (as := [.ref 67, .int (xs (Int32.toNatClampNeg (i + 1)))]) (rest := []) (st2 := [.long q]) (r := (some (.long q))) (pc2 := 485) rfl rfl rfl f1 rfl rfl ⟨Nat.le_of_ble_eq_true rfl, Nat.le_of_ble_eq_true rfl⟩ hm rfl rfl ?_
  refine sh_w (i := (.lstore 6)) (len := 2) (pc2 := 487) (lv2 := [(6, .long q), (5, .int 0), (4, .int i), (3, .ref 125), (2, .ref 67), (1, .ref 1), (0, .ref 0)]) (st2 := []) (h2 := h2) rfl rfl rfl ?_
  refine sh_w (i := (.aload_n 2)) (len := 1) (pc2 := 488) (lv2 := [(6, .long q), (5, .int 0), (4, .int i), (3, .ref 125), (2, .ref 67), (1, .ref 1), (0, .ref 0)]) (st2 := [.ref 67]) (h2 := h2) rfl rfl rfl ?_
  refine sh_cH (k2 := 243) (a := 66) (as := [.ref 67]) (rest := []) (st2 := [.int 0]) (r := (some (.int 0))) (pc2 := 491) rfl rfl rfl f2 rfl rfl ⟨Nat.le_of_ble_eq_true rfl, Nat.le_of_ble_eq_true rfl⟩ ht rfl rfl ?_
  refine sh_w (i := (.iload 5)) (len := 2) (pc2 := 493) (lv2 := [(6, .long q), (5, .int 0), (4, .int i), (3, .ref 125), (2, .ref 67), (1, .ref 1), (0, .ref 0)]) (st2 := [.int 0, .int 0]) (h2 := h4) rfl rfl rfl ?_
  refine sh_jc (c := .eq) (off := (5)) (pc2 := 498) true rfl rfl rfl ?_
  refine sh_w (i := (.iload 5)) (len := 2) (pc2 := 500) (lv2 := [(6, .long q), (5, .int 0), (4, .int i), (3, .ref 125), (2, .ref 67), (1, .ref 1), (0, .ref 0)]) (st2 := [.int 0]) (h2 := h4) rfl rfl rfl ?_
  refine sh_j0 (c := .ne) (off := (14)) (pc2 := 503) false rfl rfl rfl ?_
  refine sh_w (i := (.aload_n 3)) (len := 1) (pc2 := 504) (lv2 := [(6, .long q), (5, .int 0), (4, .int i), (3, .ref 125), (2, .ref 67), (1, .ref 1), (0, .ref 0)]) (st2 := [.ref 125]) (h2 := h4) rfl rfl rfl ?_
  refine sh_w (i := (.iconst 0)) (len := 1) (pc2 := 505) (lv2 := [(6, .long q), (5, .int 0), (4, .int i), (3, .ref 125), (2, .ref 67), (1, .ref 1), (0, .ref 0)]) (st2 := [.int 0, .ref 125]) (h2 := h4) rfl rfl rfl ?_
  refine sh_laH (x := f 0) (pc2 := 506) rfl hf (by decide) (by decide) rfl rfl ?_
  refine sh_w (i := (.lload 6)) (len := 2) (pc2 := 508) (lv2 := [(6, .long q), (5, .int 0), (4, .int i), (3, .ref 125), (2, .ref 67), (1, .ref 1), (0, .ref 0)]) (st2 := [.long q, .long (f 0)]) (h2 := h4) rfl rfl rfl ?_
  refine sh_w (i := .lcmp) (len := 1) (pc2 := 509) (lv2 := [(6, .long q), (5, .int 0), (4, .int i), (3, .ref 125), (2, .ref 67), (1, .ref 1), (0, .ref 0)]) (st2 := [.int 0]) (h2 := h4) rfl rfl (by rw [hf0]; show some (509, _, [Value.int (lg_cmp (q) (q))], h4, 0, 0) = _; rw [sh_cmp0]) ?_
  refine sh_j0 (c := .eq) (off := (5)) (pc2 := 514) true rfl rfl rfl ?_
  refine sh_w (i := (.goto 3)) (len := 3) (pc2 := 517) (lv2 := [(6, .long q), (5, .int 0), (4, .int i), (3, .ref 125), (2, .ref 67), (1, .ref 1), (0, .ref 0)]) (st2 := []) (h2 := h4) rfl rfl rfl ?_
  refine sh_w (i := (.iinc 4 6)) (len := 3) (pc2 := 520) (lv2 := [(4, .int (i + 6)), (6, .long q), (5, .int 0), (3, .ref 125), (2, .ref 67), (1, .ref 1), (0, .ref 0)]) (st2 := []) (h2 := h4) rfl rfl rfl ?_
  refine sh_w (i := (.goto (-497))) (len := 3) (pc2 := 23) (lv2 := [(4, .int (i + 6)), (6, .long q), (5, .int 0), (3, .ref 125), (2, .ref 67), (1, .ref 1), (0, .ref 0)]) (st2 := []) (h2 := h4) rfl rfl rfl ?_
  exact kk
theorem sh_law10_1 {p : Int32} {q : Int64} (hsc : sc.1 = some (L, xs)) (hI : sh_Ix i L) (hc : xs (Int32.toNatClampNeg i) &&& 15 = 10) (f1 : ∃ fs, h1[66]? = some (.inr (12, fs))) (f2 : ∃ fs, h2[66]? = some (.inr (12, fs))) (hx : sh_To sh_G0 sc 240 0 [(0, .ref 1), (1, .int (xs (Int32.toNatClampNeg (i + 1)))), (2, .ref 125)] [] h (.returned (some (.int 1))) h1 v1) (hm : sh_To sh_G0 sc 340 0 [(0, .ref 67), (1, .int (xs (Int32.toNatClampNeg (i + 1))))] [] h1 (.returned (some (.long q))) h2 v2) (ht : sh_To sh_G0 sc 243 0 [(0, .ref 67)] [] h2 (.returned (some (.int 1))) h4 v4) (kk : sh_To sh_G0 sc 0 23 [(4, .int (i + 6)), (6, .long q), (5, .int 1), (3, .ref 125), (2, .ref 67), (1, .ref 1), (0, .ref 0)] [] h4 o h3 v) : sh_To sh_G0 sc 0 23 [(4, .int i), (3, .ref 125), (2, .ref 67), (1, .ref 1), (0, .ref 0)] [] h o h3 (sh_seq (sh_L sh_G0 240) v1 (sh_seq (sh_L sh_G0 340) v2 (sh_seq (sh_L sh_G0 243) v4 v))) := by
  refine sh_w (i := (.iload 4)) (len := 2) (pc2 := 25) (lv2 := [(4, .int i), (3, .ref 125), (2, .ref 67), (1, .ref 1), (0, .ref 0)]) (st2 := [.int i]) (h2 := h) rfl rfl rfl ?_
  refine sh_w (i := (.aload_n 0)) (len := 1) (pc2 := 26) (lv2 := [(4, .int i), (3, .ref 125), (2, .ref 67), (1, .ref 1), (0, .ref 0)]) (st2 := [.ref 0, .int i]) (h2 := h) rfl rfl rfl ?_
  refine sh_sl1 (pc2 := 27) rfl hsc rfl ?_
  refine sh_w (i := (.bipush 6)) (len := 2) (pc2 := 29) (lv2 := [(4, .int i), (3, .ref 125), (2, .ref 67), (1, .ref 1), (0, .ref 0)]) (st2 := [.int 6, .int (Int32.ofNat L), .int i]) (h2 := h) rfl rfl rfl ?_
  refine sh_w (i := .isub) (len := 1) (pc2 := 30) (lv2 := [(4, .int i), (3, .ref 125), (2, .ref 67), (1, .ref 1), (0, .ref 0)]) (st2 := [.int ((Int32.ofNat L) - 6), .int i]) (h2 := h) rfl rfl rfl ?_
  refine sh_jc (c := .gt) (off := (493)) (pc2 := 33) false rfl (sh_Bgtf hI.1) rfl ?_
  refine sh_w (i := (.aload_n 0)) (len := 1) (pc2 := 34) (lv2 := [(4, .int i), (3, .ref 125), (2, .ref 67), (1, .ref 1), (0, .ref 0)]) (st2 := [.ref 0]) (h2 := h) rfl rfl rfl ?_
  refine sh_w (i := (.iload 4)) (len := 2) (pc2 := 36) (lv2 := [(4, .int i), (3, .ref 125), (2, .ref 67), (1, .ref 1), (0, .ref 0)]) (st2 := [.int i, .ref 0]) (h2 := h) rfl rfl rfl ?_
  refine sh_sc1 (pc2 := 37) rfl hsc hI.2.1.1 hI.2.1.2 rfl ?_
  refine sh_w (i := (.bipush 15)) (len := 2) (pc2 := 39) (lv2 := [(4, .int i), (3, .ref 125), (2, .ref 67), (1, .ref 1), (0, .ref 0)]) (st2 := [.int 15, .int (xs (Int32.toNatClampNeg i))]) (h2 := h) rfl rfl rfl ?_
  refine sh_w (i := .iand) (len := 1) (pc2 := 40) (lv2 := [(4, .int i), (3, .ref 125), (2, .ref 67), (1, .ref 1), (0, .ref 0)]) (st2 := [.int 10]) (h2 := h) rfl rfl (congrArg (fun z => some (40, [(4, Value.int i), (3, Value.ref 125), (2, Value.ref 67), (1, Value.ref 1), (0, Value.ref 0)], [Value.int z], h, 0, 0)) hc) ?_
  refine sh_w (i := (.tableswitch 477 0 10 #[60, 133, 158, 171, 184, 197, 222, 290, 362, 409, 422])) (len := 60) (pc2 := 462) (lv2 := [(4, .int i), (3, .ref 125), (2, .ref 67), (1, .ref 1), (0, .ref 0)]) (st2 := []) (h2 := h) rfl rfl rfl ?_
  refine sh_w (i := (.aload_n 1)) (len := 1) (pc2 := 463) (lv2 := [(4, .int i), (3, .ref 125), (2, .ref 67), (1, .ref 1), (0, .ref 0)]) (st2 := [.ref 1]) (h2 := h) rfl rfl rfl ?_
  refine sh_w (i := (.aload_n 0)) (len := 1) (pc2 := 464) (lv2 := [(4, .int i), (3, .ref 125), (2, .ref 67), (1, .ref 1), (0, .ref 0)]) (st2 := [.ref 0, .ref 1]) (h2 := h) rfl rfl rfl ?_
  refine sh_w (i := (.iload 4)) (len := 2) (pc2 := 466) (lv2 := [(4, .int i), (3, .ref 125), (2, .ref 67), (1, .ref 1), (0, .ref 0)]) (st2 := [.int i, .ref 0, .ref 1]) (h2 := h) rfl rfl rfl ?_
  refine sh_w (i := (.iconst 1)) (len := 1) (pc2 := 467) (lv2 := [(4, .int i), (3, .ref 125), (2, .ref 67), (1, .ref 1), (0, .ref 0)]) (st2 := [.int 1, .int i, .ref 0, .ref 1]) (h2 := h) rfl rfl rfl ?_
  refine sh_w (i := .iadd) (len := 1) (pc2 := 468) (lv2 := [(4, .int i), (3, .ref 125), (2, .ref 67), (1, .ref 1), (0, .ref 0)]) (st2 := [.int (i + 1), .ref 0, .ref 1]) (h2 := h) rfl rfl rfl ?_
  refine sh_sc1 (pc2 := 469) rfl hsc hI.2.2.1.1 hI.2.2.1.2 rfl ?_
  refine sh_w (i := (.aload_n 3)) (len := 1) (pc2 := 470) (lv2 := [(4, .int i), (3, .ref 125), (2, .ref 67), (1, .ref 1), (0, .ref 0)]) (st2 := [.ref 125, .int (xs (Int32.toNatClampNeg (i + 1))), .ref 1]) (h2 := h) rfl rfl rfl ?_
  refine sh_cS (k2 := 240) (as := [.ref 1, .int (xs (Int32.toNatClampNeg (i + 1))), .ref 125]) (rest := []) (st2 := [.int 1]) (r := (some (.int 1))) (pc2 := 473) rfl rfl (by decide) (Nat.le_of_ble_eq_true rfl) rfl rfl ⟨Nat.le_of_ble_eq_true rfl, Nat.le_of_ble_eq_true rfl⟩ hx rfl rfl ?_
  refine sh_w (i := (.istore 5)) (len := 2) (pc2 := 475) (lv2 := [(5, .int 1), (4, .int i), (3, .ref 125), (2, .ref 67), (1, .ref 1), (0, .ref 0)]) (st2 := []) (h2 := h1) rfl rfl rfl ?_
  refine sh_w (i := (.aload_n 2)) (len := 1) (pc2 := 476) (lv2 := [(5, .int 1), (4, .int i), (3, .ref 125), (2, .ref 67), (1, .ref 1), (0, .ref 0)]) (st2 := [.ref 67]) (h2 := h1) rfl rfl rfl ?_
  refine sh_w (i := (.aload_n 0)) (len := 1) (pc2 := 477) (lv2 := [(5, .int 1), (4, .int i), (3, .ref 125), (2, .ref 67), (1, .ref 1), (0, .ref 0)]) (st2 := [.ref 0, .ref 67]) (h2 := h1) rfl rfl rfl ?_
  refine sh_w (i := (.iload 4)) (len := 2) (pc2 := 479) (lv2 := [(5, .int 1), (4, .int i), (3, .ref 125), (2, .ref 67), (1, .ref 1), (0, .ref 0)]) (st2 := [.int i, .ref 0, .ref 67]) (h2 := h1) rfl rfl rfl ?_
  refine sh_w (i := (.iconst 1)) (len := 1) (pc2 := 480) (lv2 := [(5, .int 1), (4, .int i), (3, .ref 125), (2, .ref 67), (1, .ref 1), (0, .ref 0)]) (st2 := [.int 1, .int i, .ref 0, .ref 67]) (h2 := h1) rfl rfl rfl ?_
  refine sh_w (i := .iadd) (len := 1) (pc2 := 481) (lv2 := [(5, .int 1), (4, .int i), (3, .ref 125), (2, .ref 67), (1, .ref 1), (0, .ref 0)]) (st2 := [.int (i + 1), .ref 0, .ref 67]) (h2 := h1) rfl rfl rfl ?_
  refine sh_sc1 (pc2 := 482) rfl hsc hI.2.2.1.1 hI.2.2.1.2 rfl ?_
  refine sh_cH (k2 := 340) (a := 66) (as := [.ref 67, .int (xs (Int32.toNatClampNeg (i + 1)))]) (rest := []) (st2 := [.long q]) (r := (some (.long q))) (pc2 := 485) rfl rfl rfl f1 rfl rfl ⟨Nat.le_of_ble_eq_true rfl, Nat.le_of_ble_eq_true rfl⟩ hm rfl rfl ?_
  refine sh_w (i := (.lstore 6)) (len := 2) (pc2 := 487) (lv2 := [(6, .long q), (5, .int 1), (4, .int i), (3, .ref 125), (2, .ref 67), (1, .ref 1), (0, .ref 0)]) (st2 := []) (h2 := h2) rfl rfl rfl ?_
  refine sh_w (i := (.aload_n 2)) (len := 1) (pc2 := 488) (lv2 := [(6, .long q), (5, .int 1), (4, .int i), (3, .ref 125), (2, .ref 67), (1, .ref 1), (0, .ref 0)]) (st2 := [.ref 67]) (h2 := h2) rfl rfl rfl ?_
  refine sh_cH (k2 := 243) (a := 66) (as := [.ref 67]) (rest := []) (st2 := [.int 1]) (r := (some (.int 1))) (pc2 := 491) rfl rfl rfl f2 rfl rfl ⟨Nat.le_of_ble_eq_true rfl, Nat.le_of_ble_eq_true rfl⟩ ht rfl rfl ?_
  refine sh_w (i := (.iload 5)) (len := 2) (pc2 := 493) (lv2 := [(6, .long q), (5, .int 1), (4, .int i), (3, .ref 125), (2, .ref 67), (1, .ref 1), (0, .ref 0)]) (st2 := [.int 1, .int 1]) (h2 := h4) rfl rfl rfl ?_
  refine sh_jc (c := .eq) (off := (5)) (pc2 := 498) true rfl rfl rfl ?_
  refine sh_w (i := (.iload 5)) (len := 2) (pc2 := 500) (lv2 := [(6, .long q), (5, .int 1), (4, .int i), (3, .ref 125), (2, .ref 67), (1, .ref 1), (0, .ref 0)]) (st2 := [.int 1]) (h2 := h4) rfl rfl rfl ?_
  refine sh_j0 (c := .ne) (off := (14)) (pc2 := 514) true rfl rfl rfl ?_
  refine sh_w (i := (.goto 3)) (len := 3) (pc2 := 517) (lv2 := [(6, .long q), (5, .int 1), (4, .int i), (3, .ref 125), (2, .ref 67), (1, .ref 1), (0, .ref 0)]) (st2 := []) (h2 := h4) rfl rfl rfl ?_
  refine sh_w (i := (.iinc 4 6)) (len := 3) (pc2 := 520) (lv2 := [(4, .int (i + 6)), (6, .long q), (5, .int 1), (3, .ref 125), (2, .ref 67), (1, .ref 1), (0, .ref 0)]) (st2 := []) (h2 := h4) rfl rfl rfl ?_
  refine sh_w (i := (.goto (-497))) (len := 3) (pc2 := 23) (lv2 := [(4, .int (i + 6)), (6, .long q), (5, .int 1), (3, .ref 125), (2, .ref 67), (1, .ref 1), (0, .ref 0)]) (st2 := []) (h2 := h4) rfl rfl rfl ?_
  exact kk
theorem sh_law8 (hsc : sc.1 = some (L, xs)) (hI : sh_Ix i L) (hc : xs (Int32.toNatClampNeg i) &&& 15 = 8) (f0 : ∃ fs, h[0]? = some (.inr (0, fs))) (f1 : ∃ fs, h1[66]? = some (.inr (12, fs))) (hx : sh_To sh_G0 sc 217 0 [(0, .ref 1), (1, .int (xs (Int32.toNatClampNeg (i + 1)))), (2, .int (xs (Int32.toNatClampNeg (i + 2)))), (3, .int (xs (Int32.toNatClampNeg (i + 3))))] [] h (.returned none) h1 v1) (hm : sh_To sh_G0 sc 337 0 [(0, .ref 67), (1, .int (xs (Int32.toNatClampNeg (i + 1)))), (2, .int (xs (Int32.toNatClampNeg (i + 2)))), (3, .int (xs (Int32.toNatClampNeg (i + 3))))] [] h1 (.returned none) h2 v2) (kk : sh_To sh_G0 sc 0 23 [(4, .int (i + 6)), (3, .ref 125), (2, .ref 67), (1, .ref 1), (0, .ref 0)] [] h2 o h3 v) : sh_To sh_G0 sc 0 23 [(4, .int i), (3, .ref 125), (2, .ref 67), (1, .ref 1), (0, .ref 0)] [] h o h3 (sh_seq (sh_L sh_G0 217) v1 (sh_seq (sh_L sh_G0 337) v2 v)) := by
  refine sh_w (i := (.iload 4)) (len := 2) (pc2 := 25) (lv2 := [(4, .int i), (3, .ref 125), (2, .ref 67), (1, .ref 1), (0, .ref 0)]) (st2 := [.int i]) (h2 := h) rfl rfl rfl ?_
  refine sh_w (i := (.aload_n 0)) (len := 1) (pc2 := 26) (lv2 := [(4, .int i), (3, .ref 125), (2, .ref 67), (1, .ref 1), (0, .ref 0)]) (st2 := [.ref 0, .int i]) (h2 := h) rfl rfl rfl ?_
  refine sh_sl1 (pc2 := 27) rfl hsc rfl ?_
  refine sh_w (i := (.bipush 6)) (len := 2) (pc2 := 29) (lv2 := [(4, .int i), (3, .ref 125), (2, .ref 67), (1, .ref 1), (0, .ref 0)]) (st2 := [.int 6, .int (Int32.ofNat L), .int i]) (h2 := h) rfl rfl rfl ?_
  refine sh_w (i := .isub) (len := 1) (pc2 := 30) (lv2 := [(4, .int i), (3, .ref 125), (2, .ref 67), (1, .ref 1), (0, .ref 0)]) (st2 := [.int ((Int32.ofNat L) - 6), .int i]) (h2 := h) rfl rfl rfl ?_
  refine sh_jc (c := .gt) (off := (493)) (pc2 := 33) false rfl (sh_Bgtf hI.1) rfl ?_
  refine sh_w (i := (.aload_n 0)) (len := 1) (pc2 := 34) (lv2 := [(4, .int i), (3, .ref 125), (2, .ref 67), (1, .ref 1), (0, .ref 0)]) (st2 := [.ref 0]) (h2 := h) rfl rfl rfl ?_
  refine sh_w (i := (.iload 4)) (len := 2) (pc2 := 36) (lv2 := [(4, .int i), (3, .ref 125), (2, .ref 67), (1, .ref 1), (0, .ref 0)]) (st2 := [.int i, .ref 0]) (h2 := h) rfl rfl rfl ?_
  refine sh_sc1 (pc2 := 37) rfl hsc hI.2.1.1 hI.2.1.2 rfl ?_
  refine sh_w (i := (.bipush 15)) (len := 2) (pc2 := 39) (lv2 := [(4, .int i), (3, .ref 125), (2, .ref 67), (1, .ref 1), (0, .ref 0)]) (st2 := [.int 15, .int (xs (Int32.toNatClampNeg i))]) (h2 := h) rfl rfl rfl ?_
  refine sh_w (i := .iand) (len := 1) (pc2 := 40) (lv2 := [(4, .int i), (3, .ref 125), (2, .ref 67), (1, .ref 1), (0, .ref 0)]) (st2 := [.int 8]) (h2 := h) rfl rfl (congrArg (fun z => some (40, [(4, Value.int i), (3, Value.ref 125), (2, Value.ref 67), (1, Value.ref 1), (0, Value.ref 0)], [Value.int z], h, 0, 0)) hc) ?_
  refine sh_w (i := (.tableswitch 477 0 10 #[60, 133, 158, 171, 184, 197, 222, 290, 362, 409, 422])) (len := 60) (pc2 := 402) (lv2 := [(4, .int i), (3, .ref 125), (2, .ref 67), (1, .ref 1), (0, .ref 0)]) (st2 := []) (h2 := h) rfl rfl rfl ?_
  refine sh_w (i := (.aload_n 1)) (len := 1) (pc2 := 403) (lv2 := [(4, .int i), (3, .ref 125), (2, .ref 67), (1, .ref 1), (0, .ref 0)]) (st2 := [.ref 1]) (h2 := h) rfl rfl rfl ?_
  refine sh_w (i := (.aload_n 0)) (len := 1) (pc2 := 404) (lv2 := [(4, .int i), (3, .ref 125), (2, .ref 67), (1, .ref 1), (0, .ref 0)]) (st2 := [.ref 0, .ref 1]) (h2 := h) rfl rfl rfl ?_
  refine sh_w (i := (.iload 4)) (len := 2) (pc2 := 406) (lv2 := [(4, .int i), (3, .ref 125), (2, .ref 67), (1, .ref 1), (0, .ref 0)]) (st2 := [.int i, .ref 0, .ref 1]) (h2 := h) rfl rfl rfl ?_
  refine sh_w (i := (.iconst 1)) (len := 1) (pc2 := 407) (lv2 := [(4, .int i), (3, .ref 125), (2, .ref 67), (1, .ref 1), (0, .ref 0)]) (st2 := [.int 1, .int i, .ref 0, .ref 1]) (h2 := h) rfl rfl rfl ?_
  refine sh_w (i := .iadd) (len := 1) (pc2 := 408) (lv2 := [(4, .int i), (3, .ref 125), (2, .ref 67), (1, .ref 1), (0, .ref 0)]) (st2 := [.int (i + 1), .ref 0, .ref 1]) (h2 := h) rfl rfl rfl ?_
  refine sh_sc1 (pc2 := 409) rfl hsc hI.2.2.1.1 hI.2.2.1.2 rfl ?_
  refine sh_w (i := (.aload_n 0)) (len := 1) (pc2 := 410) (lv2 := [(4, .int i), (3, .ref 125), (2, .ref 67), (1, .ref 1), (0, .ref 0)]) (st2 := [.ref 0, .int (xs (Int32.toNatClampNeg (i + 1))), .ref 1]) (h2 := h) rfl rfl rfl ?_
  refine sh_w (i := (.iload 4)) (len := 2) (pc2 := 412) (lv2 := [(4, .int i), (3, .ref 125), (2, .ref 67), (1, .ref 1), (0, .ref 0)]) (st2 := [.int i, .ref 0, .int (xs (Int32.toNatClampNeg (i + 1))), .ref 1]) (h2 := h) rfl rfl rfl ?_
  refine sh_w (i := (.iconst 2)) (len := 1) (pc2 := 413) (lv2 := [(4, .int i), (3, .ref 125), (2, .ref 67), (1, .ref 1), (0, .ref 0)]) (st2 := [.int 2, .int i, .ref 0, .int (xs (Int32.toNatClampNeg (i + 1))), .ref 1]) (h2 := h) rfl rfl rfl ?_
  refine sh_w (i := .iadd) (len := 1) (pc2 := 414) (lv2 := [(4, .int i), (3, .ref 125), (2, .ref 67), (1, .ref 1), (0, .ref 0)]) (st2 := [.int (i + 2), .ref 0, .int (xs (Int32.toNatClampNeg (i + 1))), .ref 1]) (h2 := h) rfl rfl rfl ?_
  refine sh_sc1 (pc2 := 415) rfl hsc hI.2.2.2.1.1 hI.2.2.2.1.2 rfl ?_
  refine sh_w (i := (.aload_n 0)) (len := 1) (pc2 := 416) (lv2 := [(4, .int i), (3, .ref 125), (2, .ref 67), (1, .ref 1), (0, .ref 0)]) (st2 := [.ref 0, .int (xs (Int32.toNatClampNeg (i + 2))), .int (xs (Int32.toNatClampNeg (i + 1))), .ref 1]) (h2 := h) rfl rfl rfl ?_
  refine sh_w (i := (.iload 4)) (len := 2) (pc2 := 418) (lv2 := [(4, .int i), (3, .ref 125), (2, .ref 67), (1, .ref 1), (0, .ref 0)]) (st2 := [.int i, .ref 0, .int (xs (Int32.toNatClampNeg (i + 2))), .int (xs (Int32.toNatClampNeg (i + 1))), .ref 1]) (h2 := h) rfl rfl rfl ?_
  refine sh_w (i := (.iconst 3)) (len := 1) (pc2 := 419) (lv2 := [(4, .int i), (3, .ref 125), (2, .ref 67), (1, .ref 1), (0, .ref 0)]) (st2 := [.int 3, .int i, .ref 0, .int (xs (Int32.toNatClampNeg (i + 2))), .int (xs (Int32.toNatClampNeg (i + 1))), .ref 1]) (h2 := h) rfl rfl rfl ?_
  refine sh_w (i := .iadd) (len := 1) (pc2 := 420) (lv2 := [(4, .int i), (3, .ref 125), (2, .ref 67), (1, .ref 1), (0, .ref 0)]) (st2 := [.int (i + 3), .ref 0, .int (xs (Int32.toNatClampNeg (i + 2))), .int (xs (Int32.toNatClampNeg (i + 1))), .ref 1]) (h2 := h) rfl rfl rfl ?_
  refine sh_sc1 (pc2 := 421) rfl hsc hI.2.2.2.2.1.1 hI.2.2.2.2.1.2 rfl ?_
  refine sh_cH (k2 := 217) (a := 0) (as := [.ref 1, .int (xs (Int32.toNatClampNeg (i + 1))), .int (xs (Int32.toNatClampNeg (i + 2))), .int (xs (Int32.toNatClampNeg (i + 3)))]) (rest := []) (st2 := []) (r := none) (pc2 := 424) rfl rfl rfl f0 rfl rfl ⟨Nat.le_of_ble_eq_true rfl, Nat.le_of_ble_eq_true rfl⟩ hx rfl rfl ?_
  refine sh_w (i := (.aload_n 2)) (len := 1) (pc2 := 425) (lv2 := [(4, .int i), (3, .ref 125), (2, .ref 67), (1, .ref 1), (0, .ref 0)]) (st2 := [.ref 67]) (h2 := h1) rfl rfl rfl ?_
  refine sh_w (i := (.aload_n 0)) (len := 1) (pc2 := 426) (lv2 := [(4, .int i), (3, .ref 125), (2, .ref 67), (1, .ref 1), (0, .ref 0)]) (st2 := [.ref 0, .ref 67]) (h2 := h1) rfl rfl rfl ?_
  refine sh_w (i := (.iload 4)) (len := 2) (pc2 := 428) (lv2 := [(4, .int i), (3, .ref 125), (2, .ref 67), (1, .ref 1), (0, .ref 0)]) (st2 := [.int i, .ref 0, .ref 67]) (h2 := h1) rfl rfl rfl ?_
  refine sh_w (i := (.iconst 1)) (len := 1) (pc2 := 429) (lv2 := [(4, .int i), (3, .ref 125), (2, .ref 67), (1, .ref 1), (0, .ref 0)]) (st2 := [.int 1, .int i, .ref 0, .ref 67]) (h2 := h1) rfl rfl rfl ?_
  refine sh_w (i := .iadd) (len := 1) (pc2 := 430) (lv2 := [(4, .int i), (3, .ref 125), (2, .ref 67), (1, .ref 1), (0, .ref 0)]) (st2 := [.int (i + 1), .ref 0, .ref 67]) (h2 := h1) rfl rfl rfl ?_
  refine sh_sc1 (pc2 := 431) rfl hsc hI.2.2.1.1 hI.2.2.1.2 rfl ?_
  refine sh_w (i := (.aload_n 0)) (len := 1) (pc2 := 432) (lv2 := [(4, .int i), (3, .ref 125), (2, .ref 67), (1, .ref 1), (0, .ref 0)]) (st2 := [.ref 0, .int (xs (Int32.toNatClampNeg (i + 1))), .ref 67]) (h2 := h1) rfl rfl rfl ?_
  refine sh_w (i := (.iload 4)) (len := 2) (pc2 := 434) (lv2 := [(4, .int i), (3, .ref 125), (2, .ref 67), (1, .ref 1), (0, .ref 0)]) (st2 := [.int i, .ref 0, .int (xs (Int32.toNatClampNeg (i + 1))), .ref 67]) (h2 := h1) rfl rfl rfl ?_
  refine sh_w (i := (.iconst 2)) (len := 1) (pc2 := 435) (lv2 := [(4, .int i), (3, .ref 125), (2, .ref 67), (1, .ref 1), (0, .ref 0)]) (st2 := [.int 2, .int i, .ref 0, .int (xs (Int32.toNatClampNeg (i + 1))), .ref 67]) (h2 := h1) rfl rfl rfl ?_
  refine sh_w (i := .iadd) (len := 1) (pc2 := 436) (lv2 := [(4, .int i), (3, .ref 125), (2, .ref 67), (1, .ref 1), (0, .ref 0)]) (st2 := [.int (i + 2), .ref 0, .int (xs (Int32.toNatClampNeg (i + 1))), .ref 67]) (h2 := h1) rfl rfl rfl ?_
  refine sh_sc1 (pc2 := 437) rfl hsc hI.2.2.2.1.1 hI.2.2.2.1.2 rfl ?_
  refine sh_w (i := (.aload_n 0)) (len := 1) (pc2 := 438) (lv2 := [(4, .int i), (3, .ref 125), (2, .ref 67), (1, .ref 1), (0, .ref 0)]) (st2 := [.ref 0, .int (xs (Int32.toNatClampNeg (i + 2))), .int (xs (Int32.toNatClampNeg (i + 1))), .ref 67]) (h2 := h1) rfl rfl rfl ?_
  refine sh_w (i := (.iload 4)) (len := 2) (pc2 := 440) (lv2 := [(4, .int i), (3, .ref 125), (2, .ref 67), (1, .ref 1), (0, .ref 0)]) (st2 := [.int i, .ref 0, .int (xs (Int32.toNatClampNeg (i + 2))), .int (xs (Int32.toNatClampNeg (i + 1))), .ref 67]) (h2 := h1) rfl rfl rfl ?_
  refine sh_w (i := (.iconst 3)) (len := 1) (pc2 := 441) (lv2 := [(4, .int i), (3, .ref 125), (2, .ref 67), (1, .ref 1), (0, .ref 0)]) (st2 := [.int 3, .int i, .ref 0, .int (xs (Int32.toNatClampNeg (i + 2))), .int (xs (Int32.toNatClampNeg (i + 1))), .ref 67]) (h2 := h1) rfl rfl rfl ?_
  refine sh_w (i := .iadd) (len := 1) (pc2 := 442) (lv2 := [(4, .int i), (3, .ref 125), (2, .ref 67), (1, .ref 1), (0, .ref 0)]) (st2 := [.int (i + 3), .ref 0, .int (xs (Int32.toNatClampNeg (i + 2))), .int (xs (Int32.toNatClampNeg (i + 1))), .ref 67]) (h2 := h1) rfl rfl rfl ?_
  refine sh_sc1 (pc2 := 443) rfl hsc hI.2.2.2.2.1.1 hI.2.2.2.2.1.2 rfl ?_
  refine sh_cH (k2 := 337) (a := 66) (as := [.ref 67, .int (xs (Int32.toNatClampNeg (i + 1))), .int (xs (Int32.toNatClampNeg (i + 2))), .int (xs (Int32.toNatClampNeg (i + 3)))]) (rest := []) (st2 := []) (r := none) (pc2 := 446) rfl rfl rfl f1 rfl rfl ⟨Nat.le_of_ble_eq_true rfl, Nat.le_of_ble_eq_true rfl⟩ hm rfl rfl ?_
  refine sh_w (i := (.goto 71)) (len := 3) (pc2 := 517) (lv2 := [(4, .int i), (3, .ref 125), (2, .ref 67), (1, .ref 1), (0, .ref 0)]) (st2 := []) (h2 := h2) rfl rfl rfl ?_
  refine sh_w (i := (.iinc 4 6)) (len := 3) (pc2 := 520) (lv2 := [(4, .int (i + 6)), (3, .ref 125), (2, .ref 67), (1, .ref 1), (0, .ref 0)]) (st2 := []) (h2 := h2) rfl rfl rfl ?_
  refine sh_w (i := (.goto (-497))) (len := 3) (pc2 := 23) (lv2 := [(4, .int (i + 6)), (3, .ref 125), (2, .ref 67), (1, .ref 1), (0, .ref 0)]) (st2 := []) (h2 := h2) rfl rfl rfl ?_
  exact kk
theorem sh_law11 (hsc : sc.1 = some (L, xs)) (hI : sh_Ix i L) (hc : xs (Int32.toNatClampNeg i) &&& 15 = 11) (kk : sh_To sh_G0 sc 0 23 [(4, .int (i + 6)), (3, .ref 125), (2, .ref 67), (1, .ref 1), (0, .ref 0)] [] h o h3 v) : sh_To sh_G0 sc 0 23 [(4, .int i), (3, .ref 125), (2, .ref 67), (1, .ref 1), (0, .ref 0)] [] h o h3 v := by
  refine sh_w (i := (.iload 4)) (len := 2) (pc2 := 25) (lv2 := [(4, .int i), (3, .ref 125), (2, .ref 67), (1, .ref 1), (0, .ref 0)]) (st2 := [.int i]) (h2 := h) rfl rfl rfl ?_
  refine sh_w (i := (.aload_n 0)) (len := 1) (pc2 := 26) (lv2 := [(4, .int i), (3, .ref 125), (2, .ref 67), (1, .ref 1), (0, .ref 0)]) (st2 := [.ref 0, .int i]) (h2 := h) rfl rfl rfl ?_
  refine sh_sl1 (pc2 := 27) rfl hsc rfl ?_
  refine sh_w (i := (.bipush 6)) (len := 2) (pc2 := 29) (lv2 := [(4, .int i), (3, .ref 125), (2, .ref 67), (1, .ref 1), (0, .ref 0)]) (st2 := [.int 6, .int (Int32.ofNat L), .int i]) (h2 := h) rfl rfl rfl ?_
  refine sh_w (i := .isub) (len := 1) (pc2 := 30) (lv2 := [(4, .int i), (3, .ref 125), (2, .ref 67), (1, .ref 1), (0, .ref 0)]) (st2 := [.int ((Int32.ofNat L) - 6), .int i]) (h2 := h) rfl rfl rfl ?_
  refine sh_jc (c := .gt) (off := (493)) (pc2 := 33) false rfl (sh_Bgtf hI.1) rfl ?_
  refine sh_w (i := (.aload_n 0)) (len := 1) (pc2 := 34) (lv2 := [(4, .int i), (3, .ref 125), (2, .ref 67), (1, .ref 1), (0, .ref 0)]) (st2 := [.ref 0]) (h2 := h) rfl rfl rfl ?_
  refine sh_w (i := (.iload 4)) (len := 2) (pc2 := 36) (lv2 := [(4, .int i), (3, .ref 125), (2, .ref 67), (1, .ref 1), (0, .ref 0)]) (st2 := [.int i, .ref 0]) (h2 := h) rfl rfl rfl ?_
  refine sh_sc1 (pc2 := 37) rfl hsc hI.2.1.1 hI.2.1.2 rfl ?_
  refine sh_w (i := (.bipush 15)) (len := 2) (pc2 := 39) (lv2 := [(4, .int i), (3, .ref 125), (2, .ref 67), (1, .ref 1), (0, .ref 0)]) (st2 := [.int 15, .int (xs (Int32.toNatClampNeg i))]) (h2 := h) rfl rfl rfl ?_
  refine sh_w (i := .iand) (len := 1) (pc2 := 40) (lv2 := [(4, .int i), (3, .ref 125), (2, .ref 67), (1, .ref 1), (0, .ref 0)]) (st2 := [.int 11]) (h2 := h) rfl rfl (congrArg (fun z => some (40, [(4, Value.int i), (3, Value.ref 125), (2, Value.ref 67), (1, Value.ref 1), (0, Value.ref 0)], [Value.int z], h, 0, 0)) hc) ?_
  refine sh_w (i := (.tableswitch 477 0 10 #[60, 133, 158, 171, 184, 197, 222, 290, 362, 409, 422])) (len := 60) (pc2 := 517) (lv2 := [(4, .int i), (3, .ref 125), (2, .ref 67), (1, .ref 1), (0, .ref 0)]) (st2 := []) (h2 := h) rfl rfl rfl ?_
  refine sh_w (i := (.iinc 4 6)) (len := 3) (pc2 := 520) (lv2 := [(4, .int (i + 6)), (3, .ref 125), (2, .ref 67), (1, .ref 1), (0, .ref 0)]) (st2 := []) (h2 := h) rfl rfl rfl ?_
  refine sh_w (i := (.goto (-497))) (len := 3) (pc2 := 23) (lv2 := [(4, .int (i + 6)), (3, .ref 125), (2, .ref 67), (1, .ref 1), (0, .ref 0)]) (st2 := []) (h2 := h) rfl rfl rfl ?_
  exact kk
theorem sh_law12 (hsc : sc.1 = some (L, xs)) (hI : sh_Ix i L) (hc : xs (Int32.toNatClampNeg i) &&& 15 = 12) (kk : sh_To sh_G0 sc 0 23 [(4, .int (i + 6)), (3, .ref 125), (2, .ref 67), (1, .ref 1), (0, .ref 0)] [] h o h3 v) : sh_To sh_G0 sc 0 23 [(4, .int i), (3, .ref 125), (2, .ref 67), (1, .ref 1), (0, .ref 0)] [] h o h3 v := by
  refine sh_w (i := (.iload 4)) (len := 2) (pc2 := 25) (lv2 := [(4, .int i), (3, .ref 125), (2, .ref 67), (1, .ref 1), (0, .ref 0)]) (st2 := [.int i]) (h2 := h) rfl rfl rfl ?_
  refine sh_w (i := (.aload_n 0)) (len := 1) (pc2 := 26) (lv2 := [(4, .int i), (3, .ref 125), (2, .ref 67), (1, .ref 1), (0, .ref 0)]) (st2 := [.ref 0, .int i]) (h2 := h) rfl rfl rfl ?_
  refine sh_sl1 (pc2 := 27) rfl hsc rfl ?_
  refine sh_w (i := (.bipush 6)) (len := 2) (pc2 := 29) (lv2 := [(4, .int i), (3, .ref 125), (2, .ref 67), (1, .ref 1), (0, .ref 0)]) (st2 := [.int 6, .int (Int32.ofNat L), .int i]) (h2 := h) rfl rfl rfl ?_
  refine sh_w (i := .isub) (len := 1) (pc2 := 30) (lv2 := [(4, .int i), (3, .ref 125), (2, .ref 67), (1, .ref 1), (0, .ref 0)]) (st2 := [.int ((Int32.ofNat L) - 6), .int i]) (h2 := h) rfl rfl rfl ?_
  refine sh_jc (c := .gt) (off := (493)) (pc2 := 33) false rfl (sh_Bgtf hI.1) rfl ?_
  refine sh_w (i := (.aload_n 0)) (len := 1) (pc2 := 34) (lv2 := [(4, .int i), (3, .ref 125), (2, .ref 67), (1, .ref 1), (0, .ref 0)]) (st2 := [.ref 0]) (h2 := h) rfl rfl rfl ?_
  refine sh_w (i := (.iload 4)) (len := 2) (pc2 := 36) (lv2 := [(4, .int i), (3, .ref 125), (2, .ref 67), (1, .ref 1), (0, .ref 0)]) (st2 := [.int i, .ref 0]) (h2 := h) rfl rfl rfl ?_
  refine sh_sc1 (pc2 := 37) rfl hsc hI.2.1.1 hI.2.1.2 rfl ?_
  refine sh_w (i := (.bipush 15)) (len := 2) (pc2 := 39) (lv2 := [(4, .int i), (3, .ref 125), (2, .ref 67), (1, .ref 1), (0, .ref 0)]) (st2 := [.int 15, .int (xs (Int32.toNatClampNeg i))]) (h2 := h) rfl rfl rfl ?_
  refine sh_w (i := .iand) (len := 1) (pc2 := 40) (lv2 := [(4, .int i), (3, .ref 125), (2, .ref 67), (1, .ref 1), (0, .ref 0)]) (st2 := [.int 12]) (h2 := h) rfl rfl (congrArg (fun z => some (40, [(4, Value.int i), (3, Value.ref 125), (2, Value.ref 67), (1, Value.ref 1), (0, Value.ref 0)], [Value.int z], h, 0, 0)) hc) ?_
  refine sh_w (i := (.tableswitch 477 0 10 #[60, 133, 158, 171, 184, 197, 222, 290, 362, 409, 422])) (len := 60) (pc2 := 517) (lv2 := [(4, .int i), (3, .ref 125), (2, .ref 67), (1, .ref 1), (0, .ref 0)]) (st2 := []) (h2 := h) rfl rfl rfl ?_
  refine sh_w (i := (.iinc 4 6)) (len := 3) (pc2 := 520) (lv2 := [(4, .int (i + 6)), (3, .ref 125), (2, .ref 67), (1, .ref 1), (0, .ref 0)]) (st2 := []) (h2 := h) rfl rfl rfl ?_
  refine sh_w (i := (.goto (-497))) (len := 3) (pc2 := 23) (lv2 := [(4, .int (i + 6)), (3, .ref 125), (2, .ref 67), (1, .ref 1), (0, .ref 0)]) (st2 := []) (h2 := h) rfl rfl rfl ?_
  exact kk
theorem sh_law13 (hsc : sc.1 = some (L, xs)) (hI : sh_Ix i L) (hc : xs (Int32.toNatClampNeg i) &&& 15 = 13) (kk : sh_To sh_G0 sc 0 23 [(4, .int (i + 6)), (3, .ref 125), (2, .ref 67), (1, .ref 1), (0, .ref 0)] [] h o h3 v) : sh_To sh_G0 sc 0 23 [(4, .int i), (3, .ref 125), (2, .ref 67), (1, .ref 1), (0, .ref 0)] [] h o h3 v := by
  refine sh_w (i := (.iload 4)) (len := 2) (pc2 := 25) (lv2 := [(4, .int i), (3, .ref 125), (2, .ref 67), (1, .ref 1), (0, .ref 0)]) (st2 := [.int i]) (h2 := h) rfl rfl rfl ?_
  refine sh_w (i := (.aload_n 0)) (len := 1) (pc2 := 26) (lv2 := [(4, .int i), (3, .ref 125), (2, .ref 67), (1, .ref 1), (0, .ref 0)]) (st2 := [.ref 0, .int i]) (h2 := h) rfl rfl rfl ?_
  refine sh_sl1 (pc2 := 27) rfl hsc rfl ?_
  refine sh_w (i := (.bipush 6)) (len := 2) (pc2 := 29) (lv2 := [(4, .int i), (3, .ref 125), (2, .ref 67), (1, .ref 1), (0, .ref 0)]) (st2 := [.int 6, .int (Int32.ofNat L), .int i]) (h2 := h) rfl rfl rfl ?_
  refine sh_w (i := .isub) (len := 1) (pc2 := 30) (lv2 := [(4, .int i), (3, .ref 125), (2, .ref 67), (1, .ref 1), (0, .ref 0)]) (st2 := [.int ((Int32.ofNat L) - 6), .int i]) (h2 := h) rfl rfl rfl ?_
  refine sh_jc (c := .gt) (off := (493)) (pc2 := 33) false rfl (sh_Bgtf hI.1) rfl ?_
  refine sh_w (i := (.aload_n 0)) (len := 1) (pc2 := 34) (lv2 := [(4, .int i), (3, .ref 125), (2, .ref 67), (1, .ref 1), (0, .ref 0)]) (st2 := [.ref 0]) (h2 := h) rfl rfl rfl ?_
  refine sh_w (i := (.iload 4)) (len := 2) (pc2 := 36) (lv2 := [(4, .int i), (3, .ref 125), (2, .ref 67), (1, .ref 1), (0, .ref 0)]) (st2 := [.int i, .ref 0]) (h2 := h) rfl rfl rfl ?_
  refine sh_sc1 (pc2 := 37) rfl hsc hI.2.1.1 hI.2.1.2 rfl ?_
  refine sh_w (i := (.bipush 15)) (len := 2) (pc2 := 39) (lv2 := [(4, .int i), (3, .ref 125), (2, .ref 67), (1, .ref 1), (0, .ref 0)]) (st2 := [.int 15, .int (xs (Int32.toNatClampNeg i))]) (h2 := h) rfl rfl rfl ?_
  refine sh_w (i := .iand) (len := 1) (pc2 := 40) (lv2 := [(4, .int i), (3, .ref 125), (2, .ref 67), (1, .ref 1), (0, .ref 0)]) (st2 := [.int 13]) (h2 := h) rfl rfl (congrArg (fun z => some (40, [(4, Value.int i), (3, Value.ref 125), (2, Value.ref 67), (1, Value.ref 1), (0, Value.ref 0)], [Value.int z], h, 0, 0)) hc) ?_
  refine sh_w (i := (.tableswitch 477 0 10 #[60, 133, 158, 171, 184, 197, 222, 290, 362, 409, 422])) (len := 60) (pc2 := 517) (lv2 := [(4, .int i), (3, .ref 125), (2, .ref 67), (1, .ref 1), (0, .ref 0)]) (st2 := []) (h2 := h) rfl rfl rfl ?_
  refine sh_w (i := (.iinc 4 6)) (len := 3) (pc2 := 520) (lv2 := [(4, .int (i + 6)), (3, .ref 125), (2, .ref 67), (1, .ref 1), (0, .ref 0)]) (st2 := []) (h2 := h) rfl rfl rfl ?_
  refine sh_w (i := (.goto (-497))) (len := 3) (pc2 := 23) (lv2 := [(4, .int (i + 6)), (3, .ref 125), (2, .ref 67), (1, .ref 1), (0, .ref 0)]) (st2 := []) (h2 := h) rfl rfl rfl ?_
  exact kk
theorem sh_law14 (hsc : sc.1 = some (L, xs)) (hI : sh_Ix i L) (hc : xs (Int32.toNatClampNeg i) &&& 15 = 14) (kk : sh_To sh_G0 sc 0 23 [(4, .int (i + 6)), (3, .ref 125), (2, .ref 67), (1, .ref 1), (0, .ref 0)] [] h o h3 v) : sh_To sh_G0 sc 0 23 [(4, .int i), (3, .ref 125), (2, .ref 67), (1, .ref 1), (0, .ref 0)] [] h o h3 v := by
  refine sh_w (i := (.iload 4)) (len := 2) (pc2 := 25) (lv2 := [(4, .int i), (3, .ref 125), (2, .ref 67), (1, .ref 1), (0, .ref 0)]) (st2 := [.int i]) (h2 := h) rfl rfl rfl ?_
  refine sh_w (i := (.aload_n 0)) (len := 1) (pc2 := 26) (lv2 := [(4, .int i), (3, .ref 125), (2, .ref 67), (1, .ref 1), (0, .ref 0)]) (st2 := [.ref 0, .int i]) (h2 := h) rfl rfl rfl ?_
  refine sh_sl1 (pc2 := 27) rfl hsc rfl ?_
  refine sh_w (i := (.bipush 6)) (len := 2) (pc2 := 29) (lv2 := [(4, .int i), (3, .ref 125), (2, .ref 67), (1, .ref 1), (0, .ref 0)]) (st2 := [.int 6, .int (Int32.ofNat L), .int i]) (h2 := h) rfl rfl rfl ?_
  refine sh_w (i := .isub) (len := 1) (pc2 := 30) (lv2 := [(4, .int i), (3, .ref 125), (2, .ref 67), (1, .ref 1), (0, .ref 0)]) (st2 := [.int ((Int32.ofNat L) - 6), .int i]) (h2 := h) rfl rfl rfl ?_
  refine sh_jc (c := .gt) (off := (493)) (pc2 := 33) false rfl (sh_Bgtf hI.1) rfl ?_
  refine sh_w (i := (.aload_n 0)) (len := 1) (pc2 := 34) (lv2 := [(4, .int i), (3, .ref 125), (2, .ref 67), (1, .ref 1), (0, .ref 0)]) (st2 := [.ref 0]) (h2 := h) rfl rfl rfl ?_
  refine sh_w (i := (.iload 4)) (len := 2) (pc2 := 36) (lv2 := [(4, .int i), (3, .ref 125), (2, .ref 67), (1, .ref 1), (0, .ref 0)]) (st2 := [.int i, .ref 0]) (h2 := h) rfl rfl rfl ?_
  refine sh_sc1 (pc2 := 37) rfl hsc hI.2.1.1 hI.2.1.2 rfl ?_
  refine sh_w (i := (.bipush 15)) (len := 2) (pc2 := 39) (lv2 := [(4, .int i), (3, .ref 125), (2, .ref 67), (1, .ref 1), (0, .ref 0)]) (st2 := [.int 15, .int (xs (Int32.toNatClampNeg i))]) (h2 := h) rfl rfl rfl ?_
  refine sh_w (i := .iand) (len := 1) (pc2 := 40) (lv2 := [(4, .int i), (3, .ref 125), (2, .ref 67), (1, .ref 1), (0, .ref 0)]) (st2 := [.int 14]) (h2 := h) rfl rfl (congrArg (fun z => some (40, [(4, Value.int i), (3, Value.ref 125), (2, Value.ref 67), (1, Value.ref 1), (0, Value.ref 0)], [Value.int z], h, 0, 0)) hc) ?_
  refine sh_w (i := (.tableswitch 477 0 10 #[60, 133, 158, 171, 184, 197, 222, 290, 362, 409, 422])) (len := 60) (pc2 := 517) (lv2 := [(4, .int i), (3, .ref 125), (2, .ref 67), (1, .ref 1), (0, .ref 0)]) (st2 := []) (h2 := h) rfl rfl rfl ?_
  refine sh_w (i := (.iinc 4 6)) (len := 3) (pc2 := 520) (lv2 := [(4, .int (i + 6)), (3, .ref 125), (2, .ref 67), (1, .ref 1), (0, .ref 0)]) (st2 := []) (h2 := h) rfl rfl rfl ?_
  refine sh_w (i := (.goto (-497))) (len := 3) (pc2 := 23) (lv2 := [(4, .int (i + 6)), (3, .ref 125), (2, .ref 67), (1, .ref 1), (0, .ref 0)]) (st2 := []) (h2 := h) rfl rfl rfl ?_
  exact kk
theorem sh_law15 (hsc : sc.1 = some (L, xs)) (hI : sh_Ix i L) (hc : xs (Int32.toNatClampNeg i) &&& 15 = 15) (kk : sh_To sh_G0 sc 0 23 [(4, .int (i + 6)), (3, .ref 125), (2, .ref 67), (1, .ref 1), (0, .ref 0)] [] h o h3 v) : sh_To sh_G0 sc 0 23 [(4, .int i), (3, .ref 125), (2, .ref 67), (1, .ref 1), (0, .ref 0)] [] h o h3 v := by
  refine sh_w (i := (.iload 4)) (len := 2) (pc2 := 25) (lv2 := [(4, .int i), (3, .ref 125), (2, .ref 67), (1, .ref 1), (0, .ref 0)]) (st2 := [.int i]) (h2 := h) rfl rfl rfl ?_
  refine sh_w (i := (.aload_n 0)) (len := 1) (pc2 := 26) (lv2 := [(4, .int i), (3, .ref 125), (2, .ref 67), (1, .ref 1), (0, .ref 0)]) (st2 := [.ref 0, .int i]) (h2 := h) rfl rfl rfl ?_
  refine sh_sl1 (pc2 := 27) rfl hsc rfl ?_
  refine sh_w (i := (.bipush 6)) (len := 2) (pc2 := 29) (lv2 := [(4, .int i), (3, .ref 125), (2, .ref 67), (1, .ref 1), (0, .ref 0)]) (st2 := [.int 6, .int (Int32.ofNat L), .int i]) (h2 := h) rfl rfl rfl ?_
  refine sh_w (i := .isub) (len := 1) (pc2 := 30) (lv2 := [(4, .int i), (3, .ref 125), (2, .ref 67), (1, .ref 1), (0, .ref 0)]) (st2 := [.int ((Int32.ofNat L) - 6), .int i]) (h2 := h) rfl rfl rfl ?_
  refine sh_jc (c := .gt) (off := (493)) (pc2 := 33) false rfl (sh_Bgtf hI.1) rfl ?_
  refine sh_w (i := (.aload_n 0)) (len := 1) (pc2 := 34) (lv2 := [(4, .int i), (3, .ref 125), (2, .ref 67), (1, .ref 1), (0, .ref 0)]) (st2 := [.ref 0]) (h2 := h) rfl rfl rfl ?_
  refine sh_w (i := (.iload 4)) (len := 2) (pc2 := 36) (lv2 := [(4, .int i), (3, .ref 125), (2, .ref 67), (1, .ref 1), (0, .ref 0)]) (st2 := [.int i, .ref 0]) (h2 := h) rfl rfl rfl ?_
  refine sh_sc1 (pc2 := 37) rfl hsc hI.2.1.1 hI.2.1.2 rfl ?_
  refine sh_w (i := (.bipush 15)) (len := 2) (pc2 := 39) (lv2 := [(4, .int i), (3, .ref 125), (2, .ref 67), (1, .ref 1), (0, .ref 0)]) (st2 := [.int 15, .int (xs (Int32.toNatClampNeg i))]) (h2 := h) rfl rfl rfl ?_
  refine sh_w (i := .iand) (len := 1) (pc2 := 40) (lv2 := [(4, .int i), (3, .ref 125), (2, .ref 67), (1, .ref 1), (0, .ref 0)]) (st2 := [.int 15]) (h2 := h) rfl rfl (congrArg (fun z => some (40, [(4, Value.int i), (3, Value.ref 125), (2, Value.ref 67), (1, Value.ref 1), (0, Value.ref 0)], [Value.int z], h, 0, 0)) hc) ?_
  refine sh_w (i := (.tableswitch 477 0 10 #[60, 133, 158, 171, 184, 197, 222, 290, 362, 409, 422])) (len := 60) (pc2 := 517) (lv2 := [(4, .int i), (3, .ref 125), (2, .ref 67), (1, .ref 1), (0, .ref 0)]) (st2 := []) (h2 := h) rfl rfl rfl ?_
  refine sh_w (i := (.iinc 4 6)) (len := 3) (pc2 := 520) (lv2 := [(4, .int (i + 6)), (3, .ref 125), (2, .ref 67), (1, .ref 1), (0, .ref 0)]) (st2 := []) (h2 := h) rfl rfl rfl ?_
  refine sh_w (i := (.goto (-497))) (len := 3) (pc2 := 23) (lv2 := [(4, .int (i + 6)), (3, .ref 125), (2, .ref 67), (1, .ref 1), (0, .ref 0)]) (st2 := []) (h2 := h) rfl rfl rfl ?_
  exact kk
theorem sh_16 (x : Int32) : ∃ n : Nat, n < 16 ∧ x &&& 15 = Int32.ofNat n := by
  refine ⟨x.toBitVec.toNat % 16, Nat.mod_lt _ (by decide), ?_⟩
  apply Int32.toBitVec_inj.mp
  apply BitVec.eq_of_toNat_eq
  have h1 : (x &&& 15).toBitVec.toNat = x.toBitVec.toNat % 16 := by
    show (x.toBitVec &&& 15#32).toNat = _
    rw [BitVec.toNat_and]
    exact Nat.and_two_pow_sub_one_eq_mod x.toBitVec.toNat 4
  rw [h1]
  show _ = (BitVec.ofNat 32 (x.toBitVec.toNat % 16)).toNat
  rw [BitVec.toNat_ofNat]
  exact (Nat.mod_eq_of_lt (Nat.lt_trans (Nat.mod_lt _ (by decide)) (by decide))).symm
end Law
