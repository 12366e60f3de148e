/-! FILLS, tags that change, throws over the memory; printed by gen23.py -/
section Fill
variable {sc : sh_S} {T : List sh_Tg} {I : Nat → Nat → Int32} {J : Nat → Nat → Int64}
theorem sh_ofN {j : Nat} (h : j < 2147483648) : (Int32.ofNat j).toInt = (j : Int) := Int32.toInt_ofNat_of_lt h
theorem sh_ofNn {j : Nat} (h : j < 2147483648) : (Int32.ofNat j).toNatClampNeg = j := by rw [sh_tnn, sh_ofN h]; rfl
theorem sh_ofNneg {j : Nat} (h : j < 2147483648) : ¬ Int32.ofNat j < 0 := sh_nlt (by rw [sh_z0, sh_ofN h]; omega)
theorem sh_ofNlt {j n : Nat} (h : j < n) (hn : n < 2147483648) : Int32.ofNat j < Int32.ofNat n := sh_ylt (by rw [sh_ofN hn, sh_ofN (by omega)]; omega)
theorem sh_ofNnlt {j n : Nat} (h : n ≤ j) (hj : j < 2147483648) : ¬ Int32.ofNat j < Int32.ofNat n := sh_nlt (by rw [sh_ofN hj, sh_ofN (by omega)]; omega)
theorem sh_inc {j : Nat} (h : j < 2147483647) : Int32.ofNat j + 1 = Int32.ofNat (j + 1) := by
  apply Int32.toInt_inj.mp
  rw [sh_iadd (by rw [sh_ofN (by omega), sh_one1]; omega) (by rw [sh_ofN (by omega), sh_one1]; omega), sh_ofN (by omega), sh_ofN (by omega), sh_one1]
  omega
def sh_fl {α : Type} (I : Nat → Nat → α) (a j : Nat) (x : α) : Nat → Nat → α := fun b i => if b = a then (if i < j then x else I b i) else I b i
theorem sh_fl0 {α : Type} {I : Nat → Nat → α} {a : Nat} {x : α} : sh_fl I a 0 x = I := by
  funext b i
  unfold sh_fl
  split <;> simp
theorem sh_fl1 {α : Type} {I : Nat → Nat → α} {a j : Nat} {x : α} : sh_u2 (sh_fl I a j x) a j x = sh_fl I a (j + 1) x := by
  funext b i
  unfold sh_u2 sh_fl
  by_cases h : b = a
  · simp only [h, if_true]
    by_cases h2 : i = j
    · subst h2; simp
    · rw [if_neg h2]
      by_cases h3 : i < j
      · rw [if_pos h3, if_pos (by omega)]
      · rw [if_neg h3, if_neg (by omega)]
  · simp [h]
theorem sh_fl_cell {α : Type} {I : Nat → Nat → α} {a j b : Nat} {x : α} (h : b ≠ a) : sh_fl I a j x b = I b := by funext i; unfold sh_fl; rw [if_neg h]
theorem sh_c184b {a n j : Nat} {x : Int32} {o : Outcome} {h3 : sh_H} {v : sh_U} (hn : n < 2147483648) (hj : j < n) (ha : T[a]? = some (.inl (0, n))) (kk : sh_To sh_G0 sc 184 5 [(2, .int (Int32.ofNat (j + 1))), (3, .int (Int32.ofNat n)), (0, .ref (a + 1)), (1, .int x)] [] (sh_rep T (sh_u2 I a j x) J) o h3 v) : sh_To sh_G0 sc 184 5 [(2, .int (Int32.ofNat j)), (3, .int (Int32.ofNat n)), (0, .ref (a + 1)), (1, .int x)] [] (sh_rep T I J) o h3 v := by
  have h1 := sh_ofNlt hj hn
  have h2 := sh_ofNneg (j := j) (by omega)
  have h3 : (Int32.ofNat j).toNatClampNeg < n := by rw [sh_ofNn (by omega)]; exact hj
  refine sh_w (i := (.iload_n 2)) (len := 1) (pc2 := 6) (lv2 := [(2, .int (Int32.ofNat j)), (3, .int (Int32.ofNat n)), (0, .ref (a + 1)), (1, .int x)]) (st2 := [.int (Int32.ofNat j)]) (h2 := (sh_rep T I J)) rfl rfl rfl ?_
  refine sh_w (i := (.iload_n 3)) (len := 1) (pc2 := 7) (lv2 := [(2, .int (Int32.ofNat j)), (3, .int (Int32.ofNat n)), (0, .ref (a + 1)), (1, .int x)]) (st2 := [.int (Int32.ofNat n), .int (Int32.ofNat j)]) (h2 := (sh_rep T I J)) rfl rfl rfl ?_
  refine sh_jc (c := .ge) (off := (13)) (pc2 := 10) false rfl (sh_Bgef h1) rfl ?_
  refine sh_w (i := (.aload_n 0)) (len := 1) (pc2 := 11) (lv2 := [(2, .int (Int32.ofNat j)), (3, .int (Int32.ofNat n)), (0, .ref (a + 1)), (1, .int x)]) (st2 := [.ref (a + 1)]) (h2 := (sh_rep T I J)) rfl rfl rfl ?_
  refine sh_w (i := (.iload_n 2)) (len := 1) (pc2 := 12) (lv2 := [(2, .int (Int32.ofNat j)), (3, .int (Int32.ofNat n)), (0, .ref (a + 1)), (1, .int x)]) (st2 := [.int (Int32.ofNat j), .ref (a + 1)]) (h2 := (sh_rep T I J)) rfl rfl rfl ?_
  refine sh_w (i := (.iload_n 1)) (len := 1) (pc2 := 13) (lv2 := [(2, .int (Int32.ofNat j)), (3, .int (Int32.ofNat n)), (0, .ref (a + 1)), (1, .int x)]) (st2 := [.int x, .int (Int32.ofNat j), .ref (a + 1)]) (h2 := (sh_rep T I J)) rfl rfl rfl ?_
  refine sh_is1 (x := x) (i := Int32.ofNat j) (pc2 := 14) rfl ha h2 h3 rfl ?_
  refine sh_w (i := (.iinc 2 1)) (len := 3) (pc2 := 17) (lv2 := [(2, .int ((Int32.ofNat j) + 1)), (3, .int (Int32.ofNat n)), (0, .ref (a + 1)), (1, .int x)]) (st2 := []) (h2 := (sh_rep T (sh_u2 I a (Int32.toNatClampNeg (Int32.ofNat j)) x) J)) rfl rfl rfl ?_
  rw [sh_inc (by omega), sh_ofNn (by omega)]
  refine sh_w (i := (.goto (-12))) (len := 3) (pc2 := 5) (lv2 := [(2, .int (Int32.ofNat (j + 1))), (3, .int (Int32.ofNat n)), (0, .ref (a + 1)), (1, .int x)]) (st2 := []) (h2 := (sh_rep T (sh_u2 I a j x) J)) rfl rfl rfl ?_
  exact kk
theorem sh_c184l {a n : Nat} {x : Int32} {v : sh_U} (hv : sh_le (0, 0, 8, 200) v) (hn : n < 2147483648) (ha : T[a]? = some (.inl (0, n))) : ∀ (d j : Nat), j + d = n → sh_To sh_G0 sc 184 5 [(2, .int (Int32.ofNat j)), (3, .int (Int32.ofNat n)), (0, .ref (a + 1)), (1, .int x)] [] (sh_rep T (sh_fl I a j x) J) (.returned none) (sh_rep T (sh_fl I a n x) J) v := by
  intro d
  induction d with
  | zero =>
    intro j hj
    have hj : j = n := hj
    subst hj
    have h1 := sh_ofNnlt (j := j) (n := j) (Nat.le_refl _) hn
    refine sh_w (i := (.iload_n 2)) (len := 1) (pc2 := 6) (lv2 := [(2, .int (Int32.ofNat j)), (3, .int (Int32.ofNat j)), (0, .ref (a + 1)), (1, .int x)]) (st2 := [.int (Int32.ofNat j)]) (h2 := (sh_rep T (sh_fl I a j x) J)) rfl rfl rfl ?_
    refine sh_w (i := (.iload_n 3)) (len := 1) (pc2 := 7) (lv2 := [(2, .int (Int32.ofNat j)), (3, .int (Int32.ofNat j)), (0, .ref (a + 1)), (1, .int x)]) (st2 := [.int (Int32.ofNat j), .int (Int32.ofNat j)]) (h2 := (sh_rep T (sh_fl I a j x) J)) rfl rfl rfl ?_
    refine sh_jc (c := .ge) (off := (13)) (pc2 := 20) true rfl (sh_Bget h1) rfl ?_
    exact sh_To_le hv (sh_wret (i := .return_) (len := 1) (r := none) rfl rfl rfl)
  | succ d ih =>
    intro j hj
    refine sh_c184b hn (by omega) ha ?_
    rw [sh_fl1]
    exact ih (j + 1) (by omega)
theorem sh_c184 {a n : Nat} {x : Int32} (hn : n < 2147483647) (ha : T[a]? = some (.inl (0, n))) : sh_To sh_G0 sc 184 0 [(0, .ref (a + 1)), (1, .int x)] [] (sh_rep T I J) (.returned none) (sh_rep T (sh_fl I a n x) J) (0, 0, 10, 300) := by
  refine sh_w (i := (.iconst 0)) (len := 1) (pc2 := 1) (lv2 := [(0, .ref (a + 1)), (1, .int x)]) (st2 := [.int 0]) (h2 := (sh_rep T I J)) rfl rfl rfl ?_
  refine sh_w (i := (.istore_n 2)) (len := 1) (pc2 := 2) (lv2 := [(2, .int 0), (0, .ref (a + 1)), (1, .int x)]) (st2 := []) (h2 := (sh_rep T I J)) rfl rfl rfl ?_
  refine sh_w (i := (.aload_n 0)) (len := 1) (pc2 := 3) (lv2 := [(2, .int 0), (0, .ref (a + 1)), (1, .int x)]) (st2 := [.ref (a + 1)]) (h2 := (sh_rep T I J)) rfl rfl rfl ?_
  refine sh_al1 (pc2 := 4) rfl ha (by decide) rfl ?_
  refine sh_w (i := (.istore_n 3)) (len := 1) (pc2 := 5) (lv2 := [(3, .int (Int32.ofNat n)), (2, .int 0), (0, .ref (a + 1)), (1, .int x)]) (st2 := []) (h2 := (sh_rep T I J)) rfl rfl rfl ?_
  by_cases h0 : n = 0
  · subst h0
    rw [sh_fl0]
    refine sh_w (i := (.iload_n 2)) (len := 1) (pc2 := 6) (lv2 := [(3, .int (Int32.ofNat 0)), (2, .int 0), (0, .ref (a + 1)), (1, .int x)]) (st2 := [.int 0]) (h2 := (sh_rep T I J)) rfl rfl rfl ?_
    refine sh_w (i := (.iload_n 3)) (len := 1) (pc2 := 7) (lv2 := [(3, .int (Int32.ofNat 0)), (2, .int 0), (0, .ref (a + 1)), (1, .int x)]) (st2 := [.int (Int32.ofNat 0), .int 0]) (h2 := (sh_rep T I J)) rfl rfl rfl ?_
    refine sh_jc (c := .ge) (off := (13)) (pc2 := 20) true rfl rfl rfl ?_
    exact sh_To_le (sh_uB_le rfl) (sh_wret (i := .return_) (len := 1) (r := none) rfl rfl rfl)
  · have h1 : (0 : Int32) < Int32.ofNat n := sh_ylt (by rw [sh_z0, sh_ofN (by omega)]; omega)
    have h2 : ¬ (0 : Int32) < 0 := by decide
    have h3 : (0 : Int32).toNatClampNeg < n := by show 0 < n; omega
    refine sh_w (i := (.iload_n 2)) (len := 1) (pc2 := 6) (lv2 := [(3, .int (Int32.ofNat n)), (2, .int 0), (0, .ref (a + 1)), (1, .int x)]) (st2 := [.int 0]) (h2 := (sh_rep T I J)) rfl rfl rfl ?_
    refine sh_w (i := (.iload_n 3)) (len := 1) (pc2 := 7) (lv2 := [(3, .int (Int32.ofNat n)), (2, .int 0), (0, .ref (a + 1)), (1, .int x)]) (st2 := [.int (Int32.ofNat n), .int 0]) (h2 := (sh_rep T I J)) rfl rfl rfl ?_
    refine sh_jc (c := .ge) (off := (13)) (pc2 := 10) false rfl (sh_Bgef h1) rfl ?_
    refine sh_w (i := (.aload_n 0)) (len := 1) (pc2 := 11) (lv2 := [(3, .int (Int32.ofNat n)), (2, .int 0), (0, .ref (a + 1)), (1, .int x)]) (st2 := [.ref (a + 1)]) (h2 := (sh_rep T I J)) rfl rfl rfl ?_
    refine sh_w (i := (.iload_n 2)) (len := 1) (pc2 := 12) (lv2 := [(3, .int (Int32.ofNat n)), (2, .int 0), (0, .ref (a + 1)), (1, .int x)]) (st2 := [.int 0, .ref (a + 1)]) (h2 := (sh_rep T I J)) rfl rfl rfl ?_
    refine sh_w (i := (.iload_n 1)) (len := 1) (pc2 := 13) (lv2 := [(3, .int (Int32.ofNat n)), (2, .int 0), (0, .ref (a + 1)), (1, .int x)]) (st2 := [.int x, .int 0, .ref (a + 1)]) (h2 := (sh_rep T I J)) rfl rfl rfl ?_
    refine sh_is1 (x := x) (i := 0) (pc2 := 14) rfl ha h2 h3 rfl ?_
    refine sh_w (i := (.iinc 2 1)) (len := 3) (pc2 := 17) (lv2 := [(2, .int 1), (3, .int (Int32.ofNat n)), (0, .ref (a + 1)), (1, .int x)]) (st2 := []) (h2 := (sh_rep T (sh_u2 I a (Int32.toNatClampNeg 0) x) J)) rfl rfl rfl ?_
    refine sh_w (i := (.goto (-12))) (len := 3) (pc2 := 5) (lv2 := [(2, .int 1), (3, .int (Int32.ofNat n)), (0, .ref (a + 1)), (1, .int x)]) (st2 := []) (h2 := (sh_rep T (sh_u2 I a (Int32.toNatClampNeg 0) x) J)) rfl rfl rfl ?_
    have e1 : sh_u2 I a (Int32.toNatClampNeg 0) x = sh_fl I a 1 x := by rw [← sh_fl1, sh_fl0]; rfl
    rw [e1]
    exact sh_c184l (sh_uB_le rfl) (by omega) ha (n - 1) 1 (by omega)
/-- start of the reference: the loop over given (cell 103) -/
theorem sh_c247b {j : Nat} {o : Outcome} {h3 : sh_H} {v : sh_U} (hT : sh_St T) (hj : j < 512) (kk : sh_To sh_G0 sc 247 45 [(1, .int (Int32.ofNat (j + 1))), (0, .ref 67)] [] (sh_rep T I (sh_u2 J 103 j 0)) o h3 v) : sh_To sh_G0 sc 247 45 [(1, .int (Int32.ofNat j)), (0, .ref 67)] [] (sh_rep T I J) o h3 v := by
  have h1 : Int32.ofNat j < 512 := sh_ofNlt (n := 512) hj (by decide)
  have h2 := sh_ofNneg (j := j) (by omega)
  have h3 : (Int32.ofNat j).toNatClampNeg < 512 := by rw [sh_ofNn (by omega)]; exact hj
  refine sh_w (i := (.iload_n 1)) (len := 1) (pc2 := 46) (lv2 := [(1, .int (Int32.ofNat j)), (0, .ref 67)]) (st2 := [.int (Int32.ofNat j)]) (h2 := (sh_rep T I J)) rfl rfl rfl ?_
  refine sh_w (i := (.sipush 512)) (len := 3) (pc2 := 49) (lv2 := [(1, .int (Int32.ofNat j)), (0, .ref 67)]) (st2 := [.int 512, .int (Int32.ofNat j)]) (h2 := (sh_rep T I J)) rfl rfl rfl ?_
  refine sh_jc (c := .ge) (off := (16)) (pc2 := 52) false rfl (sh_Bgef h1) rfl ?_
  refine sh_w (i := (.aload_n 0)) (len := 1) (pc2 := 53) (lv2 := [(1, .int (Int32.ofNat j)), (0, .ref 67)]) (st2 := [.ref 67]) (h2 := (sh_rep T I J)) rfl rfl rfl ?_
  refine sh_gR1 (len := 3) (x := .ref 104) (pc2 := 56) rfl rfl (sh_s66 hT) rfl rfl ?_
  refine sh_w (i := (.iload_n 1)) (len := 1) (pc2 := 57) (lv2 := [(1, .int (Int32.ofNat j)), (0, .ref 67)]) (st2 := [.int (Int32.ofNat j), .ref 104]) (h2 := (sh_rep T I J)) rfl rfl rfl ?_
  refine sh_w (i := (.lconst 0)) (len := 1) (pc2 := 58) (lv2 := [(1, .int (Int32.ofNat j)), (0, .ref 67)]) (st2 := [.long 0, .int (Int32.ofNat j), .ref 104]) (h2 := (sh_rep T I J)) rfl rfl rfl ?_
  refine sh_ls1 (x := 0) (i := Int32.ofNat j) (pc2 := 59) rfl (sh_s103 hT) h2 h3 rfl ?_
  refine sh_w (i := (.iinc 1 1)) (len := 3) (pc2 := 62) (lv2 := [(1, .int ((Int32.ofNat j) + 1)), (0, .ref 67)]) (st2 := []) (h2 := (sh_rep T I (sh_u2 J 103 (Int32.toNatClampNeg (Int32.ofNat j)) 0))) rfl rfl rfl ?_
  rw [sh_inc (by omega), sh_ofNn (by omega)]
  refine sh_w (i := (.goto (-17))) (len := 3) (pc2 := 45) (lv2 := [(1, .int (Int32.ofNat (j + 1))), (0, .ref 67)]) (st2 := []) (h2 := (sh_rep T I (sh_u2 J 103 j 0))) rfl rfl rfl ?_
  exact kk
theorem sh_c247l {v : sh_U} (hv : sh_le (0, 0, 8, 200) v) (hT : sh_St T) : ∀ (d j : Nat), j + d = 512 → sh_To sh_G0 sc 247 45 [(1, .int (Int32.ofNat j)), (0, .ref 67)] [] (sh_rep T I (sh_fl J 103 j 0)) (.returned none) (sh_rep T I (sh_fl J 103 512 0)) v := by
  intro d
  induction d with
  | zero =>
    intro j hj
    have hj : j = 512 := hj
    subst hj
    have h1 : ¬ Int32.ofNat 512 < 512 := by decide
    refine sh_w (i := (.iload_n 1)) (len := 1) (pc2 := 46) (lv2 := [(1, .int (Int32.ofNat 512)), (0, .ref 67)]) (st2 := [.int (Int32.ofNat 512)]) (h2 := (sh_rep T I (sh_fl J 103 512 0))) rfl rfl rfl ?_
    refine sh_w (i := (.sipush 512)) (len := 3) (pc2 := 49) (lv2 := [(1, .int (Int32.ofNat 512)), (0, .ref 67)]) (st2 := [.int 512, .int (Int32.ofNat 512)]) (h2 := (sh_rep T I (sh_fl J 103 512 0))) rfl rfl rfl ?_
    refine sh_jc (c := .ge) (off := (16)) (pc2 := 65) true rfl (sh_Bget h1) rfl ?_
    exact sh_To_le hv (sh_wret (i := .return_) (len := 1) (r := none) rfl rfl rfl)
  | succ d ih =>
    intro j hj
    refine sh_c247b hT (by omega) ?_
    rw [sh_fl1]
    exact ih (j + 1) (by omega)
def sh_stI (I : Nat → Nat → Int32) : Nat → Nat → Int32 := sh_u2 (sh_u2 (sh_u2 (sh_u2 (sh_u2 (sh_u2 (sh_u2 I 66 80 ((I 66 80) + 1)) 66 3 (I 66 2)) 66 2 0) 66 5 0) 66 4 0) 66 6 0) 66 7 (-1)
theorem sh_c247 (hT : sh_St T) : sh_To sh_G0 sc 247 0 [(0, .ref 67)] [] (sh_rep T I J) (.returned none) (sh_rep T (sh_stI I) (sh_fl J 103 512 0)) (0, 0, 10, 300) := by
  refine sh_w (i := (.aload_n 0)) (len := 1) (pc2 := 1) (lv2 := [(0, .ref 67)]) (st2 := [.ref 67]) (h2 := (sh_rep T I J)) rfl rfl rfl ?_
  refine sh_w (i := .dup) (len := 1) (pc2 := 2) (lv2 := [(0, .ref 67)]) (st2 := [.ref 67, .ref 67]) (h2 := (sh_rep T I J)) rfl rfl rfl ?_
  refine sh_gI1 (len := 3) (x := I 66 80) (pc2 := 5) rfl rfl (sh_s66 hT) rfl rfl rfl ?_
  refine sh_w (i := (.iconst 1)) (len := 1) (pc2 := 6) (lv2 := [(0, .ref 67)]) (st2 := [.int 1, .int (I 66 80), .ref 67]) (h2 := (sh_rep T I J)) rfl rfl rfl ?_
  refine sh_w (i := .iadd) (len := 1) (pc2 := 7) (lv2 := [(0, .ref 67)]) (st2 := [.int ((I 66 80) + 1), .ref 67]) (h2 := (sh_rep T I J)) rfl rfl rfl ?_
  refine sh_pI1 (x := (I 66 80) + 1) (pc2 := 10) rfl rfl (sh_s66 hT) rfl rfl rfl rfl ?_
  refine sh_w (i := (.aload_n 0)) (len := 1) (pc2 := 11) (lv2 := [(0, .ref 67)]) (st2 := [.ref 67]) (h2 := (sh_rep T (sh_u2 I 66 80 ((I 66 80) + 1)) J)) rfl rfl rfl ?_
  refine sh_w (i := (.aload_n 0)) (len := 1) (pc2 := 12) (lv2 := [(0, .ref 67)]) (st2 := [.ref 67, .ref 67]) (h2 := (sh_rep T (sh_u2 I 66 80 ((I 66 80) + 1)) J)) rfl rfl rfl ?_
  refine sh_gI1 (len := 3) (x := I 66 2) (pc2 := 15) rfl rfl (sh_s66 hT) rfl rfl rfl ?_
  refine sh_pI1 (x := I 66 2) (pc2 := 18) rfl rfl (sh_s66 hT) rfl rfl rfl rfl ?_
  refine sh_w (i := (.aload_n 0)) (len := 1) (pc2 := 19) (lv2 := [(0, .ref 67)]) (st2 := [.ref 67]) (h2 := (sh_rep T (sh_u2 (sh_u2 I 66 80 ((I 66 80) + 1)) 66 3 (I 66 2)) J)) rfl rfl rfl ?_
  refine sh_w (i := (.iconst 0)) (len := 1) (pc2 := 20) (lv2 := [(0, .ref 67)]) (st2 := [.int 0, .ref 67]) (h2 := (sh_rep T (sh_u2 (sh_u2 I 66 80 ((I 66 80) + 1)) 66 3 (I 66 2)) J)) rfl rfl rfl ?_
  refine sh_pI1 (x := 0) (pc2 := 23) rfl rfl (sh_s66 hT) rfl rfl rfl rfl ?_
  refine sh_w (i := (.aload_n 0)) (len := 1) (pc2 := 24) (lv2 := [(0, .ref 67)]) (st2 := [.ref 67]) (h2 := (sh_rep T (sh_u2 (sh_u2 (sh_u2 I 66 80 ((I 66 80) + 1)) 66 3 (I 66 2)) 66 2 0) J)) rfl rfl rfl ?_
  refine sh_w (i := (.iconst 0)) (len := 1) (pc2 := 25) (lv2 := [(0, .ref 67)]) (st2 := [.int 0, .ref 67]) (h2 := (sh_rep T (sh_u2 (sh_u2 (sh_u2 I 66 80 ((I 66 80) + 1)) 66 3 (I 66 2)) 66 2 0) J)) rfl rfl rfl ?_
  refine sh_pI1 (x := 0) (pc2 := 28) rfl rfl (sh_s66 hT) rfl rfl rfl rfl ?_
  refine sh_w (i := (.aload_n 0)) (len := 1) (pc2 := 29) (lv2 := [(0, .ref 67)]) (st2 := [.ref 67]) (h2 := (sh_rep T (sh_u2 (sh_u2 (sh_u2 (sh_u2 I 66 80 ((I 66 80) + 1)) 66 3 (I 66 2)) 66 2 0) 66 5 0) J)) rfl rfl rfl ?_
  refine sh_w (i := (.iconst 0)) (len := 1) (pc2 := 30) (lv2 := [(0, .ref 67)]) (st2 := [.int 0, .ref 67]) (h2 := (sh_rep T (sh_u2 (sh_u2 (sh_u2 (sh_u2 I 66 80 ((I 66 80) + 1)) 66 3 (I 66 2)) 66 2 0) 66 5 0) J)) rfl rfl rfl ?_
  refine sh_pI1 (x := 0) (pc2 := 33) rfl rfl (sh_s66 hT) rfl rfl rfl rfl ?_
  refine sh_w (i := (.aload_n 0)) (len := 1) (pc2 := 34) (lv2 := [(0, .ref 67)]) (st2 := [.ref 67]) (h2 := (sh_rep T (sh_u2 (sh_u2 (sh_u2 (sh_u2 (sh_u2 I 66 80 ((I 66 80) + 1)) 66 3 (I 66 2)) 66 2 0) 66 5 0) 66 4 0) J)) rfl rfl rfl ?_
  refine sh_w (i := (.iconst 0)) (len := 1) (pc2 := 35) (lv2 := [(0, .ref 67)]) (st2 := [.int 0, .ref 67]) (h2 := (sh_rep T (sh_u2 (sh_u2 (sh_u2 (sh_u2 (sh_u2 I 66 80 ((I 66 80) + 1)) 66 3 (I 66 2)) 66 2 0) 66 5 0) 66 4 0) J)) rfl rfl rfl ?_
  refine sh_pI1 (x := 0) (pc2 := 38) rfl rfl (sh_s66 hT) rfl rfl rfl rfl ?_
  refine sh_w (i := (.aload_n 0)) (len := 1) (pc2 := 39) (lv2 := [(0, .ref 67)]) (st2 := [.ref 67]) (h2 := (sh_rep T (sh_u2 (sh_u2 (sh_u2 (sh_u2 (sh_u2 (sh_u2 I 66 80 ((I 66 80) + 1)) 66 3 (I 66 2)) 66 2 0) 66 5 0) 66 4 0) 66 6 0) J)) rfl rfl rfl ?_
  refine sh_w (i := (.iconst (-1))) (len := 1) (pc2 := 40) (lv2 := [(0, .ref 67)]) (st2 := [.int (-1), .ref 67]) (h2 := (sh_rep T (sh_u2 (sh_u2 (sh_u2 (sh_u2 (sh_u2 (sh_u2 I 66 80 ((I 66 80) + 1)) 66 3 (I 66 2)) 66 2 0) 66 5 0) 66 4 0) 66 6 0) J)) rfl rfl rfl ?_
  refine sh_pI1 (x := (-1)) (pc2 := 43) rfl rfl (sh_s66 hT) rfl rfl rfl rfl ?_
  refine sh_w (i := (.iconst 0)) (len := 1) (pc2 := 44) (lv2 := [(0, .ref 67)]) (st2 := [.int 0]) (h2 := (sh_rep T (sh_u2 (sh_u2 (sh_u2 (sh_u2 (sh_u2 (sh_u2 (sh_u2 I 66 80 ((I 66 80) + 1)) 66 3 (I 66 2)) 66 2 0) 66 5 0) 66 4 0) 66 6 0) 66 7 (-1)) J)) rfl rfl rfl ?_
  refine sh_w (i := (.istore_n 1)) (len := 1) (pc2 := 45) (lv2 := [(1, .int 0), (0, .ref 67)]) (st2 := []) (h2 := (sh_rep T (sh_u2 (sh_u2 (sh_u2 (sh_u2 (sh_u2 (sh_u2 (sh_u2 I 66 80 ((I 66 80) + 1)) 66 3 (I 66 2)) 66 2 0) 66 5 0) 66 4 0) 66 6 0) 66 7 (-1)) J)) rfl rfl rfl ?_
  have h := sh_c247l (sc := sc) (T := T) (I := sh_stI I) (J := J) (v := (0, 0, 10, 300)) (sh_uB_le rfl) hT 512 0 (by omega)
  rw [sh_fl0] at h
  exact h
/-- tags where one is set or cells are added -/
theorem sh_St.set {a : Nat} {t : sh_Tg} (h : sh_St T) (ha : a = 2 ∨ a = 9 ∨ a = 58 ∨ a = 61) : sh_St (T.set a t) := by
  intro b t2 hb
  have hne : a ≠ b := by
    intro e
    subst e
    unfold sh_ST at hb
    rw [if_pos ha] at hb
    cases hb
  rw [List.getElem?_set_ne hne]
  exact h b t2 hb
theorem sh_St.app {l : List sh_Tg} (h : sh_St T) : sh_St (T ++ l) := by
  intro b t2 hb
  have h1 := h b t2 hb
  rw [List.getElem?_append_left (List.getElem?_eq_some_iff.mp h1).1]
  exact h1
theorem sh_tapp {b : Nat} {t : sh_Tg} {l : List sh_Tg} (h : T[b]? = some t) : (T ++ l)[b]? = some t := by
  rw [List.getElem?_append_left (List.getElem?_eq_some_iff.mp h).1]
  exact h
theorem sh_tne {a b : Nat} {t t2 : sh_Tg} (hne : a ≠ b) (h : T[b]? = some t) : (T.set a t2)[b]? = some t := by rw [List.getElem?_set_ne hne]; exact h
theorem sh_tself {a : Nat} {t t2 : sh_Tg} (h : T[a]? = some t) : (T.set a t2)[a]? = some t2 := List.getElem?_set_self (List.getElem?_eq_some_iff.mp h).1
/-- 'throw new E()' over the memory, not caught here -/
theorem sh_thr {k pc : Nat} {lv : sh_Ls} {st : List Value} {idx ci a b len : Nat} (hi : sh_gI sh_G0 k pc = some (.new idx, len)) (hl : len = sh_len (.new idx) len) (htn : sh_tn sh_G0 k (.new idx) pc = some (ci, a, b)) (hL : T.length < 1000000) (hw : sh_wgt st ≤ 100) (hf : (sh_Hd sh_G0 k).find? (sh_cov (pc + 7)) = none) :
    sh_To sh_G0 sc k pc lv st (sh_rep T I J) (.threw (T.length + 1)) (sh_rep (T ++ [.inr (ci, [])]) I J) (1, 6, 8, 200) := by
  have h := sh_wthr (sc := sc) (lv := lv) (st := st) (h := sh_rep T I J) hi hl htn (by rw [sh_rep_len]; exact hL) hw hf
  rw [sh_rep_len] at h
  have e : sh_rep T I J ++ [.inr (ci, [])] = sh_rep (T ++ [.inr (ci, [])]) I J := sh_rep_push (T := T) (I := I) (J := J) (.inr (ci, []))
  rw [e] at h
  exact h
theorem sh_find2 {k pc ci hpc : Nat} {q : Nat × Nat × Nat × Nat} (hf : (sh_Hd sh_G0 k).find? (sh_cov pc) = some q) (hg : sh_gH sh_G0 (sh_On sh_G0 k) q.2.2.2 = some ci) (hp : q.2.2.1 = hpc) : sh_find sh_G0 k pc (T.length + 1) (sh_rep (T ++ [.inr (ci, [])]) I J) = some (some hpc) := by
  have e : sh_rep T I J ++ [.inr (ci, [])] = sh_rep (T ++ [.inr (ci, [])]) I J := sh_rep_push (T := T) (I := I) (J := J) (.inr (ci, []))
  rw [← e, ← sh_rep_len (T := T) (I := I) (J := J)]
  exact sh_find1 hf hg rfl hp
theorem sh_find3 {k pc x : Nat} {h : sh_H} (hf : (sh_Hd sh_G0 k).find? (sh_cov pc) = none) : sh_find sh_G0 k pc x h = some none := by
  unfold sh_find
  rw [hf]
end Fill
