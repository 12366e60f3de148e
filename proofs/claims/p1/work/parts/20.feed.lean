/-! FEED, printed by gen20.py -/
section Feed
variable {sc : sh_S} {T : List sh_Tg} {I : Nat → Nat → Int32} {J : Nat → Nat → Int64}
theorem sh_iadd {x y : Int32} (h1 : -2147483648 ≤ x.toInt + y.toInt) (h2 : x.toInt + y.toInt < 2147483648) : (x + y).toInt = x.toInt + y.toInt := by
  rw [Int32.toInt_add]
  exact Int.bmod_eq_of_le (by omega) (by omega)
theorem sh_isub {x y : Int32} (h1 : -2147483648 ≤ x.toInt - y.toInt) (h2 : x.toInt - y.toInt < 2147483648) : (x - y).toInt = x.toInt - y.toInt := by
  rw [Int32.toInt_sub]
  exact Int.bmod_eq_of_le (by omega) (by omega)
theorem sh_nlt {x y : Int32} (h : y.toInt ≤ x.toInt) : ¬ x < y := fun h2 => by
  have := Int32.lt_iff_toInt_lt.mp h2
  omega
theorem sh_ylt {x y : Int32} (h : x.toInt < y.toInt) : x < y := Int32.lt_iff_toInt_lt.mpr h
theorem sh_tnn {x : Int32} : x.toNatClampNeg = x.toInt.toNat := rfl
/-- a byte comes behind the tape -/
def sh_ap1 (I : Nat → Nat → Int32) (o t f : Nat) (b : Int32) : Nat → Nat → Int32 := sh_u2 (sh_u2 I t (I o f).toNatClampNeg b) o f (I o f + 1)
theorem sh_ap1_len {I : Nat → Nat → Int32} {o t f : Nat} {b : Int32} : sh_ap1 I o t f b o f = I o f + 1 := sh_u2_same
theorem sh_one1 : (1 : Int32).toInt = 1 := by decide
theorem sh_ap1_toInt {I : Nat → Nat → Int32} {o t f : Nat} {b : Int32} (h0 : 0 ≤ (I o f).toInt) (h1 : (I o f).toInt < 4000) : (sh_ap1 I o t f b o f).toInt = (I o f).toInt + 1 := by
  rw [sh_ap1_len, sh_iadd (by rw [sh_one1]; omega) (by rw [sh_one1]; omega), sh_one1]
theorem sh_z0 : (0 : Int32).toInt = 0 := by decide
theorem sh_z4000 : (4000 : Int32).toInt = 4000 := by decide
theorem sh_inx {x : Int32} {n : Nat} (h0 : 0 ≤ x.toInt) (h1 : x.toInt < (n : Int)) : x.toNatClampNeg < n := by rw [sh_tnn]; omega
def sh_by24 (x : Int32) : Int32 := vp_nar .byte (Int32.toInt8 (Int32.toUInt32 x >>> (Int32.toUInt32 24 &&& Int32.toUInt32 31)).toInt32).toInt32
theorem sh_c14_24 {x : Int32} {o : Outcome} {h3 : sh_H} {v : sh_U} (hT : sh_St T) (g0 : 0 ≤ (I 0 10).toInt) (g1 : (I 0 10).toInt < 4000) (kk : sh_To sh_G0 sc 14 3 [(2, .int 16), (0, .ref 1), (1, .int x)] [] (sh_rep T (sh_ap1 I 0 1 10 (sh_by24 x)) J) o h3 v) : sh_To sh_G0 sc 14 3 [(2, .int 24), (0, .ref 1), (1, .int x)] [] (sh_rep T I J) o h3 v := by
  have h0 : ¬ I 0 10 < 0 := sh_nlt (by rw [sh_z0]; exact g0)
  have hlt : I 0 10 < 4000 := sh_ylt (by rw [sh_z4000]; exact g1)
  have hn : (I 0 10).toNatClampNeg < 4000 := sh_inx g0 g1
  refine sh_w (i := (.iload_n 2)) (len := 1) (pc2 := 4) (lv2 := [(2, .int 24), (0, .ref 1), (1, .int x)]) (st2 := [.int 24]) (h2 := (sh_rep T I J)) rfl rfl rfl ?_
  refine sh_j0 (c := .lt) (off := (42)) (pc2 := 7) false rfl rfl rfl ?_
  refine sh_w (i := (.aload_n 0)) (len := 1) (pc2 := 8) (lv2 := [(2, .int 24), (0, .ref 1), (1, .int x)]) (st2 := [.ref 1]) (h2 := (sh_rep T I J)) rfl rfl rfl ?_
  refine sh_gI1 (len := 3) (x := I 0 10) (pc2 := 11) rfl rfl (sh_s0 hT) rfl rfl rfl ?_
  refine sh_w (i := (.sipush 4000)) (len := 3) (pc2 := 14) (lv2 := [(2, .int 24), (0, .ref 1), (1, .int x)]) (st2 := [.int 4000, .int (I 0 10)]) (h2 := (sh_rep T I J)) rfl rfl rfl ?_
  refine sh_jc (c := .ge) (off := (32)) (pc2 := 17) false rfl (sh_Bgef hlt) rfl ?_
  refine sh_w (i := (.aload_n 0)) (len := 1) (pc2 := 18) (lv2 := [(2, .int 24), (0, .ref 1), (1, .int x)]) (st2 := [.ref 1]) (h2 := (sh_rep T I J)) rfl rfl rfl ?_
  refine sh_gR1 (len := 3) (x := .ref 2) (pc2 := 21) rfl rfl (sh_s0 hT) rfl rfl ?_
  refine sh_w (i := (.aload_n 0)) (len := 1) (pc2 := 22) (lv2 := [(2, .int 24), (0, .ref 1), (1, .int x)]) (st2 := [.ref 1, .ref 2]) (h2 := (sh_rep T I J)) rfl rfl rfl ?_
  refine sh_gI1 (len := 3) (x := I 0 10) (pc2 := 25) rfl rfl (sh_s0 hT) rfl rfl rfl ?_
  refine sh_w (i := (.iload_n 1)) (len := 1) (pc2 := 26) (lv2 := [(2, .int 24), (0, .ref 1), (1, .int x)]) (st2 := [.int x, .int (I 0 10), .ref 2]) (h2 := (sh_rep T I J)) rfl rfl rfl ?_
  refine sh_w (i := (.iload_n 2)) (len := 1) (pc2 := 27) (lv2 := [(2, .int 24), (0, .ref 1), (1, .int x)]) (st2 := [.int 24, .int x, .int (I 0 10), .ref 2]) (h2 := (sh_rep T I J)) rfl rfl rfl ?_
  refine sh_w (i := .iushr) (len := 1) (pc2 := 28) (lv2 := [(2, .int 24), (0, .ref 1), (1, .int x)]) (st2 := [.int ((x.toUInt32 >>> (Int32.toUInt32 24 &&& Int32.toUInt32 31)).toInt32), .int (I 0 10), .ref 2]) (h2 := (sh_rep T I J)) rfl rfl rfl ?_
  refine sh_w (i := .i2b) (len := 1) (pc2 := 29) (lv2 := [(2, .int 24), (0, .ref 1), (1, .int x)]) (st2 := [.int ((Int32.toInt8 ((x.toUInt32 >>> (Int32.toUInt32 24 &&& Int32.toUInt32 31)).toInt32)).toInt32), .int (I 0 10), .ref 2]) (h2 := (sh_rep T I J)) rfl rfl rfl ?_
  refine sh_bs1 (x := (Int32.toInt8 ((x.toUInt32 >>> (Int32.toUInt32 24 &&& Int32.toUInt32 31)).toInt32)).toInt32) (y := sh_by24 x) (i := I 0 10) (pc2 := 30) rfl (sh_s1 hT) h0 hn rfl rfl ?_
  refine sh_w (i := (.aload_n 0)) (len := 1) (pc2 := 31) (lv2 := [(2, .int 24), (0, .ref 1), (1, .int x)]) (st2 := [.ref 1]) (h2 := (sh_rep T (sh_u2 I 1 (Int32.toNatClampNeg (I 0 10)) (sh_by24 x)) J)) rfl rfl rfl ?_
  refine sh_w (i := .dup) (len := 1) (pc2 := 32) (lv2 := [(2, .int 24), (0, .ref 1), (1, .int x)]) (st2 := [.ref 1, .ref 1]) (h2 := (sh_rep T (sh_u2 I 1 (Int32.toNatClampNeg (I 0 10)) (sh_by24 x)) J)) rfl rfl rfl ?_
  refine sh_gI1 (len := 3) (x := I 0 10) (pc2 := 35) rfl rfl (sh_s0 hT) rfl rfl rfl ?_
  refine sh_w (i := (.iconst 1)) (len := 1) (pc2 := 36) (lv2 := [(2, .int 24), (0, .ref 1), (1, .int x)]) (st2 := [.int 1, .int (I 0 10), .ref 1]) (h2 := (sh_rep T (sh_u2 I 1 (Int32.toNatClampNeg (I 0 10)) (sh_by24 x)) J)) rfl rfl rfl ?_
  refine sh_w (i := .iadd) (len := 1) (pc2 := 37) (lv2 := [(2, .int 24), (0, .ref 1), (1, .int x)]) (st2 := [.int ((I 0 10) + 1), .ref 1]) (h2 := (sh_rep T (sh_u2 I 1 (Int32.toNatClampNeg (I 0 10)) (sh_by24 x)) J)) rfl rfl rfl ?_
  refine sh_pI1 (x := (I 0 10) + 1) (pc2 := 40) rfl rfl (sh_s0 hT) rfl rfl rfl rfl ?_
  refine sh_w (i := (.iinc 2 (-8))) (len := 3) (pc2 := 43) (lv2 := [(2, .int 16), (0, .ref 1), (1, .int x)]) (st2 := []) (h2 := (sh_rep T (sh_u2 (sh_u2 I 1 (Int32.toNatClampNeg (I 0 10)) (sh_by24 x)) 0 10 ((I 0 10) + 1)) J)) rfl rfl rfl ?_
  refine sh_w (i := (.goto (-40))) (len := 3) (pc2 := 3) (lv2 := [(2, .int 16), (0, .ref 1), (1, .int x)]) (st2 := []) (h2 := (sh_rep T (sh_u2 (sh_u2 I 1 (Int32.toNatClampNeg (I 0 10)) (sh_by24 x)) 0 10 ((I 0 10) + 1)) J)) rfl rfl rfl ?_
  exact kk
def sh_by16 (x : Int32) : Int32 := vp_nar .byte (Int32.toInt8 (Int32.toUInt32 x >>> (Int32.toUInt32 16 &&& Int32.toUInt32 31)).toInt32).toInt32
theorem sh_c14_16 {x : Int32} {o : Outcome} {h3 : sh_H} {v : sh_U} (hT : sh_St T) (g0 : 0 ≤ (I 0 10).toInt) (g1 : (I 0 10).toInt < 4000) (kk : sh_To sh_G0 sc 14 3 [(2, .int 8), (0, .ref 1), (1, .int x)] [] (sh_rep T (sh_ap1 I 0 1 10 (sh_by16 x)) J) o h3 v) : sh_To sh_G0 sc 14 3 [(2, .int 16), (0, .ref 1), (1, .int x)] [] (sh_rep T I J) o h3 v := by
  have h0 : ¬ I 0 10 < 0 := sh_nlt (by rw [sh_z0]; exact g0)
  have hlt : I 0 10 < 4000 := sh_ylt (by rw [sh_z4000]; exact g1)
  have hn : (I 0 10).toNatClampNeg < 4000 := sh_inx g0 g1
  refine sh_w (i := (.iload_n 2)) (len := 1) (pc2 := 4) (lv2 := [(2, .int 16), (0, .ref 1), (1, .int x)]) (st2 := [.int 16]) (h2 := (sh_rep T I J)) rfl rfl rfl ?_
  refine sh_j0 (c := .lt) (off := (42)) (pc2 := 7) false rfl rfl rfl ?_
  refine sh_w (i := (.aload_n 0)) (len := 1) (pc2 := 8) (lv2 := [(2, .int 16), (0, .ref 1), (1, .int x)]) (st2 := [.ref 1]) (h2 := (sh_rep T I J)) rfl rfl rfl ?_
  refine sh_gI1 (len := 3) (x := I 0 10) (pc2 := 11) rfl rfl (sh_s0 hT) rfl rfl rfl ?_
  refine sh_w (i := (.sipush 4000)) (len := 3) (pc2 := 14) (lv2 := [(2, .int 16), (0, .ref 1), (1, .int x)]) (st2 := [.int 4000, .int (I 0 10)]) (h2 := (sh_rep T I J)) rfl rfl rfl ?_
  refine sh_jc (c := .ge) (off := (32)) (pc2 := 17) false rfl (sh_Bgef hlt) rfl ?_
  refine sh_w (i := (.aload_n 0)) (len := 1) (pc2 := 18) (lv2 := [(2, .int 16), (0, .ref 1), (1, .int x)]) (st2 := [.ref 1]) (h2 := (sh_rep T I J)) rfl rfl rfl ?_
  refine sh_gR1 (len := 3) (x := .ref 2) (pc2 := 21) rfl rfl (sh_s0 hT) rfl rfl ?_
  refine sh_w (i := (.aload_n 0)) (len := 1) (pc2 := 22) (lv2 := [(2, .int 16), (0, .ref 1), (1, .int x)]) (st2 := [.ref 1, .ref 2]) (h2 := (sh_rep T I J)) rfl rfl rfl ?_
  refine sh_gI1 (len := 3) (x := I 0 10) (pc2 := 25) rfl rfl (sh_s0 hT) rfl rfl rfl ?_
  refine sh_w (i := (.iload_n 1)) (len := 1) (pc2 := 26) (lv2 := [(2, .int 16), (0, .ref 1), (1, .int x)]) (st2 := [.int x, .int (I 0 10), .ref 2]) (h2 := (sh_rep T I J)) rfl rfl rfl ?_
  refine sh_w (i := (.iload_n 2)) (len := 1) (pc2 := 27) (lv2 := [(2, .int 16), (0, .ref 1), (1, .int x)]) (st2 := [.int 16, .int x, .int (I 0 10), .ref 2]) (h2 := (sh_rep T I J)) rfl rfl rfl ?_
  refine sh_w (i := .iushr) (len := 1) (pc2 := 28) (lv2 := [(2, .int 16), (0, .ref 1), (1, .int x)]) (st2 := [.int ((x.toUInt32 >>> (Int32.toUInt32 16 &&& Int32.toUInt32 31)).toInt32), .int (I 0 10), .ref 2]) (h2 := (sh_rep T I J)) rfl rfl rfl ?_
  refine sh_w (i := .i2b) (len := 1) (pc2 := 29) (lv2 := [(2, .int 16), (0, .ref 1), (1, .int x)]) (st2 := [.int ((Int32.toInt8 ((x.toUInt32 >>> (Int32.toUInt32 16 &&& Int32.toUInt32 31)).toInt32)).toInt32), .int (I 0 10), .ref 2]) (h2 := (sh_rep T I J)) rfl rfl rfl ?_
  refine sh_bs1 (x := (Int32.toInt8 ((x.toUInt32 >>> (Int32.toUInt32 16 &&& Int32.toUInt32 31)).toInt32)).toInt32) (y := sh_by16 x) (i := I 0 10) (pc2 := 30) rfl (sh_s1 hT) h0 hn rfl rfl ?_
  refine sh_w (i := (.aload_n 0)) (len := 1) (pc2 := 31) (lv2 := [(2, .int 16), (0, .ref 1), (1, .int x)]) (st2 := [.ref 1]) (h2 := (sh_rep T (sh_u2 I 1 (Int32.toNatClampNeg (I 0 10)) (sh_by16 x)) J)) rfl rfl rfl ?_
  refine sh_w (i := .dup) (len := 1) (pc2 := 32) (lv2 := [(2, .int 16), (0, .ref 1), (1, .int x)]) (st2 := [.ref 1, .ref 1]) (h2 := (sh_rep T (sh_u2 I 1 (Int32.toNatClampNeg (I 0 10)) (sh_by16 x)) J)) rfl rfl rfl ?_
  refine sh_gI1 (len := 3) (x := I 0 10) (pc2 := 35) rfl rfl (sh_s0 hT) rfl rfl rfl ?_
  refine sh_w (i := (.iconst 1)) (len := 1) (pc2 := 36) (lv2 := [(2, .int 16), (0, .ref 1), (1, .int x)]) (st2 := [.int 1, .int (I 0 10), .ref 1]) (h2 := (sh_rep T (sh_u2 I 1 (Int32.toNatClampNeg (I 0 10)) (sh_by16 x)) J)) rfl rfl rfl ?_
  refine sh_w (i := .iadd) (len := 1) (pc2 := 37) (lv2 := [(2, .int 16), (0, .ref 1), (1, .int x)]) (st2 := [.int ((I 0 10) + 1), .ref 1]) (h2 := (sh_rep T (sh_u2 I 1 (Int32.toNatClampNeg (I 0 10)) (sh_by16 x)) J)) rfl rfl rfl ?_
  refine sh_pI1 (x := (I 0 10) + 1) (pc2 := 40) rfl rfl (sh_s0 hT) rfl rfl rfl rfl ?_
  refine sh_w (i := (.iinc 2 (-8))) (len := 3) (pc2 := 43) (lv2 := [(2, .int 8), (0, .ref 1), (1, .int x)]) (st2 := []) (h2 := (sh_rep T (sh_u2 (sh_u2 I 1 (Int32.toNatClampNeg (I 0 10)) (sh_by16 x)) 0 10 ((I 0 10) + 1)) J)) rfl rfl rfl ?_
  refine sh_w (i := (.goto (-40))) (len := 3) (pc2 := 3) (lv2 := [(2, .int 8), (0, .ref 1), (1, .int x)]) (st2 := []) (h2 := (sh_rep T (sh_u2 (sh_u2 I 1 (Int32.toNatClampNeg (I 0 10)) (sh_by16 x)) 0 10 ((I 0 10) + 1)) J)) rfl rfl rfl ?_
  exact kk
def sh_by8 (x : Int32) : Int32 := vp_nar .byte (Int32.toInt8 (Int32.toUInt32 x >>> (Int32.toUInt32 8 &&& Int32.toUInt32 31)).toInt32).toInt32
theorem sh_c14_8 {x : Int32} {o : Outcome} {h3 : sh_H} {v : sh_U} (hT : sh_St T) (g0 : 0 ≤ (I 0 10).toInt) (g1 : (I 0 10).toInt < 4000) (kk : sh_To sh_G0 sc 14 3 [(2, .int 0), (0, .ref 1), (1, .int x)] [] (sh_rep T (sh_ap1 I 0 1 10 (sh_by8 x)) J) o h3 v) : sh_To sh_G0 sc 14 3 [(2, .int 8), (0, .ref 1), (1, .int x)] [] (sh_rep T I J) o h3 v := by
  have h0 : ¬ I 0 10 < 0 := sh_nlt (by rw [sh_z0]; exact g0)
  have hlt : I 0 10 < 4000 := sh_ylt (by rw [sh_z4000]; exact g1)
  have hn : (I 0 10).toNatClampNeg < 4000 := sh_inx g0 g1
  refine sh_w (i := (.iload_n 2)) (len := 1) (pc2 := 4) (lv2 := [(2, .int 8), (0, .ref 1), (1, .int x)]) (st2 := [.int 8]) (h2 := (sh_rep T I J)) rfl rfl rfl ?_
  refine sh_j0 (c := .lt) (off := (42)) (pc2 := 7) false rfl rfl rfl ?_
  refine sh_w (i := (.aload_n 0)) (len := 1) (pc2 := 8) (lv2 := [(2, .int 8), (0, .ref 1), (1, .int x)]) (st2 := [.ref 1]) (h2 := (sh_rep T I J)) rfl rfl rfl ?_
  refine sh_gI1 (len := 3) (x := I 0 10) (pc2 := 11) rfl rfl (sh_s0 hT) rfl rfl rfl ?_
  refine sh_w (i := (.sipush 4000)) (len := 3) (pc2 := 14) (lv2 := [(2, .int 8), (0, .ref 1), (1, .int x)]) (st2 := [.int 4000, .int (I 0 10)]) (h2 := (sh_rep T I J)) rfl rfl rfl ?_
  refine sh_jc (c := .ge) (off := (32)) (pc2 := 17) false rfl (sh_Bgef hlt) rfl ?_
  refine sh_w (i := (.aload_n 0)) (len := 1) (pc2 := 18) (lv2 := [(2, .int 8), (0, .ref 1), (1, .int x)]) (st2 := [.ref 1]) (h2 := (sh_rep T I J)) rfl rfl rfl ?_
  refine sh_gR1 (len := 3) (x := .ref 2) (pc2 := 21) rfl rfl (sh_s0 hT) rfl rfl ?_
  refine sh_w (i := (.aload_n 0)) (len := 1) (pc2 := 22) (lv2 := [(2, .int 8), (0, .ref 1), (1, .int x)]) (st2 := [.ref 1, .ref 2]) (h2 := (sh_rep T I J)) rfl rfl rfl ?_
  refine sh_gI1 (len := 3) (x := I 0 10) (pc2 := 25) rfl rfl (sh_s0 hT) rfl rfl rfl ?_
  refine sh_w (i := (.iload_n 1)) (len := 1) (pc2 := 26) (lv2 := [(2, .int 8), (0, .ref 1), (1, .int x)]) (st2 := [.int x, .int (I 0 10), .ref 2]) (h2 := (sh_rep T I J)) rfl rfl rfl ?_
  refine sh_w (i := (.iload_n 2)) (len := 1) (pc2 := 27) (lv2 := [(2, .int 8), (0, .ref 1), (1, .int x)]) (st2 := [.int 8, .int x, .int (I 0 10), .ref 2]) (h2 := (sh_rep T I J)) rfl rfl rfl ?_
  refine sh_w (i := .iushr) (len := 1) (pc2 := 28) (lv2 := [(2, .int 8), (0, .ref 1), (1, .int x)]) (st2 := [.int ((x.toUInt32 >>> (Int32.toUInt32 8 &&& Int32.toUInt32 31)).toInt32), .int (I 0 10), .ref 2]) (h2 := (sh_rep T I J)) rfl rfl rfl ?_
  refine sh_w (i := .i2b) (len := 1) (pc2 := 29) (lv2 := [(2, .int 8), (0, .ref 1), (1, .int x)]) (st2 := [.int ((Int32.toInt8 ((x.toUInt32 >>> (Int32.toUInt32 8 &&& Int32.toUInt32 31)).toInt32)).toInt32), .int (I 0 10), .ref 2]) (h2 := (sh_rep T I J)) rfl rfl rfl ?_
  refine sh_bs1 (x := (Int32.toInt8 ((x.toUInt32 >>> (Int32.toUInt32 8 &&& Int32.toUInt32 31)).toInt32)).toInt32) (y := sh_by8 x) (i := I 0 10) (pc2 := 30) rfl (sh_s1 hT) h0 hn rfl rfl ?_
  refine sh_w (i := (.aload_n 0)) (len := 1) (pc2 := 31) (lv2 := [(2, .int 8), (0, .ref 1), (1, .int x)]) (st2 := [.ref 1]) (h2 := (sh_rep T (sh_u2 I 1 (Int32.toNatClampNeg (I 0 10)) (sh_by8 x)) J)) rfl rfl rfl ?_
  refine sh_w (i := .dup) (len := 1) (pc2 := 32) (lv2 := [(2, .int 8), (0, .ref 1), (1, .int x)]) (st2 := [.ref 1, .ref 1]) (h2 := (sh_rep T (sh_u2 I 1 (Int32.toNatClampNeg (I 0 10)) (sh_by8 x)) J)) rfl rfl rfl ?_
  refine sh_gI1 (len := 3) (x := I 0 10) (pc2 := 35) rfl rfl (sh_s0 hT) rfl rfl rfl ?_
  refine sh_w (i := (.iconst 1)) (len := 1) (pc2 := 36) (lv2 := [(2, .int 8), (0, .ref 1), (1, .int x)]) (st2 := [.int 1, .int (I 0 10), .ref 1]) (h2 := (sh_rep T (sh_u2 I 1 (Int32.toNatClampNeg (I 0 10)) (sh_by8 x)) J)) rfl rfl rfl ?_
  refine sh_w (i := .iadd) (len := 1) (pc2 := 37) (lv2 := [(2, .int 8), (0, .ref 1), (1, .int x)]) (st2 := [.int ((I 0 10) + 1), .ref 1]) (h2 := (sh_rep T (sh_u2 I 1 (Int32.toNatClampNeg (I 0 10)) (sh_by8 x)) J)) rfl rfl rfl ?_
  refine sh_pI1 (x := (I 0 10) + 1) (pc2 := 40) rfl rfl (sh_s0 hT) rfl rfl rfl rfl ?_
  refine sh_w (i := (.iinc 2 (-8))) (len := 3) (pc2 := 43) (lv2 := [(2, .int 0), (0, .ref 1), (1, .int x)]) (st2 := []) (h2 := (sh_rep T (sh_u2 (sh_u2 I 1 (Int32.toNatClampNeg (I 0 10)) (sh_by8 x)) 0 10 ((I 0 10) + 1)) J)) rfl rfl rfl ?_
  refine sh_w (i := (.goto (-40))) (len := 3) (pc2 := 3) (lv2 := [(2, .int 0), (0, .ref 1), (1, .int x)]) (st2 := []) (h2 := (sh_rep T (sh_u2 (sh_u2 I 1 (Int32.toNatClampNeg (I 0 10)) (sh_by8 x)) 0 10 ((I 0 10) + 1)) J)) rfl rfl rfl ?_
  exact kk
def sh_by0 (x : Int32) : Int32 := vp_nar .byte (Int32.toInt8 (Int32.toUInt32 x >>> (Int32.toUInt32 0 &&& Int32.toUInt32 31)).toInt32).toInt32
theorem sh_c14_0 {x : Int32} {o : Outcome} {h3 : sh_H} {v : sh_U} (hT : sh_St T) (g0 : 0 ≤ (I 0 10).toInt) (g1 : (I 0 10).toInt < 4000) (kk : sh_To sh_G0 sc 14 3 [(2, .int (-8)), (0, .ref 1), (1, .int x)] [] (sh_rep T (sh_ap1 I 0 1 10 (sh_by0 x)) J) o h3 v) : sh_To sh_G0 sc 14 3 [(2, .int 0), (0, .ref 1), (1, .int x)] [] (sh_rep T I J) o h3 v := by
  have h0 : ¬ I 0 10 < 0 := sh_nlt (by rw [sh_z0]; exact g0)
  have hlt : I 0 10 < 4000 := sh_ylt (by rw [sh_z4000]; exact g1)
  have hn : (I 0 10).toNatClampNeg < 4000 := sh_inx g0 g1
  refine sh_w (i := (.iload_n 2)) (len := 1) (pc2 := 4) (lv2 := [(2, .int 0), (0, .ref 1), (1, .int x)]) (st2 := [.int 0]) (h2 := (sh_rep T I J)) rfl rfl rfl ?_
  refine sh_j0 (c := .lt) (off := (42)) (pc2 := 7) false rfl rfl rfl ?_
  refine sh_w (i := (.aload_n 0)) (len := 1) (pc2 := 8) (lv2 := [(2, .int 0), (0, .ref 1), (1, .int x)]) (st2 := [.ref 1]) (h2 := (sh_rep T I J)) rfl rfl rfl ?_
  refine sh_gI1 (len := 3) (x := I 0 10) (pc2 := 11) rfl rfl (sh_s0 hT) rfl rfl rfl ?_
  refine sh_w (i := (.sipush 4000)) (len := 3) (pc2 := 14) (lv2 := [(2, .int 0), (0, .ref 1), (1, .int x)]) (st2 := [.int 4000, .int (I 0 10)]) (h2 := (sh_rep T I J)) rfl rfl rfl ?_
  refine sh_jc (c := .ge) (off := (32)) (pc2 := 17) false rfl (sh_Bgef hlt) rfl ?_
  refine sh_w (i := (.aload_n 0)) (len := 1) (pc2 := 18) (lv2 := [(2, .int 0), (0, .ref 1), (1, .int x)]) (st2 := [.ref 1]) (h2 := (sh_rep T I J)) rfl rfl rfl ?_
  refine sh_gR1 (len := 3) (x := .ref 2) (pc2 := 21) rfl rfl (sh_s0 hT) rfl rfl ?_
  refine sh_w (i := (.aload_n 0)) (len := 1) (pc2 := 22) (lv2 := [(2, .int 0), (0, .ref 1), (1, .int x)]) (st2 := [.ref 1, .ref 2]) (h2 := (sh_rep T I J)) rfl rfl rfl ?_
  refine sh_gI1 (len := 3) (x := I 0 10) (pc2 := 25) rfl rfl (sh_s0 hT) rfl rfl rfl ?_
  refine sh_w (i := (.iload_n 1)) (len := 1) (pc2 := 26) (lv2 := [(2, .int 0), (0, .ref 1), (1, .int x)]) (st2 := [.int x, .int (I 0 10), .ref 2]) (h2 := (sh_rep T I J)) rfl rfl rfl ?_
  refine sh_w (i := (.iload_n 2)) (len := 1) (pc2 := 27) (lv2 := [(2, .int 0), (0, .ref 1), (1, .int x)]) (st2 := [.int 0, .int x, .int (I 0 10), .ref 2]) (h2 := (sh_rep T I J)) rfl rfl rfl ?_
  refine sh_w (i := .iushr) (len := 1) (pc2 := 28) (lv2 := [(2, .int 0), (0, .ref 1), (1, .int x)]) (st2 := [.int ((x.toUInt32 >>> (Int32.toUInt32 0 &&& Int32.toUInt32 31)).toInt32), .int (I 0 10), .ref 2]) (h2 := (sh_rep T I J)) rfl rfl rfl ?_
  refine sh_w (i := .i2b) (len := 1) (pc2 := 29) (lv2 := [(2, .int 0), (0, .ref 1), (1, .int x)]) (st2 := [.int ((Int32.toInt8 ((x.toUInt32 >>> (Int32.toUInt32 0 &&& Int32.toUInt32 31)).toInt32)).toInt32), .int (I 0 10), .ref 2]) (h2 := (sh_rep T I J)) rfl rfl rfl ?_
  refine sh_bs1 (x := (Int32.toInt8 ((x.toUInt32 >>> (Int32.toUInt32 0 &&& Int32.toUInt32 31)).toInt32)).toInt32) (y := sh_by0 x) (i := I 0 10) (pc2 := 30) rfl (sh_s1 hT) h0 hn rfl rfl ?_
  refine sh_w (i := (.aload_n 0)) (len := 1) (pc2 := 31) (lv2 := [(2, .int 0), (0, .ref 1), (1, .int x)]) (st2 := [.ref 1]) (h2 := (sh_rep T (sh_u2 I 1 (Int32.toNatClampNeg (I 0 10)) (sh_by0 x)) J)) rfl rfl rfl ?_
  refine sh_w (i := .dup) (len := 1) (pc2 := 32) (lv2 := [(2, .int 0), (0, .ref 1), (1, .int x)]) (st2 := [.ref 1, .ref 1]) (h2 := (sh_rep T (sh_u2 I 1 (Int32.toNatClampNeg (I 0 10)) (sh_by0 x)) J)) rfl rfl rfl ?_
  refine sh_gI1 (len := 3) (x := I 0 10) (pc2 := 35) rfl rfl (sh_s0 hT) rfl rfl rfl ?_
  refine sh_w (i := (.iconst 1)) (len := 1) (pc2 := 36) (lv2 := [(2, .int 0), (0, .ref 1), (1, .int x)]) (st2 := [.int 1, .int (I 0 10), .ref 1]) (h2 := (sh_rep T (sh_u2 I 1 (Int32.toNatClampNeg (I 0 10)) (sh_by0 x)) J)) rfl rfl rfl ?_
  refine sh_w (i := .iadd) (len := 1) (pc2 := 37) (lv2 := [(2, .int 0), (0, .ref 1), (1, .int x)]) (st2 := [.int ((I 0 10) + 1), .ref 1]) (h2 := (sh_rep T (sh_u2 I 1 (Int32.toNatClampNeg (I 0 10)) (sh_by0 x)) J)) rfl rfl rfl ?_
  refine sh_pI1 (x := (I 0 10) + 1) (pc2 := 40) rfl rfl (sh_s0 hT) rfl rfl rfl rfl ?_
  refine sh_w (i := (.iinc 2 (-8))) (len := 3) (pc2 := 43) (lv2 := [(2, .int (-8)), (0, .ref 1), (1, .int x)]) (st2 := []) (h2 := (sh_rep T (sh_u2 (sh_u2 I 1 (Int32.toNatClampNeg (I 0 10)) (sh_by0 x)) 0 10 ((I 0 10) + 1)) J)) rfl rfl rfl ?_
  refine sh_w (i := (.goto (-40))) (len := 3) (pc2 := 3) (lv2 := [(2, .int (-8)), (0, .ref 1), (1, .int x)]) (st2 := []) (h2 := (sh_rep T (sh_u2 (sh_u2 I 1 (Int32.toNatClampNeg (I 0 10)) (sh_by0 x)) 0 10 ((I 0 10) + 1)) J)) rfl rfl rfl ?_
  exact kk
def sh_ap4 (I : Nat → Nat → Int32) (x : Int32) : Nat → Nat → Int32 := sh_ap1 (sh_ap1 (sh_ap1 (sh_ap1 I 0 1 10 (sh_by24 x)) 0 1 10 (sh_by16 x)) 0 1 10 (sh_by8 x)) 0 1 10 (sh_by0 x)
theorem sh_ap4_toInt {x : Int32} (g0 : 0 ≤ (I 0 10).toInt) (g1 : (I 0 10).toInt < 3997) : (sh_ap4 I x 0 10).toInt = (I 0 10).toInt + 4 := by
  have e1 := sh_ap1_toInt (o := 0) (t := 1) (f := 10) (b := sh_by24 x) g0 (by omega)
  have e2 := sh_ap1_toInt (I := sh_ap1 I 0 1 10 (sh_by24 x)) (o := 0) (t := 1) (f := 10) (b := sh_by16 x) (by omega) (by omega)
  have e3 := sh_ap1_toInt (I := sh_ap1 (sh_ap1 I 0 1 10 (sh_by24 x)) 0 1 10 (sh_by16 x)) (o := 0) (t := 1) (f := 10) (b := sh_by8 x) (by omega) (by omega)
  have e4 := sh_ap1_toInt (I := sh_ap1 (sh_ap1 (sh_ap1 I 0 1 10 (sh_by24 x)) 0 1 10 (sh_by16 x)) 0 1 10 (sh_by8 x)) (o := 0) (t := 1) (f := 10) (b := sh_by0 x) (by omega) (by omega)
  unfold sh_ap4
  omega
theorem sh_c14 {x : Int32} (hT : sh_St T) (g0 : 0 ≤ (I 0 10).toInt) (g1 : (I 0 10).toInt < 3997) : sh_To sh_G0 sc 14 0 [(0, .ref 1), (1, .int x)] [] (sh_rep T I J) (.returned none) (sh_rep T (sh_ap4 I x) J) (0, 0, 10, 300) := by
  have e1 := sh_ap1_toInt (o := 0) (t := 1) (f := 10) (b := sh_by24 x) g0 (by omega)
  have e2 := sh_ap1_toInt (I := sh_ap1 I 0 1 10 (sh_by24 x)) (o := 0) (t := 1) (f := 10) (b := sh_by16 x) (by omega) (by omega)
  have e3 := sh_ap1_toInt (I := sh_ap1 (sh_ap1 I 0 1 10 (sh_by24 x)) 0 1 10 (sh_by16 x)) (o := 0) (t := 1) (f := 10) (b := sh_by8 x) (by omega) (by omega)
  refine sh_w (i := (.bipush 24)) (len := 2) (pc2 := 2) (lv2 := [(0, .ref 1), (1, .int x)]) (st2 := [.int 24]) (h2 := (sh_rep T I J)) rfl rfl rfl ?_
  refine sh_w (i := (.istore_n 2)) (len := 1) (pc2 := 3) (lv2 := [(2, .int 24), (0, .ref 1), (1, .int x)]) (st2 := []) (h2 := (sh_rep T I J)) rfl rfl rfl ?_
  refine sh_c14_24 hT (by omega) (by omega) ?_
  refine sh_c14_16 hT (by omega) (by omega) ?_
  refine sh_c14_8 hT (by omega) (by omega) ?_
  refine sh_c14_0 hT (by omega) (by omega) ?_
  refine sh_w (i := (.iload_n 2)) (len := 1) (pc2 := 4) (lv2 := [(2, .int (-8)), (0, .ref 1), (1, .int x)]) (st2 := [.int (-8)]) (h2 := (sh_rep T (sh_ap4 I x) J)) rfl rfl rfl ?_
  refine sh_j0 (c := .lt) (off := (42)) (pc2 := 46) true rfl rfl rfl ?_
  exact sh_To_le (sh_uB_le rfl) (sh_wret (i := .return_) (len := 1) (r := none) rfl rfl rfl)
def sh_ap20 (I : Nat → Nat → Int32) (a b c d e : Int32) : Nat → Nat → Int32 := sh_ap4 (sh_ap4 (sh_ap4 (sh_ap4 (sh_ap4 I a) b) c) d) e
theorem sh_z3980 : (3980 : Int32).toInt = 3980 := by decide
theorem sh_c13 {a b c d e : Int32} (hT : sh_St T) (g0 : 0 ≤ (I 0 10).toInt) (g1 : (I 0 10).toInt ≤ 4000) : sh_To sh_G0 sc 13 0 [(0, .ref 1), (1, .int a), (2, .int b), (3, .int c), (4, .int d), (5, .int e)] [] (sh_rep T I J) (.returned (some (.int (if (3980 : Int32) < I 0 10 then 0 else 1)))) (sh_rep T (if (3980 : Int32) < I 0 10 then I else sh_ap20 I a b c d e) J) (0, 0, 20, 400) := by
  by_cases h1 : (3980 : Int32) < I 0 10
  · rw [if_pos h1, if_pos h1]
    refine sh_w (i := (.aload_n 0)) (len := 1) (pc2 := 1) (lv2 := [(0, .ref 1), (1, .int a), (2, .int b), (3, .int c), (4, .int d), (5, .int e)]) (st2 := [.ref 1]) (h2 := (sh_rep T I J)) rfl rfl rfl ?_
    refine sh_gI1 (len := 3) (x := I 0 10) (pc2 := 4) rfl rfl (sh_s0 hT) rfl rfl rfl ?_
    refine sh_w (i := (.sipush 3980)) (len := 3) (pc2 := 7) (lv2 := [(0, .ref 1), (1, .int a), (2, .int b), (3, .int c), (4, .int d), (5, .int e)]) (st2 := [.int 3980, .int (I 0 10)]) (h2 := (sh_rep T I J)) rfl rfl rfl ?_
    refine sh_jc (c := .le) (off := (5)) (pc2 := 10) false rfl (sh_Blef h1) rfl ?_
    refine sh_w (i := (.iconst 0)) (len := 1) (pc2 := 11) (lv2 := [(0, .ref 1), (1, .int a), (2, .int b), (3, .int c), (4, .int d), (5, .int e)]) (st2 := [.int 0]) (h2 := (sh_rep T I J)) rfl rfl rfl ?_
    exact sh_To_le (sh_uB_le rfl) (sh_wret (i := .ireturn) (len := 1) (r := some (.int 0)) rfl rfl rfl)
  · rw [if_neg h1, if_neg h1]
    have g2 : (I 0 10).toInt ≤ 3980 := by
      have := mt Int32.lt_iff_toInt_lt.mpr h1
      rw [sh_z3980] at this
      omega
    have e1 := sh_ap4_toInt (I := I) (x := a) g0 (by omega)
    have e2 := sh_ap4_toInt (I := sh_ap4 I a) (x := b) (by omega) (by omega)
    have e3 := sh_ap4_toInt (I := sh_ap4 (sh_ap4 I a) b) (x := c) (by omega) (by omega)
    have e4 := sh_ap4_toInt (I := sh_ap4 (sh_ap4 (sh_ap4 I a) b) c) (x := d) (by omega) (by omega)
    refine sh_w (i := (.aload_n 0)) (len := 1) (pc2 := 1) (lv2 := [(0, .ref 1), (1, .int a), (2, .int b), (3, .int c), (4, .int d), (5, .int e)]) (st2 := [.ref 1]) (h2 := (sh_rep T I J)) rfl rfl rfl ?_
    refine sh_gI1 (len := 3) (x := I 0 10) (pc2 := 4) rfl rfl (sh_s0 hT) rfl rfl rfl ?_
    refine sh_w (i := (.sipush 3980)) (len := 3) (pc2 := 7) (lv2 := [(0, .ref 1), (1, .int a), (2, .int b), (3, .int c), (4, .int d), (5, .int e)]) (st2 := [.int 3980, .int (I 0 10)]) (h2 := (sh_rep T I J)) rfl rfl rfl ?_
    refine sh_jc (c := .le) (off := (5)) (pc2 := 12) true rfl (sh_Blet h1) rfl ?_
    refine sh_w (i := (.aload_n 0)) (len := 1) (pc2 := 13) (lv2 := [(0, .ref 1), (1, .int a), (2, .int b), (3, .int c), (4, .int d), (5, .int e)]) (st2 := [.ref 1]) (h2 := (sh_rep T I J)) rfl rfl rfl ?_
    refine sh_w (i := (.iload_n 1)) (len := 1) (pc2 := 14) (lv2 := [(0, .ref 1), (1, .int a), (2, .int b), (3, .int c), (4, .int d), (5, .int e)]) (st2 := [.int a, .ref 1]) (h2 := (sh_rep T I J)) rfl rfl rfl ?_
    refine sh_To_le (v := sh_seq (sh_L sh_G0 14) (0, 0, 10, 300) (0, 0, 20, 400)) (sh_uB_le rfl) (sh_cV (k2 := 14) (a := 0) (as := [.ref 1, .int a]) (rest := []) (st2 := []) (r := none) (pc2 := 17) rfl rfl rfl (sh_s0 hT) rfl rfl ⟨Nat.le_of_ble_eq_true rfl, Nat.le_of_ble_eq_true rfl⟩ (sh_c14 hT (by omega) (by omega)) rfl rfl ?_)
    refine sh_w (i := (.aload_n 0)) (len := 1) (pc2 := 18) (lv2 := [(0, .ref 1), (1, .int a), (2, .int b), (3, .int c), (4, .int d), (5, .int e)]) (st2 := [.ref 1]) (h2 := (sh_rep T (sh_ap4 I a) J)) rfl rfl rfl ?_
    refine sh_w (i := (.iload_n 2)) (len := 1) (pc2 := 19) (lv2 := [(0, .ref 1), (1, .int a), (2, .int b), (3, .int c), (4, .int d), (5, .int e)]) (st2 := [.int b, .ref 1]) (h2 := (sh_rep T (sh_ap4 I a) J)) rfl rfl rfl ?_
    refine sh_To_le (v := sh_seq (sh_L sh_G0 14) (0, 0, 10, 300) (0, 0, 20, 400)) (sh_uB_le rfl) (sh_cV (k2 := 14) (a := 0) (as := [.ref 1, .int b]) (rest := []) (st2 := []) (r := none) (pc2 := 22) rfl rfl rfl (sh_s0 hT) rfl rfl ⟨Nat.le_of_ble_eq_true rfl, Nat.le_of_ble_eq_true rfl⟩ (sh_c14 hT (by omega) (by omega)) rfl rfl ?_)
    refine sh_w (i := (.aload_n 0)) (len := 1) (pc2 := 23) (lv2 := [(0, .ref 1), (1, .int a), (2, .int b), (3, .int c), (4, .int d), (5, .int e)]) (st2 := [.ref 1]) (h2 := (sh_rep T (sh_ap4 (sh_ap4 I a) b) J)) rfl rfl rfl ?_
    refine sh_w (i := (.iload_n 3)) (len := 1) (pc2 := 24) (lv2 := [(0, .ref 1), (1, .int a), (2, .int b), (3, .int c), (4, .int d), (5, .int e)]) (st2 := [.int c, .ref 1]) (h2 := (sh_rep T (sh_ap4 (sh_ap4 I a) b) J)) rfl rfl rfl ?_
    refine sh_To_le (v := sh_seq (sh_L sh_G0 14) (0, 0, 10, 300) (0, 0, 20, 400)) (sh_uB_le rfl) (sh_cV (k2 := 14) (a := 0) (as := [.ref 1, .int c]) (rest := []) (st2 := []) (r := none) (pc2 := 27) rfl rfl rfl (sh_s0 hT) rfl rfl ⟨Nat.le_of_ble_eq_true rfl, Nat.le_of_ble_eq_true rfl⟩ (sh_c14 hT (by omega) (by omega)) rfl rfl ?_)
    refine sh_w (i := (.aload_n 0)) (len := 1) (pc2 := 28) (lv2 := [(0, .ref 1), (1, .int a), (2, .int b), (3, .int c), (4, .int d), (5, .int e)]) (st2 := [.ref 1]) (h2 := (sh_rep T (sh_ap4 (sh_ap4 (sh_ap4 I a) b) c) J)) rfl rfl rfl ?_
    refine sh_w (i := (.iload 4)) (len := 2) (pc2 := 30) (lv2 := [(0, .ref 1), (1, .int a), (2, .int b), (3, .int c), (4, .int d), (5, .int e)]) (st2 := [.int d, .ref 1]) (h2 := (sh_rep T (sh_ap4 (sh_ap4 (sh_ap4 I a) b) c) J)) rfl rfl rfl ?_
    refine sh_To_le (v := sh_seq (sh_L sh_G0 14) (0, 0, 10, 300) (0, 0, 20, 400)) (sh_uB_le rfl) (sh_cV (k2 := 14) (a := 0) (as := [.ref 1, .int d]) (rest := []) (st2 := []) (r := none) (pc2 := 33) rfl rfl rfl (sh_s0 hT) rfl rfl ⟨Nat.le_of_ble_eq_true rfl, Nat.le_of_ble_eq_true rfl⟩ (sh_c14 hT (by omega) (by omega)) rfl rfl ?_)
    refine sh_w (i := (.aload_n 0)) (len := 1) (pc2 := 34) (lv2 := [(0, .ref 1), (1, .int a), (2, .int b), (3, .int c), (4, .int d), (5, .int e)]) (st2 := [.ref 1]) (h2 := (sh_rep T (sh_ap4 (sh_ap4 (sh_ap4 (sh_ap4 I a) b) c) d) J)) rfl rfl rfl ?_
    refine sh_w (i := (.iload 5)) (len := 2) (pc2 := 36) (lv2 := [(0, .ref 1), (1, .int a), (2, .int b), (3, .int c), (4, .int d), (5, .int e)]) (st2 := [.int e, .ref 1]) (h2 := (sh_rep T (sh_ap4 (sh_ap4 (sh_ap4 (sh_ap4 I a) b) c) d) J)) rfl rfl rfl ?_
    refine sh_To_le (v := sh_seq (sh_L sh_G0 14) (0, 0, 10, 300) (0, 0, 20, 400)) (sh_uB_le rfl) (sh_cV (k2 := 14) (a := 0) (as := [.ref 1, .int e]) (rest := []) (st2 := []) (r := none) (pc2 := 39) rfl rfl rfl (sh_s0 hT) rfl rfl ⟨Nat.le_of_ble_eq_true rfl, Nat.le_of_ble_eq_true rfl⟩ (sh_c14 hT (by omega) (by omega)) rfl rfl ?_)
    refine sh_w (i := (.iconst 1)) (len := 1) (pc2 := 40) (lv2 := [(0, .ref 1), (1, .int a), (2, .int b), (3, .int c), (4, .int d), (5, .int e)]) (st2 := [.int 1]) (h2 := (sh_rep T (sh_ap4 (sh_ap4 (sh_ap4 (sh_ap4 (sh_ap4 I a) b) c) d) e) J)) rfl rfl rfl ?_
    exact sh_To_le (sh_uB_le rfl) (sh_wret (i := .ireturn) (len := 1) (r := some (.int 1)) rfl rfl rfl)
end Feed
