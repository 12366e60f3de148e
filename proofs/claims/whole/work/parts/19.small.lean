/-! SMALL METHODS: contracts over the memory, printed by gen19.py -/
section Small
variable {sc : sh_S} {T : List sh_Tg} {I : Nat → Nat → Int32} {J : Nat → Nat → Int64}
theorem sh_c15 {n : Int32} (hT : sh_St T) : sh_To sh_G0 sc 15 0 [(0, .ref 1), (1, .int n)] [] (sh_rep T I J) (.returned (some (.int (if n < 0 ∨ I 0 10 < n then 0 else 1)))) (sh_rep T (if n < 0 ∨ I 0 10 < n then I else sh_u2 I 0 10 n) J) (0, 0, 20, 400) := by
  by_cases h1 : n < 0
  · rw [if_pos (Or.inl h1), if_pos (Or.inl h1)]
    refine sh_w (i := (.iload_n 1)) (len := 1) (pc2 := 1) (lv2 := [(0, .ref 1), (1, .int n)]) (st2 := [.int n]) (h2 := (sh_rep T I J)) rfl rfl rfl ?_
    refine sh_j0 (c := .lt) (off := (11)) (pc2 := 12) true rfl (sh_Bltt h1) rfl ?_
    refine sh_w (i := (.iconst 0)) (len := 1) (pc2 := 13) (lv2 := [(0, .ref 1), (1, .int n)]) (st2 := [.int 0]) (h2 := (sh_rep T I J)) rfl rfl rfl ?_
    exact sh_To_le (sh_uB_le rfl) (sh_wret (i := .ireturn) (len := 1) (r := some (.int 0)) rfl rfl rfl)
  · by_cases h2 : I 0 10 < n
    · rw [if_pos (Or.inr h2), if_pos (Or.inr h2)]
      refine sh_w (i := (.iload_n 1)) (len := 1) (pc2 := 1) (lv2 := [(0, .ref 1), (1, .int n)]) (st2 := [.int n]) (h2 := (sh_rep T I J)) rfl rfl rfl ?_
      refine sh_j0 (c := .lt) (off := (11)) (pc2 := 4) false rfl (sh_Bltf h1) rfl ?_
      refine sh_w (i := (.iload_n 1)) (len := 1) (pc2 := 5) (lv2 := [(0, .ref 1), (1, .int n)]) (st2 := [.int n]) (h2 := (sh_rep T I J)) rfl rfl rfl ?_
      refine sh_w (i := (.aload_n 0)) (len := 1) (pc2 := 6) (lv2 := [(0, .ref 1), (1, .int n)]) (st2 := [.ref 1, .int n]) (h2 := (sh_rep T I J)) rfl rfl rfl ?_
      refine sh_gI1 (len := 3) (x := I 0 10) (pc2 := 9) rfl rfl (sh_s0 hT) rfl rfl rfl ?_
      refine sh_jc (c := .le) (off := (5)) (pc2 := 12) false rfl (sh_Blef h2) rfl ?_
      refine sh_w (i := (.iconst 0)) (len := 1) (pc2 := 13) (lv2 := [(0, .ref 1), (1, .int n)]) (st2 := [.int 0]) (h2 := (sh_rep T I J)) rfl rfl rfl ?_
      exact sh_To_le (sh_uB_le rfl) (sh_wret (i := .ireturn) (len := 1) (r := some (.int 0)) rfl rfl rfl)
    · rw [if_neg (by simp [h1, h2]), if_neg (by simp [h1, h2])]
      refine sh_w (i := (.iload_n 1)) (len := 1) (pc2 := 1) (lv2 := [(0, .ref 1), (1, .int n)]) (st2 := [.int n]) (h2 := (sh_rep T I J)) rfl rfl rfl ?_
      refine sh_j0 (c := .lt) (off := (11)) (pc2 := 4) false rfl (sh_Bltf h1) rfl ?_
      refine sh_w (i := (.iload_n 1)) (len := 1) (pc2 := 5) (lv2 := [(0, .ref 1), (1, .int n)]) (st2 := [.int n]) (h2 := (sh_rep T I J)) rfl rfl rfl ?_
      refine sh_w (i := (.aload_n 0)) (len := 1) (pc2 := 6) (lv2 := [(0, .ref 1), (1, .int n)]) (st2 := [.ref 1, .int n]) (h2 := (sh_rep T I J)) rfl rfl rfl ?_
      refine sh_gI1 (len := 3) (x := I 0 10) (pc2 := 9) rfl rfl (sh_s0 hT) rfl rfl rfl ?_
      refine sh_jc (c := .le) (off := (5)) (pc2 := 14) true rfl (sh_Blet h2) rfl ?_
      refine sh_w (i := (.aload_n 0)) (len := 1) (pc2 := 15) (lv2 := [(0, .ref 1), (1, .int n)]) (st2 := [.ref 1]) (h2 := (sh_rep T I J)) rfl rfl rfl ?_
      refine sh_w (i := (.iload_n 1)) (len := 1) (pc2 := 16) (lv2 := [(0, .ref 1), (1, .int n)]) (st2 := [.int n, .ref 1]) (h2 := (sh_rep T I J)) rfl rfl rfl ?_
      refine sh_pI1 (x := n) (pc2 := 19) rfl rfl (sh_s0 hT) rfl rfl rfl rfl ?_
      refine sh_w (i := (.iconst 1)) (len := 1) (pc2 := 20) (lv2 := [(0, .ref 1), (1, .int n)]) (st2 := [.int 1]) (h2 := (sh_rep T (sh_u2 I 0 10 n) J)) rfl rfl rfl ?_
      exact sh_To_le (sh_uB_le rfl) (sh_wret (i := .ireturn) (len := 1) (r := some (.int 1)) rfl rfl rfl)
theorem sh_c245 {n : Int32} (hT : sh_St T) : sh_To sh_G0 sc 245 0 [(0, .ref 67), (1, .int n)] [] (sh_rep T I J) (.returned (some (.int (if n < 0 ∨ I 66 2 < n then 0 else 1)))) (sh_rep T (if n < 0 ∨ I 66 2 < n then sh_u2 I 66 0 0 else sh_u2 (sh_u2 I 66 0 0) 66 2 n) J) (0, 0, 20, 400) := by
  by_cases h1 : n < 0
  · rw [if_pos (Or.inl h1), if_pos (Or.inl h1)]
    refine sh_w (i := (.aload_n 0)) (len := 1) (pc2 := 1) (lv2 := [(0, .ref 67), (1, .int n)]) (st2 := [.ref 67]) (h2 := (sh_rep T I J)) rfl rfl rfl ?_
    refine sh_w (i := (.iconst 0)) (len := 1) (pc2 := 2) (lv2 := [(0, .ref 67), (1, .int n)]) (st2 := [.int 0, .ref 67]) (h2 := (sh_rep T I J)) rfl rfl rfl ?_
    refine sh_pI1 (x := 0) (pc2 := 5) rfl rfl (sh_s66 hT) rfl rfl rfl rfl ?_
    refine sh_w (i := (.iload_n 1)) (len := 1) (pc2 := 6) (lv2 := [(0, .ref 67), (1, .int n)]) (st2 := [.int n]) (h2 := (sh_rep T (sh_u2 I 66 0 0) J)) rfl rfl rfl ?_
    refine sh_j0 (c := .lt) (off := (11)) (pc2 := 17) true rfl (sh_Bltt h1) rfl ?_
    refine sh_w (i := (.iconst 0)) (len := 1) (pc2 := 18) (lv2 := [(0, .ref 67), (1, .int n)]) (st2 := [.int 0]) (h2 := (sh_rep T (sh_u2 I 66 0 0) J)) rfl rfl rfl ?_
    exact sh_To_le (sh_uB_le rfl) (sh_wret (i := .ireturn) (len := 1) (r := some (.int 0)) rfl rfl rfl)
  · by_cases h2 : I 66 2 < n
    · rw [if_pos (Or.inr h2), if_pos (Or.inr h2)]
      refine sh_w (i := (.aload_n 0)) (len := 1) (pc2 := 1) (lv2 := [(0, .ref 67), (1, .int n)]) (st2 := [.ref 67]) (h2 := (sh_rep T I J)) rfl rfl rfl ?_
      refine sh_w (i := (.iconst 0)) (len := 1) (pc2 := 2) (lv2 := [(0, .ref 67), (1, .int n)]) (st2 := [.int 0, .ref 67]) (h2 := (sh_rep T I J)) rfl rfl rfl ?_
      refine sh_pI1 (x := 0) (pc2 := 5) rfl rfl (sh_s66 hT) rfl rfl rfl rfl ?_
      refine sh_w (i := (.iload_n 1)) (len := 1) (pc2 := 6) (lv2 := [(0, .ref 67), (1, .int n)]) (st2 := [.int n]) (h2 := (sh_rep T (sh_u2 I 66 0 0) J)) rfl rfl rfl ?_
      refine sh_j0 (c := .lt) (off := (11)) (pc2 := 9) false rfl (sh_Bltf h1) rfl ?_
      refine sh_w (i := (.iload_n 1)) (len := 1) (pc2 := 10) (lv2 := [(0, .ref 67), (1, .int n)]) (st2 := [.int n]) (h2 := (sh_rep T (sh_u2 I 66 0 0) J)) rfl rfl rfl ?_
      refine sh_w (i := (.aload_n 0)) (len := 1) (pc2 := 11) (lv2 := [(0, .ref 67), (1, .int n)]) (st2 := [.ref 67, .int n]) (h2 := (sh_rep T (sh_u2 I 66 0 0) J)) rfl rfl rfl ?_
      refine sh_gI1 (len := 3) (x := I 66 2) (pc2 := 14) rfl rfl (sh_s66 hT) rfl rfl rfl ?_
      refine sh_jc (c := .le) (off := (5)) (pc2 := 17) false rfl (sh_Blef h2) rfl ?_
      refine sh_w (i := (.iconst 0)) (len := 1) (pc2 := 18) (lv2 := [(0, .ref 67), (1, .int n)]) (st2 := [.int 0]) (h2 := (sh_rep T (sh_u2 I 66 0 0) J)) rfl rfl rfl ?_
      exact sh_To_le (sh_uB_le rfl) (sh_wret (i := .ireturn) (len := 1) (r := some (.int 0)) rfl rfl rfl)
    · rw [if_neg (by simp [h1, h2]), if_neg (by simp [h1, h2])]
      refine sh_w (i := (.aload_n 0)) (len := 1) (pc2 := 1) (lv2 := [(0, .ref 67), (1, .int n)]) (st2 := [.ref 67]) (h2 := (sh_rep T I J)) rfl rfl rfl ?_
      refine sh_w (i := (.iconst 0)) (len := 1) (pc2 := 2) (lv2 := [(0, .ref 67), (1, .int n)]) (st2 := [.int 0, .ref 67]) (h2 := (sh_rep T I J)) rfl rfl rfl ?_
      refine sh_pI1 (x := 0) (pc2 := 5) rfl rfl (sh_s66 hT) rfl rfl rfl rfl ?_
      refine sh_w (i := (.iload_n 1)) (len := 1) (pc2 := 6) (lv2 := [(0, .ref 67), (1, .int n)]) (st2 := [.int n]) (h2 := (sh_rep T (sh_u2 I 66 0 0) J)) rfl rfl rfl ?_
      refine sh_j0 (c := .lt) (off := (11)) (pc2 := 9) false rfl (sh_Bltf h1) rfl ?_
      refine sh_w (i := (.iload_n 1)) (len := 1) (pc2 := 10) (lv2 := [(0, .ref 67), (1, .int n)]) (st2 := [.int n]) (h2 := (sh_rep T (sh_u2 I 66 0 0) J)) rfl rfl rfl ?_
      refine sh_w (i := (.aload_n 0)) (len := 1) (pc2 := 11) (lv2 := [(0, .ref 67), (1, .int n)]) (st2 := [.ref 67, .int n]) (h2 := (sh_rep T (sh_u2 I 66 0 0) J)) rfl rfl rfl ?_
      refine sh_gI1 (len := 3) (x := I 66 2) (pc2 := 14) rfl rfl (sh_s66 hT) rfl rfl rfl ?_
      refine sh_jc (c := .le) (off := (5)) (pc2 := 19) true rfl (sh_Blet h2) rfl ?_
      refine sh_w (i := (.aload_n 0)) (len := 1) (pc2 := 20) (lv2 := [(0, .ref 67), (1, .int n)]) (st2 := [.ref 67]) (h2 := (sh_rep T (sh_u2 I 66 0 0) J)) rfl rfl rfl ?_
      refine sh_w (i := (.iload_n 1)) (len := 1) (pc2 := 21) (lv2 := [(0, .ref 67), (1, .int n)]) (st2 := [.int n, .ref 67]) (h2 := (sh_rep T (sh_u2 I 66 0 0) J)) rfl rfl rfl ?_
      refine sh_pI1 (x := n) (pc2 := 24) rfl rfl (sh_s66 hT) rfl rfl rfl rfl ?_
      refine sh_w (i := (.iconst 1)) (len := 1) (pc2 := 25) (lv2 := [(0, .ref 67), (1, .int n)]) (st2 := [.int 1]) (h2 := (sh_rep T (sh_u2 (sh_u2 I 66 0 0) 66 2 n) J)) rfl rfl rfl ?_
      exact sh_To_le (sh_uB_le rfl) (sh_wret (i := .ireturn) (len := 1) (r := some (.int 1)) rfl rfl rfl)
theorem sh_c213 (hT : sh_St T) : sh_To sh_G0 sc 213 0 [(0, .ref 1)] [] (sh_rep T I J) (.returned (some (.int (I 0 12)))) (sh_rep T I J) (0, 0, 20, 400) := by
  refine sh_w (i := (.aload_n 0)) (len := 1) (pc2 := 1) (lv2 := [(0, .ref 1)]) (st2 := [.ref 1]) (h2 := (sh_rep T I J)) rfl rfl rfl ?_
  refine sh_gI1 (len := 3) (x := I 0 12) (pc2 := 4) rfl rfl (sh_s0 hT) rfl rfl rfl ?_
  exact sh_To_le (sh_uB_le rfl) (sh_wret (i := .ireturn) (len := 1) (r := some (.int (I 0 12))) rfl rfl rfl)
theorem sh_c332 (hT : sh_St T) : sh_To sh_G0 sc 332 0 [(0, .ref 67)] [] (sh_rep T I J) (.returned (some (.int (I 66 7)))) (sh_rep T (sh_u2 I 66 0 0) J) (0, 0, 20, 400) := by
  refine sh_w (i := (.aload_n 0)) (len := 1) (pc2 := 1) (lv2 := [(0, .ref 67)]) (st2 := [.ref 67]) (h2 := (sh_rep T I J)) rfl rfl rfl ?_
  refine sh_w (i := (.iconst 0)) (len := 1) (pc2 := 2) (lv2 := [(0, .ref 67)]) (st2 := [.int 0, .ref 67]) (h2 := (sh_rep T I J)) rfl rfl rfl ?_
  refine sh_pI1 (x := 0) (pc2 := 5) rfl rfl (sh_s66 hT) rfl rfl rfl rfl ?_
  refine sh_w (i := (.aload_n 0)) (len := 1) (pc2 := 6) (lv2 := [(0, .ref 67)]) (st2 := [.ref 67]) (h2 := (sh_rep T (sh_u2 I 66 0 0) J)) rfl rfl rfl ?_
  refine sh_gI1 (len := 3) (x := I 66 7) (pc2 := 9) rfl rfl (sh_s66 hT) rfl rfl rfl ?_
  exact sh_To_le (sh_uB_le rfl) (sh_wret (i := .ireturn) (len := 1) (r := some (.int (I 66 7))) rfl rfl rfl)
theorem sh_c243 (hT : sh_St T) : sh_To sh_G0 sc 243 0 [(0, .ref 67)] [] (sh_rep T I J) (.returned (some (.int (I 66 0)))) (sh_rep T I J) (0, 0, 20, 400) := by
  refine sh_w (i := (.aload_n 0)) (len := 1) (pc2 := 1) (lv2 := [(0, .ref 67)]) (st2 := [.ref 67]) (h2 := (sh_rep T I J)) rfl rfl rfl ?_
  refine sh_gI1 (len := 3) (x := I 66 0) (pc2 := 4) rfl rfl (sh_s66 hT) rfl rfl rfl ?_
  exact sh_To_le (sh_uB_le rfl) (sh_wret (i := .ireturn) (len := 1) (r := some (.int (I 66 0))) rfl rfl rfl)
def sh_sort (x : Int32) : Value := if x = 0 then .ref 14 else if x = 1 then .ref 19 else if x = 2 then .ref 24 else .null
end Small
