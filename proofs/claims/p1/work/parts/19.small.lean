/-! SMALL METHODS: contracts over the memory, printed by gen19.py -/
section Small
variable {sc : sh_S} {T : List sh_Tg} {I : Nat → Nat → Int32} {J : Nat → Nat → Int64}
theorem sh_c15 {n : Int32} (hT : sh_St T) : sh_To sh_G0 sc 15 0 [(0, .ref 1), (1, .int n)] [] (sh_rep T I J) (.returned (some (.int (if n < 0 ∨ I 0 10 < n then 0 else 1)))) (sh_rep T (if n < 0 ∨ I 0 10 < n then I else sh_u2 I 0 10 n) J) (0, 0, 20, 400) := by
  by_cases h1 : n < 0
  · rw [if_pos (Or.inl h1), if_pos (Or.inl h1)]
    refine sh_w (i := (.iload_n 1)) (len := 1) (pc2 := 1) (lv2 := [(0, .ref 1), (1, .int n)]) (st2 := [.int n]) (h2 := (sh_rep T I J)) rfl rfl rfl ?_
    refine sh_j0 (c := .lt) (off := (11)) (pc2 := 12) true rfl (sh_Bltt h1) rfl ?_
    refine sh_w (i := (.iconst 0)) (len := 1) (pc2 := 13) (lv2 := [(0, .ref 1), (1, .int n)]) (st2 := [.int 0]) (h2 := (sh_rep T I J)) rfl rfl rfl ?_
    exact sh_To_le (sh_uB_le rfl) (sh_wret (i := .ireturn) (len := 1) (r := some (.int 0)) rfl rfl rfl)
  · by_cases h2 : I 0 10 < n
    · rw [if_pos (Or.inr h2), if_pos (Or.inr h2)]
      refine sh_w (i := (.iload_n 1)) (len := 1) (pc2 := 1) (lv2 := [(0, .ref 1), (1, .int n)]) (st2 := [.int n]) (h2 := (sh_rep T I J)) rfl rfl rfl ?_
      refine sh_j0 (c := .lt) (off := (11)) (pc2 := 4) false rfl (sh_Bltf h1) rfl ?_
      refine sh_w (i := (.iload_n 1)) (len := 1) (pc2 := 5) (lv2 := [(0, .ref 1), (1, .int n)]) (st2 := [.int n]) (h2 := (sh_rep T I J)) rfl rfl rfl ?_
      refine sh_w (i := (.aload_n 0)) (len := 1) (pc2 := 6) (lv2 := [(0, .ref 1), (1, .int n)]) (st2 := [.ref 1, .int n]) (h2 := (sh_rep T I J)) rfl rfl rfl ?_
      refine sh_gI1 (len := 3) (x := I 0 10) (pc2 := 9) rfl rfl (sh_s0 hT) rfl rfl rfl ?_
      refine sh_jc (c := .le) (off := (5)) (pc2 := 12) false rfl (sh_Blef h2) rfl ?_
      refine sh_w (i := (.iconst 0)) (len := 1) (pc2 := 13) (lv2 := [(0, .ref 1), (1, .int n)]) (st2 := [.int 0]) (h2 := (sh_rep T I J)) rfl rfl rfl ?_
      exact sh_To_le (sh_uB_le rfl) (sh_wret (i := .ireturn) (len := 1) (r := some (.int 0)) rfl rfl rfl)
    · rw [if_neg (by simp [h1, h2]), if_neg (by simp [h1, h2])]
      refine sh_w (i := (.iload_n 1)) (len := 1) (pc2 := 1) (lv2 := [(0, .ref 1), (1, .int n)]) (st2 := [.int n]) (h2 := (sh_rep T I J)) rfl rfl rfl ?_
      refine sh_j0 (c := .lt) (off := (11)) (pc2 := 4) false rfl (sh_Bltf h1) rfl ?_
      refine sh_w (i := (.iload_n 1)) (len := 1) (pc2 := 5) (lv2 := [(0, .ref 1), (1, .int n)]) (st2 := [.int n]) (h2 := (sh_rep T I J)) rfl rfl rfl ?_
      refine sh_w (i := (.aload_n 0)) (len := 1) (pc2 := 6) (lv2 := [(0, .ref 1), (1, .int n)]) (st2 := [.ref 1, .int n]) (h2 := (sh_rep T I J)) rfl rfl rfl ?_
      refine sh_gI1 (len := 3) (x := I 0 10) (pc2 := 9) rfl rfl (sh_s0 hT) rfl rfl rfl ?_
      refine sh_jc (c := .le) (off := (5)) (pc2 := 14) true rfl (sh_Blet h2) rfl ?_
      refine sh_w (i := (.aload_n 0)) (len := 1) (pc2 := 15) (lv2 := [(0, .ref 1), (1, .int n)]) (st2 := [.ref 1]) (h2 := (sh_rep T I J)) rfl rfl rfl ?_
      refine sh_w (i := (.iload_n 1)) (len := 1) (pc2 := 16) (lv2 := [(0, .ref 1), (1, .int n)]) (st2 := [.int n, .ref 1]) (h2 := (sh_rep T I J)) rfl rfl rfl ?_
      refine sh_pI1 (x := n) (pc2 := 19) rfl rfl (sh_s0 hT) rfl rfl rfl rfl ?_
      refine sh_w (i := (.iconst 1)) (len := 1) (pc2 := 20) (lv2 := [(0, .ref 1), (1, .int n)]) (st2 := [.int 1]) (h2 := (sh_rep T (sh_u2 I 0 10 n) J)) rfl rfl rfl ?_
      exact sh_To_le (sh_uB_le rfl) (sh_wret (i := .ireturn) (len := 1) (r := some (.int 1)) rfl rfl rfl)
theorem sh_c245 {n : Int32} (hT : sh_St T) : sh_To sh_G0 sc 245 0 [(0, .ref 67), (1, .int n)] [] (sh_rep T I J) (.returned (some (.int (if n < 0 ∨ I 66 2 < n then 0 else 1)))) (sh_rep T (if n < 0 ∨ I 66 2 < n then sh_u2 I 66 0 0 else sh_u2 (sh_u2 I 66 0 0) 66 2 n) J) (0, 0, 20, 400) := by
  by_cases h1 : n < 0
  · rw [if_pos (Or.inl h1), if_pos (Or.inl h1)]
    refine sh_w (i := (.aload_n 0)) (len := 1) (pc2 := 1) (lv2 := [(0, .ref 67), (1, .int n)]) (st2 := [.ref 67]) (h2 := (sh_rep T I J)) rfl rfl rfl ?_
    refine sh_w (i := (.iconst 0)) (len := 1) (pc2 := 2) (lv2 := [(0, .ref 67), (1, .int n)]) (st2 := [.int 0, .ref 67]) (h2 := (sh_rep T I J)) rfl rfl rfl ?_
    refine sh_pI1 (x := 0) (pc2 := 5) rfl rfl (sh_s66 hT) rfl rfl rfl rfl ?_
    refine sh_w (i := (.iload_n 1)) (len := 1) (pc2 := 6) (lv2 := [(0, .ref 67), (1, .int n)]) (st2 := [.int n]) (h2 := (sh_rep T (sh_u2 I 66 0 0) J)) rfl rfl rfl ?_
    refine sh_j0 (c := .lt) (off := (11)) (pc2 := 17) true rfl (sh_Bltt h1) rfl ?_
    refine sh_w (i := (.iconst 0)) (len := 1) (pc2 := 18) (lv2 := [(0, .ref 67), (1, .int n)]) (st2 := [.int 0]) (h2 := (sh_rep T (sh_u2 I 66 0 0) J)) rfl rfl rfl ?_
    exact sh_To_le (sh_uB_le rfl) (sh_wret (i := .ireturn) (len := 1) (r := some (.int 0)) rfl rfl rfl)
  · by_cases h2 : I 66 2 < n
    · rw [if_pos (Or.inr h2), if_pos (Or.inr h2)]
      refine sh_w (i := (.aload_n 0)) (len := 1) (pc2 := 1) (lv2 := [(0, .ref 67), (1, .int n)]) (st2 := [.ref 67]) (h2 := (sh_rep T I J)) rfl rfl rfl ?_
      refine sh_w (i := (.iconst 0)) (len := 1) (pc2 := 2) (lv2 := [(0, .ref 67), (1, .int n)]) (st2 := [.int 0, .ref 67]) (h2 := (sh_rep T I J)) rfl rfl rfl ?_
      refine sh_pI1 (x := 0) (pc2 := 5) rfl rfl (sh_s66 hT) rfl rfl rfl rfl ?_
      refine sh_w (i := (.iload_n 1)) (len := 1) (pc2 := 6) (lv2 := [(0, .ref 67), (1, .int n)]) (st2 := [.int n]) (h2 := (sh_rep T (sh_u2 I 66 0 0) J)) rfl rfl rfl ?_
      refine sh_j0 (c := .lt) (off := (11)) (pc2 := 9) false rfl (sh_Bltf h1) rfl ?_
      refine sh_w (i := (.iload_n 1)) (len := 1) (pc2 := 10) (lv2 := [(0, .ref 67), (1, .int n)]) (st2 := [.int n]) (h2 := (sh_rep T (sh_u2 I 66 0 0) J)) rfl rfl rfl ?_
      refine sh_w (i := (.aload_n 0)) (len := 1) (pc2 := 11) (lv2 := [(0, .ref 67), (1, .int n)]) (st2 := [.ref 67, .int n]) (h2 := (sh_rep T (sh_u2 I 66 0 0) J)) rfl rfl rfl ?_
      refine sh_gI1 (len := 3) (x := I 66 2) (pc2 := 14) rfl rfl (sh_s66 hT) rfl rfl rfl ?_
      refine sh_jc (c := .le) (off := (5)) (pc2 := 17) false rfl (sh_Blef h2) rfl ?_
      refine sh_w (i := (.iconst 0)) (len := 1) (pc2 := 18) (lv2 := [(0, .ref 67), (1, .int n)]) (st2 := [.int 0]) (h2 := (sh_rep T (sh_u2 I 66 0 0) J)) rfl rfl rfl ?_
      exact sh_To_le (sh_uB_le rfl) (sh_wret (i := .ireturn) (len := 1) (r := some (.int 0)) rfl rfl rfl)
    · rw [if_neg (by simp [h1, h2]), if_neg (by simp [h1, h2])]
      refine sh_w (i := (.aload_n 0)) (len := 1) (pc2 := 1) (lv2 := [(0, .ref 67), (1, .int n)]) (st2 := [.ref 67]) (h2 := (sh_rep T I J)) rfl rfl rfl ?_
      refine sh_w (i := (.iconst 0)) (len := 1) (pc2 := 2) (lv2 := [(0, .ref 67), (1, .int n)]) (st2 := [.int 0, .ref 67]) (h2 := (sh_rep T I J)) rfl rfl rfl ?_
      refine sh_pI1 (x := 0) (pc2 := 5) rfl rfl (sh_s66 hT) rfl rfl rfl rfl ?_
      refine sh_w (i := (.iload_n 1)) (len := 1) (pc2 := 6) (lv2 := [(0, .ref 67), (1, .int n)]) (st2 := [.int n]) (h2 := (sh_rep T (sh_u2 I 66 0 0) J)) rfl rfl rfl ?_
      refine sh_j0 (c := .lt) (off := (11)) (pc2 := 9) false rfl (sh_Bltf h1) rfl ?_
      refine sh_w (i := (.iload_n 1)) (len := 1) (pc2 := 10) (lv2 := [(0, .ref 67), (1, .int n)]) (st2 := [.int n]) (h2 := (sh_rep T (sh_u2 I 66 0 0) J)) rfl rfl rfl ?_
      refine sh_w (i := (.aload_n 0)) (len := 1) (pc2 := 11) (lv2 := [(0, .ref 67), (1, .int n)]) (st2 := [.ref 67, .int n]) (h2 := (sh_rep T (sh_u2 I 66 0 0) J)) rfl rfl rfl ?_
      refine sh_gI1 (len := 3) (x := I 66 2) (pc2 := 14) rfl rfl (sh_s66 hT) rfl rfl rfl ?_
      refine sh_jc (c := .le) (off := (5)) (pc2 := 19) true rfl (sh_Blet h2) rfl ?_
      refine sh_w (i := (.aload_n 0)) (len := 1) (pc2 := 20) (lv2 := [(0, .ref 67), (1, .int n)]) (st2 := [.ref 67]) (h2 := (sh_rep T (sh_u2 I 66 0 0) J)) rfl rfl rfl ?_
      refine sh_w (i := (.iload_n 1)) (len := 1) (pc2 := 21) (lv2 := [(0, .ref 67), (1, .int n)]) (st2 := [.int n, .ref 67]) (h2 := (sh_rep T (sh_u2 I 66 0 0) J)) rfl rfl rfl ?_
      refine sh_pI1 (x := n) (pc2 := 24) rfl rfl (sh_s66 hT) rfl rfl rfl rfl ?_
      refine sh_w (i := (.iconst 1)) (len := 1) (pc2 := 25) (lv2 := [(0, .ref 67), (1, .int n)]) (st2 := [.int 1]) (h2 := (sh_rep T (sh_u2 (sh_u2 I 66 0 0) 66 2 n) J)) rfl rfl rfl ?_
      exact sh_To_le (sh_uB_le rfl) (sh_wret (i := .ireturn) (len := 1) (r := some (.int 1)) rfl rfl rfl)
theorem sh_c213 (hT : sh_St T) : sh_To sh_G0 sc 213 0 [(0, .ref 1)] [] (sh_rep T I J) (.returned (some (.int (I 0 12)))) (sh_rep T I J) (0, 0, 20, 400) := by
  refine sh_w (i := (.aload_n 0)) (len := 1) (pc2 := 1) (lv2 := [(0, .ref 1)]) (st2 := [.ref 1]) (h2 := (sh_rep T I J)) rfl rfl rfl ?_
  refine sh_gI1 (len := 3) (x := I 0 12) (pc2 := 4) rfl rfl (sh_s0 hT) rfl rfl rfl ?_
  exact sh_To_le (sh_uB_le rfl) (sh_wret (i := .ireturn) (len := 1) (r := some (.int (I 0 12))) rfl rfl rfl)
theorem sh_c332 (hT : sh_St T) : sh_To sh_G0 sc 332 0 [(0, .ref 67)] [] (sh_rep T I J) (.returned (some (.int (I 66 7)))) (sh_rep T (sh_u2 I 66 0 0) J) (0, 0, 20, 400) := by
  refine sh_w (i := (.aload_n 0)) (len := 1) (pc2 := 1) (lv2 := [(0, .ref 67)]) (st2 := [.ref 67]) (h2 := (sh_rep T I J)) rfl rfl rfl ?_
  refine sh_w (i := (.iconst 0)) (len := 1) (pc2 := 2) (lv2 := [(0, .ref 67)]) (st2 := [.int 0, .ref 67]) (h2 := (sh_rep T I J)) rfl rfl rfl ?_
  refine sh_pI1 (x := 0) (pc2 := 5) rfl rfl (sh_s66 hT) rfl rfl rfl rfl ?_
  refine sh_w (i := (.aload_n 0)) (len := 1) (pc2 := 6) (lv2 := [(0, .ref 67)]) (st2 := [.ref 67]) (h2 := (sh_rep T (sh_u2 I 66 0 0) J)) rfl rfl rfl ?_
  refine sh_gI1 (len := 3) (x := I 66 7) (pc2 := 9) rfl rfl (sh_s66 hT) rfl rfl rfl ?_
  exact sh_To_le (sh_uB_le rfl) (sh_wret (i := .ireturn) (len := 1) (r := some (.int (I 66 7))) rfl rfl rfl)
theorem sh_c243 (hT : sh_St T) : sh_To sh_G0 sc 243 0 [(0, .ref 67)] [] (sh_rep T I J) (.returned (some (.int (I 66 0)))) (sh_rep T I J) (0, 0, 20, 400) := by
  refine sh_w (i := (.aload_n 0)) (len := 1) (pc2 := 1) (lv2 := [(0, .ref 67)]) (st2 := [.ref 67]) (h2 := (sh_rep T I J)) rfl rfl rfl ?_
  refine sh_gI1 (len := 3) (x := I 66 0) (pc2 := 4) rfl rfl (sh_s66 hT) rfl rfl rfl ?_
  exact sh_To_le (sh_uB_le rfl) (sh_wret (i := .ireturn) (len := 1) (r := some (.int (I 66 0))) rfl rfl rfl)
def sh_sort (x : Int32) : Value := if x = 0 then .ref 14 else if x = 1 then .ref 19 else if x = 2 then .ref 24 else .null
theorem sh_tsd {G : sh_G} {k pc len : Nat} {lv : sh_Ls} {h h3 : sh_H} {o : Outcome} {v : sh_U} {d lo hi : Int} {offs : Array Int} {x : Int32} {r : List Value} {pc2 : Nat} (hi0 : sh_gI G k pc = some (.tableswitch d lo hi offs, len)) (hs : (sh_simple (.tableswitch d lo hi offs) && decide (len = sh_len (.tableswitch d lo hi offs) len)) = true) (hx : x.toInt < lo ∨ hi < x.toInt) (hp : sh_go pc d = some pc2)
    (kk : sh_To G sc k pc2 lv r h o h3 v) : sh_To G sc k pc lv (.int x :: r) h o h3 v := by
  refine sh_w hi0 hs (pc2 := pc2) (lv2 := lv) (st2 := r) (h2 := h) ?_ kk
  show (if x.toInt < lo ∨ hi < x.toInt then sh_br true pc d lv r h else _) = _
  rw [if_pos hx]
  unfold sh_br
  rw [hp]
  rfl
theorem sh_ne3 {x : Int32} (h0 : x ≠ 0) (h1 : x ≠ 1) (h2 : x ≠ 2) : x.toInt < 0 ∨ 2 < x.toInt := by
  have a0 : x.toInt ≠ 0 := fun h => h0 (Int32.toInt_inj.mp h)
  have a1 : x.toInt ≠ 1 := fun h => h1 (Int32.toInt_inj.mp h)
  have a2 : x.toInt ≠ 2 := fun h => h2 (Int32.toInt_inj.mp h)
  omega
theorem sh_c216 {x : Int32} (hT : sh_St T) : sh_To sh_G0 sc 216 0 [(0, .ref 1), (1, .int x)] [] (sh_rep T I J) (.returned (some (sh_sort x))) (sh_rep T I J) (0, 0, 20, 400) := by
  by_cases h0 : x = 0
  · subst h0
    refine sh_w (i := (.iload_n 1)) (len := 1) (pc2 := 1) (lv2 := [(0, .ref 1), (1, .int 0)]) (st2 := [.int 0]) (h2 := (sh_rep T I J)) rfl rfl rfl ?_
    refine sh_w (i := (.tableswitch 42 0 2 #[27, 32, 37])) (len := 27) (pc2 := 28) (lv2 := [(0, .ref 1), (1, .int 0)]) (st2 := []) (h2 := (sh_rep T I J)) rfl rfl rfl ?_
    refine sh_w (i := (.aload_n 0)) (len := 1) (pc2 := 29) (lv2 := [(0, .ref 1), (1, .int 0)]) (st2 := [.ref 1]) (h2 := (sh_rep T I J)) rfl rfl rfl ?_
    refine sh_gR1 (len := 3) (x := .ref 14) (pc2 := 32) rfl rfl (sh_s0 hT) rfl rfl ?_
    exact sh_To_le (sh_uB_le rfl) (sh_wret (i := .areturn) (len := 1) (r := some (.ref 14)) rfl rfl rfl)
  · by_cases h1 : x = 1
    · subst h1
      refine sh_w (i := (.iload_n 1)) (len := 1) (pc2 := 1) (lv2 := [(0, .ref 1), (1, .int 1)]) (st2 := [.int 1]) (h2 := (sh_rep T I J)) rfl rfl rfl ?_
      refine sh_w (i := (.tableswitch 42 0 2 #[27, 32, 37])) (len := 27) (pc2 := 33) (lv2 := [(0, .ref 1), (1, .int 1)]) (st2 := []) (h2 := (sh_rep T I J)) rfl rfl rfl ?_
      refine sh_w (i := (.aload_n 0)) (len := 1) (pc2 := 34) (lv2 := [(0, .ref 1), (1, .int 1)]) (st2 := [.ref 1]) (h2 := (sh_rep T I J)) rfl rfl rfl ?_
      refine sh_gR1 (len := 3) (x := .ref 19) (pc2 := 37) rfl rfl (sh_s0 hT) rfl rfl ?_
      exact sh_To_le (sh_uB_le rfl) (sh_wret (i := .areturn) (len := 1) (r := some (.ref 19)) rfl rfl rfl)
    · by_cases h2 : x = 2
      · subst h2
        refine sh_w (i := (.iload_n 1)) (len := 1) (pc2 := 1) (lv2 := [(0, .ref 1), (1, .int 2)]) (st2 := [.int 2]) (h2 := (sh_rep T I J)) rfl rfl rfl ?_
        refine sh_w (i := (.tableswitch 42 0 2 #[27, 32, 37])) (len := 27) (pc2 := 38) (lv2 := [(0, .ref 1), (1, .int 2)]) (st2 := []) (h2 := (sh_rep T I J)) rfl rfl rfl ?_
        refine sh_w (i := (.aload_n 0)) (len := 1) (pc2 := 39) (lv2 := [(0, .ref 1), (1, .int 2)]) (st2 := [.ref 1]) (h2 := (sh_rep T I J)) rfl rfl rfl ?_
        refine sh_gR1 (len := 3) (x := .ref 24) (pc2 := 42) rfl rfl (sh_s0 hT) rfl rfl ?_
        exact sh_To_le (sh_uB_le rfl) (sh_wret (i := .areturn) (len := 1) (r := some (.ref 24)) rfl rfl rfl)
      · have hs : sh_sort x = .null := by unfold sh_sort; rw [if_neg h0, if_neg h1, if_neg h2]
        rw [hs]
        refine sh_w (i := (.iload_n 1)) (len := 1) (pc2 := 1) (lv2 := [(0, .ref 1), (1, .int x)]) (st2 := [.int x]) (h2 := (sh_rep T I J)) rfl rfl rfl ?_
        refine sh_tsd rfl rfl (sh_ne3 h0 h1 h2) (pc2 := 43) rfl ?_
        refine sh_w (i := .aconst_null) (len := 1) (pc2 := 44) (lv2 := [(0, .ref 1), (1, .int x)]) (st2 := [.null]) (h2 := (sh_rep T I J)) rfl rfl rfl ?_
        exact sh_To_le (sh_uB_le rfl) (sh_wret (i := .areturn) (len := 1) (r := some (.null)) rfl rfl rfl)
theorem sh_sort_is (x : Int32) : (∃ r, sh_sort x = .ref r) ∨ sh_sort x = .null := by
  unfold sh_sort
  split
  · exact Or.inl ⟨_, rfl⟩
  · split
    · exact Or.inl ⟨_, rfl⟩
    · split
      · exact Or.inl ⟨_, rfl⟩
      · exact Or.inr rfl
theorem sh_c214n {x : Int32} (hT : sh_St T) (hn : I 0 13 = 0) : sh_To sh_G0 sc 214 0 [(0, .ref 1), (1, .int x)] [] (sh_rep T I J) (.returned (some (.int (-1)))) (sh_rep T I J) (0, 0, 20, 400) := by
  refine sh_w (i := (.aload_n 0)) (len := 1) (pc2 := 1) (lv2 := [(0, .ref 1), (1, .int x)]) (st2 := [.ref 1]) (h2 := (sh_rep T I J)) rfl rfl rfl ?_
  refine sh_gI1 (len := 3) (x := I 0 13) (pc2 := 4) rfl rfl (sh_s0 hT) rfl rfl rfl ?_
  refine sh_j0 (c := .ne) (off := (5)) (pc2 := 7) false rfl (sh_Bnef hn) rfl ?_
  refine sh_w (i := (.iconst (-1))) (len := 1) (pc2 := 8) (lv2 := [(0, .ref 1), (1, .int x)]) (st2 := [.int (-1)]) (h2 := (sh_rep T I J)) rfl rfl rfl ?_
  exact sh_To_le (sh_uB_le rfl) (sh_wret (i := .ireturn) (len := 1) (r := some (.int (-1))) rfl rfl rfl)
theorem sh_c219n (hT : sh_St T) (hn : I 0 13 = 0) : sh_To sh_G0 sc 219 0 [(0, .ref 1)] [] (sh_rep T I J) (.returned (some (.int 0))) (sh_rep T I J) (0, 0, 20, 400) := by
  refine sh_w (i := (.aload_n 0)) (len := 1) (pc2 := 1) (lv2 := [(0, .ref 1)]) (st2 := [.ref 1]) (h2 := (sh_rep T I J)) rfl rfl rfl ?_
  refine sh_gI1 (len := 3) (x := I 0 13) (pc2 := 4) rfl rfl (sh_s0 hT) rfl rfl rfl ?_
  refine sh_j0 (c := .ne) (off := (5)) (pc2 := 7) false rfl (sh_Bnef hn) rfl ?_
  refine sh_w (i := (.iconst 0)) (len := 1) (pc2 := 8) (lv2 := [(0, .ref 1)]) (st2 := [.int 0]) (h2 := (sh_rep T I J)) rfl rfl rfl ?_
  exact sh_To_le (sh_uB_le rfl) (sh_wret (i := .ireturn) (len := 1) (r := some (.int 0)) rfl rfl rfl)
theorem sh_c237n {x y : Int32} (hT : sh_St T) (hL : T.length < 1000000) (hn : I 0 13 = 0) : sh_To sh_G0 sc 237 0 [(0, .ref 1), (1, .int x), (2, .int y)] [] (sh_rep T I J) (.threw (T.length + 1)) (sh_rep T I J ++ [.inr (14, [])]) (1, 6, 40, 800) := by
  rw [← sh_rep_len (T := T) (I := I) (J := J)]
  rcases sh_sort_is x with ⟨r, hs⟩ | hs
  · have hc := sh_c216 (sc := sc) (T := T) (I := I) (J := J) (x := x) hT
    rw [hs] at hc
    refine sh_w (i := (.aload_n 0)) (len := 1) (pc2 := 1) (lv2 := [(0, .ref 1), (1, .int x), (2, .int y)]) (st2 := [.ref 1]) (h2 := (sh_rep T I J)) rfl rfl rfl ?_
    refine sh_w (i := (.iload_n 1)) (len := 1) (pc2 := 2) (lv2 := [(0, .ref 1), (1, .int x), (2, .int y)]) (st2 := [.int x, .ref 1]) (h2 := (sh_rep T I J)) rfl rfl rfl ?_
    refine sh_To_le (v := sh_seq (sh_L sh_G0 216) (0, 0, 20, 400) (1, 6, 40, 800)) (sh_uB_le rfl) (sh_cV (k2 := 216) (a := 0) (as := [.ref 1, .int x]) (rest := []) (st2 := [.ref r]) (r := (some (.ref r))) (pc2 := 5) rfl rfl rfl (sh_s0 hT) rfl rfl ⟨Nat.le_of_ble_eq_true rfl, Nat.le_of_ble_eq_true rfl⟩ hc rfl rfl ?_)
    refine sh_w (i := (.astore_n 3)) (len := 1) (pc2 := 6) (lv2 := [(3, .ref r), (0, .ref 1), (1, .int x), (2, .int y)]) (st2 := []) (h2 := (sh_rep T I J)) rfl rfl rfl ?_
    refine sh_w (i := (.aload_n 0)) (len := 1) (pc2 := 7) (lv2 := [(3, .ref r), (0, .ref 1), (1, .int x), (2, .int y)]) (st2 := [.ref 1]) (h2 := (sh_rep T I J)) rfl rfl rfl ?_
    refine sh_gI1 (len := 3) (x := I 0 13) (pc2 := 10) rfl rfl (sh_s0 hT) rfl rfl rfl ?_
    refine sh_j0 (c := .eq) (off := (15)) (pc2 := 25) true rfl (sh_Beqt hn) rfl ?_
    exact sh_To_le (sh_uB_le rfl) (sh_wthr rfl rfl rfl (by rw [sh_rep_len]; exact hL) (by decide) rfl)
  · have hc := sh_c216 (sc := sc) (T := T) (I := I) (J := J) (x := x) hT
    rw [hs] at hc
    refine sh_w (i := (.aload_n 0)) (len := 1) (pc2 := 1) (lv2 := [(0, .ref 1), (1, .int x), (2, .int y)]) (st2 := [.ref 1]) (h2 := (sh_rep T I J)) rfl rfl rfl ?_
    refine sh_w (i := (.iload_n 1)) (len := 1) (pc2 := 2) (lv2 := [(0, .ref 1), (1, .int x), (2, .int y)]) (st2 := [.int x, .ref 1]) (h2 := (sh_rep T I J)) rfl rfl rfl ?_
    refine sh_To_le (v := sh_seq (sh_L sh_G0 216) (0, 0, 20, 400) (1, 6, 40, 800)) (sh_uB_le rfl) (sh_cV (k2 := 216) (a := 0) (as := [.ref 1, .int x]) (rest := []) (st2 := [.null]) (r := (some (.null))) (pc2 := 5) rfl rfl rfl (sh_s0 hT) rfl rfl ⟨Nat.le_of_ble_eq_true rfl, Nat.le_of_ble_eq_true rfl⟩ hc rfl rfl ?_)
    refine sh_w (i := (.astore_n 3)) (len := 1) (pc2 := 6) (lv2 := [(3, .null), (0, .ref 1), (1, .int x), (2, .int y)]) (st2 := []) (h2 := (sh_rep T I J)) rfl rfl rfl ?_
    refine sh_w (i := (.aload_n 0)) (len := 1) (pc2 := 7) (lv2 := [(3, .null), (0, .ref 1), (1, .int x), (2, .int y)]) (st2 := [.ref 1]) (h2 := (sh_rep T I J)) rfl rfl rfl ?_
    refine sh_gI1 (len := 3) (x := I 0 13) (pc2 := 10) rfl rfl (sh_s0 hT) rfl rfl rfl ?_
    refine sh_j0 (c := .eq) (off := (15)) (pc2 := 25) true rfl (sh_Beqt hn) rfl ?_
    exact sh_To_le (sh_uB_le rfl) (sh_wthr rfl rfl rfl (by rw [sh_rep_len]; exact hL) (by decide) rfl)
theorem sh_c241n {x : Int32} (hT : sh_St T) (hL : T.length < 1000000) (hn : I 0 13 = 0) : sh_To sh_G0 sc 241 0 [(0, .ref 1), (1, .int x)] [] (sh_rep T I J) (.threw (T.length + 1)) (sh_rep T I J ++ [.inr (14, [])]) (1, 6, 40, 800) := by
  rw [← sh_rep_len (T := T) (I := I) (J := J)]
  refine sh_w (i := (.aload_n 0)) (len := 1) (pc2 := 1) (lv2 := [(0, .ref 1), (1, .int x)]) (st2 := [.ref 1]) (h2 := (sh_rep T I J)) rfl rfl rfl ?_
  refine sh_gI1 (len := 3) (x := I 0 13) (pc2 := 4) rfl rfl (sh_s0 hT) rfl rfl rfl ?_
  refine sh_j0 (c := .eq) (off := (21)) (pc2 := 25) true rfl (sh_Beqt hn) rfl ?_
  exact sh_To_le (sh_uB_le rfl) (sh_wthr rfl rfl rfl (by rw [sh_rep_len]; exact hL) (by decide) rfl)
theorem sh_c239n {x y z t : Int32} (hT : sh_St T) (hL : T.length < 1000000) (hn : I 0 13 = 0) : sh_To sh_G0 sc 239 0 [(0, .ref 1), (1, .int x), (2, .int y), (3, .int z), (4, .int t)] [] (sh_rep T I J) (.threw (T.length + 1)) (sh_rep T I J ++ [.inr (14, [])]) (1, 6, 40, 800) := by
  rw [← sh_rep_len (T := T) (I := I) (J := J)]
  by_cases h0 : x = 0
  · skip
    rcases sh_sort_is x with ⟨r, hs⟩ | hs
    · have hc := sh_c216 (sc := sc) (T := T) (I := I) (J := J) (x := x) hT
      rw [hs] at hc
      refine sh_w (i := (.iload_n 1)) (len := 1) (pc2 := 1) (lv2 := [(0, .ref 1), (1, .int x), (2, .int y), (3, .int z), (4, .int t)]) (st2 := [.int x]) (h2 := (sh_rep T I J)) rfl rfl rfl ?_
      refine sh_j0 (c := .eq) (off := (8)) (pc2 := 9) true rfl (sh_Beqt h0) rfl ?_
      refine sh_w (i := (.aload_n 0)) (len := 1) (pc2 := 10) (lv2 := [(0, .ref 1), (1, .int x), (2, .int y), (3, .int z), (4, .int t)]) (st2 := [.ref 1]) (h2 := (sh_rep T I J)) rfl rfl rfl ?_
      refine sh_w (i := (.iload_n 1)) (len := 1) (pc2 := 11) (lv2 := [(0, .ref 1), (1, .int x), (2, .int y), (3, .int z), (4, .int t)]) (st2 := [.int x, .ref 1]) (h2 := (sh_rep T I J)) rfl rfl rfl ?_
      refine sh_To_le (v := sh_seq (sh_L sh_G0 216) (0, 0, 20, 400) (1, 6, 40, 800)) (sh_uB_le rfl) (sh_cV (k2 := 216) (a := 0) (as := [.ref 1, .int x]) (rest := []) (st2 := [.ref r]) (r := (some (.ref r))) (pc2 := 14) rfl rfl rfl (sh_s0 hT) rfl rfl ⟨Nat.le_of_ble_eq_true rfl, Nat.le_of_ble_eq_true rfl⟩ hc rfl rfl ?_)
      refine sh_w (i := (.goto 4)) (len := 3) (pc2 := 18) (lv2 := [(0, .ref 1), (1, .int x), (2, .int y), (3, .int z), (4, .int t)]) (st2 := [.ref r]) (h2 := (sh_rep T I J)) rfl rfl rfl ?_
      refine sh_w (i := (.astore 5)) (len := 2) (pc2 := 20) (lv2 := [(5, .ref r), (0, .ref 1), (1, .int x), (2, .int y), (3, .int z), (4, .int t)]) (st2 := []) (h2 := (sh_rep T I J)) rfl rfl rfl ?_
      refine sh_w (i := (.aload_n 0)) (len := 1) (pc2 := 21) (lv2 := [(5, .ref r), (0, .ref 1), (1, .int x), (2, .int y), (3, .int z), (4, .int t)]) (st2 := [.ref 1]) (h2 := (sh_rep T I J)) rfl rfl rfl ?_
      refine sh_gI1 (len := 3) (x := I 0 13) (pc2 := 24) rfl rfl (sh_s0 hT) rfl rfl rfl ?_
      refine sh_j0 (c := .eq) (off := (17)) (pc2 := 41) true rfl (sh_Beqt hn) rfl ?_
      exact sh_To_le (sh_uB_le rfl) (sh_wthr rfl rfl rfl (by rw [sh_rep_len]; exact hL) (by decide) rfl)
    · have hc := sh_c216 (sc := sc) (T := T) (I := I) (J := J) (x := x) hT
      rw [hs] at hc
      refine sh_w (i := (.iload_n 1)) (len := 1) (pc2 := 1) (lv2 := [(0, .ref 1), (1, .int x), (2, .int y), (3, .int z), (4, .int t)]) (st2 := [.int x]) (h2 := (sh_rep T I J)) rfl rfl rfl ?_
      refine sh_j0 (c := .eq) (off := (8)) (pc2 := 9) true rfl (sh_Beqt h0) rfl ?_
      refine sh_w (i := (.aload_n 0)) (len := 1) (pc2 := 10) (lv2 := [(0, .ref 1), (1, .int x), (2, .int y), (3, .int z), (4, .int t)]) (st2 := [.ref 1]) (h2 := (sh_rep T I J)) rfl rfl rfl ?_
      refine sh_w (i := (.iload_n 1)) (len := 1) (pc2 := 11) (lv2 := [(0, .ref 1), (1, .int x), (2, .int y), (3, .int z), (4, .int t)]) (st2 := [.int x, .ref 1]) (h2 := (sh_rep T I J)) rfl rfl rfl ?_
      refine sh_To_le (v := sh_seq (sh_L sh_G0 216) (0, 0, 20, 400) (1, 6, 40, 800)) (sh_uB_le rfl) (sh_cV (k2 := 216) (a := 0) (as := [.ref 1, .int x]) (rest := []) (st2 := [.null]) (r := (some (.null))) (pc2 := 14) rfl rfl rfl (sh_s0 hT) rfl rfl ⟨Nat.le_of_ble_eq_true rfl, Nat.le_of_ble_eq_true rfl⟩ hc rfl rfl ?_)
      refine sh_w (i := (.goto 4)) (len := 3) (pc2 := 18) (lv2 := [(0, .ref 1), (1, .int x), (2, .int y), (3, .int z), (4, .int t)]) (st2 := [.null]) (h2 := (sh_rep T I J)) rfl rfl rfl ?_
      refine sh_w (i := (.astore 5)) (len := 2) (pc2 := 20) (lv2 := [(5, .null), (0, .ref 1), (1, .int x), (2, .int y), (3, .int z), (4, .int t)]) (st2 := []) (h2 := (sh_rep T I J)) rfl rfl rfl ?_
      refine sh_w (i := (.aload_n 0)) (len := 1) (pc2 := 21) (lv2 := [(5, .null), (0, .ref 1), (1, .int x), (2, .int y), (3, .int z), (4, .int t)]) (st2 := [.ref 1]) (h2 := (sh_rep T I J)) rfl rfl rfl ?_
      refine sh_gI1 (len := 3) (x := I 0 13) (pc2 := 24) rfl rfl (sh_s0 hT) rfl rfl rfl ?_
      refine sh_j0 (c := .eq) (off := (17)) (pc2 := 41) true rfl (sh_Beqt hn) rfl ?_
      exact sh_To_le (sh_uB_le rfl) (sh_wthr rfl rfl rfl (by rw [sh_rep_len]; exact hL) (by decide) rfl)
  · by_cases h1 : x = 1
    · skip
      rcases sh_sort_is x with ⟨r, hs⟩ | hs
      · have hc := sh_c216 (sc := sc) (T := T) (I := I) (J := J) (x := x) hT
        rw [hs] at hc
        refine sh_w (i := (.iload_n 1)) (len := 1) (pc2 := 1) (lv2 := [(0, .ref 1), (1, .int x), (2, .int y), (3, .int z), (4, .int t)]) (st2 := [.int x]) (h2 := (sh_rep T I J)) rfl rfl rfl ?_
        refine sh_j0 (c := .eq) (off := (8)) (pc2 := 4) false rfl (sh_Beqf h0) rfl ?_
        refine sh_w (i := (.iload_n 1)) (len := 1) (pc2 := 5) (lv2 := [(0, .ref 1), (1, .int x), (2, .int y), (3, .int z), (4, .int t)]) (st2 := [.int x]) (h2 := (sh_rep T I J)) rfl rfl rfl ?_
        refine sh_w (i := (.iconst 1)) (len := 1) (pc2 := 6) (lv2 := [(0, .ref 1), (1, .int x), (2, .int y), (3, .int z), (4, .int t)]) (st2 := [.int 1, .int x]) (h2 := (sh_rep T I J)) rfl rfl rfl ?_
        refine sh_jc (c := .ne) (off := (11)) (pc2 := 9) false rfl (sh_Bnef h1) rfl ?_
        refine sh_w (i := (.aload_n 0)) (len := 1) (pc2 := 10) (lv2 := [(0, .ref 1), (1, .int x), (2, .int y), (3, .int z), (4, .int t)]) (st2 := [.ref 1]) (h2 := (sh_rep T I J)) rfl rfl rfl ?_
        refine sh_w (i := (.iload_n 1)) (len := 1) (pc2 := 11) (lv2 := [(0, .ref 1), (1, .int x), (2, .int y), (3, .int z), (4, .int t)]) (st2 := [.int x, .ref 1]) (h2 := (sh_rep T I J)) rfl rfl rfl ?_
        refine sh_To_le (v := sh_seq (sh_L sh_G0 216) (0, 0, 20, 400) (1, 6, 40, 800)) (sh_uB_le rfl) (sh_cV (k2 := 216) (a := 0) (as := [.ref 1, .int x]) (rest := []) (st2 := [.ref r]) (r := (some (.ref r))) (pc2 := 14) rfl rfl rfl (sh_s0 hT) rfl rfl ⟨Nat.le_of_ble_eq_true rfl, Nat.le_of_ble_eq_true rfl⟩ hc rfl rfl ?_)
        refine sh_w (i := (.goto 4)) (len := 3) (pc2 := 18) (lv2 := [(0, .ref 1), (1, .int x), (2, .int y), (3, .int z), (4, .int t)]) (st2 := [.ref r]) (h2 := (sh_rep T I J)) rfl rfl rfl ?_
        refine sh_w (i := (.astore 5)) (len := 2) (pc2 := 20) (lv2 := [(5, .ref r), (0, .ref 1), (1, .int x), (2, .int y), (3, .int z), (4, .int t)]) (st2 := []) (h2 := (sh_rep T I J)) rfl rfl rfl ?_
        refine sh_w (i := (.aload_n 0)) (len := 1) (pc2 := 21) (lv2 := [(5, .ref r), (0, .ref 1), (1, .int x), (2, .int y), (3, .int z), (4, .int t)]) (st2 := [.ref 1]) (h2 := (sh_rep T I J)) rfl rfl rfl ?_
        refine sh_gI1 (len := 3) (x := I 0 13) (pc2 := 24) rfl rfl (sh_s0 hT) rfl rfl rfl ?_
        refine sh_j0 (c := .eq) (off := (17)) (pc2 := 41) true rfl (sh_Beqt hn) rfl ?_
        exact sh_To_le (sh_uB_le rfl) (sh_wthr rfl rfl rfl (by rw [sh_rep_len]; exact hL) (by decide) rfl)
      · have hc := sh_c216 (sc := sc) (T := T) (I := I) (J := J) (x := x) hT
        rw [hs] at hc
        refine sh_w (i := (.iload_n 1)) (len := 1) (pc2 := 1) (lv2 := [(0, .ref 1), (1, .int x), (2, .int y), (3, .int z), (4, .int t)]) (st2 := [.int x]) (h2 := (sh_rep T I J)) rfl rfl rfl ?_
        refine sh_j0 (c := .eq) (off := (8)) (pc2 := 4) false rfl (sh_Beqf h0) rfl ?_
        refine sh_w (i := (.iload_n 1)) (len := 1) (pc2 := 5) (lv2 := [(0, .ref 1), (1, .int x), (2, .int y), (3, .int z), (4, .int t)]) (st2 := [.int x]) (h2 := (sh_rep T I J)) rfl rfl rfl ?_
        refine sh_w (i := (.iconst 1)) (len := 1) (pc2 := 6) (lv2 := [(0, .ref 1), (1, .int x), (2, .int y), (3, .int z), (4, .int t)]) (st2 := [.int 1, .int x]) (h2 := (sh_rep T I J)) rfl rfl rfl ?_
        refine sh_jc (c := .ne) (off := (11)) (pc2 := 9) false rfl (sh_Bnef h1) rfl ?_
        refine sh_w (i := (.aload_n 0)) (len := 1) (pc2 := 10) (lv2 := [(0, .ref 1), (1, .int x), (2, .int y), (3, .int z), (4, .int t)]) (st2 := [.ref 1]) (h2 := (sh_rep T I J)) rfl rfl rfl ?_
        refine sh_w (i := (.iload_n 1)) (len := 1) (pc2 := 11) (lv2 := [(0, .ref 1), (1, .int x), (2, .int y), (3, .int z), (4, .int t)]) (st2 := [.int x, .ref 1]) (h2 := (sh_rep T I J)) rfl rfl rfl ?_
        refine sh_To_le (v := sh_seq (sh_L sh_G0 216) (0, 0, 20, 400) (1, 6, 40, 800)) (sh_uB_le rfl) (sh_cV (k2 := 216) (a := 0) (as := [.ref 1, .int x]) (rest := []) (st2 := [.null]) (r := (some (.null))) (pc2 := 14) rfl rfl rfl (sh_s0 hT) rfl rfl ⟨Nat.le_of_ble_eq_true rfl, Nat.le_of_ble_eq_true rfl⟩ hc rfl rfl ?_)
        refine sh_w (i := (.goto 4)) (len := 3) (pc2 := 18) (lv2 := [(0, .ref 1), (1, .int x), (2, .int y), (3, .int z), (4, .int t)]) (st2 := [.null]) (h2 := (sh_rep T I J)) rfl rfl rfl ?_
        refine sh_w (i := (.astore 5)) (len := 2) (pc2 := 20) (lv2 := [(5, .null), (0, .ref 1), (1, .int x), (2, .int y), (3, .int z), (4, .int t)]) (st2 := []) (h2 := (sh_rep T I J)) rfl rfl rfl ?_
        refine sh_w (i := (.aload_n 0)) (len := 1) (pc2 := 21) (lv2 := [(5, .null), (0, .ref 1), (1, .int x), (2, .int y), (3, .int z), (4, .int t)]) (st2 := [.ref 1]) (h2 := (sh_rep T I J)) rfl rfl rfl ?_
        refine sh_gI1 (len := 3) (x := I 0 13) (pc2 := 24) rfl rfl (sh_s0 hT) rfl rfl rfl ?_
        refine sh_j0 (c := .eq) (off := (17)) (pc2 := 41) true rfl (sh_Beqt hn) rfl ?_
        exact sh_To_le (sh_uB_le rfl) (sh_wthr rfl rfl rfl (by rw [sh_rep_len]; exact hL) (by decide) rfl)
    · skip
      refine sh_w (i := (.iload_n 1)) (len := 1) (pc2 := 1) (lv2 := [(0, .ref 1), (1, .int x), (2, .int y), (3, .int z), (4, .int t)]) (st2 := [.int x]) (h2 := (sh_rep T I J)) rfl rfl rfl ?_
      refine sh_j0 (c := .eq) (off := (8)) (pc2 := 4) false rfl (sh_Beqf h0) rfl ?_
      refine sh_w (i := (.iload_n 1)) (len := 1) (pc2 := 5) (lv2 := [(0, .ref 1), (1, .int x), (2, .int y), (3, .int z), (4, .int t)]) (st2 := [.int x]) (h2 := (sh_rep T I J)) rfl rfl rfl ?_
      refine sh_w (i := (.iconst 1)) (len := 1) (pc2 := 6) (lv2 := [(0, .ref 1), (1, .int x), (2, .int y), (3, .int z), (4, .int t)]) (st2 := [.int 1, .int x]) (h2 := (sh_rep T I J)) rfl rfl rfl ?_
      refine sh_jc (c := .ne) (off := (11)) (pc2 := 17) true rfl (sh_Bnet h1) rfl ?_
      refine sh_w (i := .aconst_null) (len := 1) (pc2 := 18) (lv2 := [(0, .ref 1), (1, .int x), (2, .int y), (3, .int z), (4, .int t)]) (st2 := [.null]) (h2 := (sh_rep T I J)) rfl rfl rfl ?_
      refine sh_w (i := (.astore 5)) (len := 2) (pc2 := 20) (lv2 := [(5, .null), (0, .ref 1), (1, .int x), (2, .int y), (3, .int z), (4, .int t)]) (st2 := []) (h2 := (sh_rep T I J)) rfl rfl rfl ?_
      refine sh_w (i := (.aload_n 0)) (len := 1) (pc2 := 21) (lv2 := [(5, .null), (0, .ref 1), (1, .int x), (2, .int y), (3, .int z), (4, .int t)]) (st2 := [.ref 1]) (h2 := (sh_rep T I J)) rfl rfl rfl ?_
      refine sh_gI1 (len := 3) (x := I 0 13) (pc2 := 24) rfl rfl (sh_s0 hT) rfl rfl rfl ?_
      refine sh_j0 (c := .eq) (off := (17)) (pc2 := 41) true rfl (sh_Beqt hn) rfl ?_
      exact sh_To_le (sh_uB_le rfl) (sh_wthr rfl rfl rfl (by rw [sh_rep_len]; exact hL) (by decide) rfl)
theorem sh_c218 {x : Int32} {s : Int64} {zr hr : Value} (hT : sh_St T) (hG : T[61]? = some (.inr (11, [.inr (.ref 10), .inr (.ref 63), .inr (.ref 64), .inr zr, .inr hr, .inl 1]))) (hx : x = 0 ∨ x = 1) : sh_To sh_G0 sc 218 0 [(0, .ref 62), (1, .int x), (2, .long s)] [] (sh_rep T I J) (.returned (none)) (sh_rep T I (sh_u2 J 62 x.toNatClampNeg s)) (0, 0, 10, 300) := by
  have h0 : ¬ x < 0 := by rcases hx with rfl | rfl <;> decide
  have h2 : x < 2 := by rcases hx with rfl | rfl <;> decide
  have h3 : x.toNatClampNeg < 2 := by rcases hx with rfl | rfl <;> decide
  refine sh_w (i := (.iload_n 1)) (len := 1) (pc2 := 1) (lv2 := [(0, .ref 62), (1, .int x), (2, .long s)]) (st2 := [.int x]) (h2 := (sh_rep T I J)) rfl rfl rfl ?_
  refine sh_j0 (c := .lt) (off := (19)) (pc2 := 4) false rfl (sh_Bltf h0) rfl ?_
  refine sh_w (i := (.iload_n 1)) (len := 1) (pc2 := 5) (lv2 := [(0, .ref 62), (1, .int x), (2, .long s)]) (st2 := [.int x]) (h2 := (sh_rep T I J)) rfl rfl rfl ?_
  refine sh_w (i := (.aload_n 0)) (len := 1) (pc2 := 6) (lv2 := [(0, .ref 62), (1, .int x), (2, .long s)]) (st2 := [.ref 62, .int x]) (h2 := (sh_rep T I J)) rfl rfl rfl ?_
  refine sh_gR1 (len := 3) (x := .ref 63) (pc2 := 9) rfl rfl hG rfl rfl ?_
  refine sh_al1 (pc2 := 10) rfl (sh_s62 hT) (by decide) rfl ?_
  refine sh_jc (c := .ge) (off := (10)) (pc2 := 13) false rfl (sh_Bgef h2) rfl ?_
  refine sh_w (i := (.aload_n 0)) (len := 1) (pc2 := 14) (lv2 := [(0, .ref 62), (1, .int x), (2, .long s)]) (st2 := [.ref 62]) (h2 := (sh_rep T I J)) rfl rfl rfl ?_
  refine sh_gR1 (len := 3) (x := .ref 63) (pc2 := 17) rfl rfl hG rfl rfl ?_
  refine sh_w (i := (.iload_n 1)) (len := 1) (pc2 := 18) (lv2 := [(0, .ref 62), (1, .int x), (2, .long s)]) (st2 := [.int x, .ref 63]) (h2 := (sh_rep T I J)) rfl rfl rfl ?_
  refine sh_w (i := (.lload_n 2)) (len := 1) (pc2 := 19) (lv2 := [(0, .ref 62), (1, .int x), (2, .long s)]) (st2 := [.long s, .int x, .ref 63]) (h2 := (sh_rep T I J)) rfl rfl rfl ?_
  refine sh_ls1 (x := s) (i := x) (pc2 := 20) rfl (sh_s62 hT) h0 h3 rfl ?_
  exact sh_To_le (sh_uB_le rfl) (sh_wret (i := .return_) (len := 1) (r := none) rfl rfl rfl)
theorem sh_c217 {x y z : Int32} {zr hr : Value} (hT : sh_St T) (hG : T[61]? = some (.inr (11, [.inr (.ref 10), .inr (.ref 63), .inr (.ref 64), .inr zr, .inr hr, .inl 1]))) : sh_To sh_G0 sc 217 0 [(0, .ref 1), (1, .int x), (2, .int y), (3, .int z)] [] (sh_rep T I J) (.returned (none)) (sh_rep T I (if x = 0 ∨ x = 1 then sh_u2 J 62 x.toNatClampNeg ((Int32.toInt64 y <<< (Int32.toInt64 32 &&& 63)) ||| (Int32.toInt64 z &&& 4294967295)) else J)) (0, 0, 20, 400) := by
  by_cases h0 : x = 0
  · rw [if_pos (Or.inl h0)]
    refine sh_w (i := (.iload_n 1)) (len := 1) (pc2 := 1) (lv2 := [(0, .ref 1), (1, .int x), (2, .int y), (3, .int z)]) (st2 := [.int x]) (h2 := (sh_rep T I J)) rfl rfl rfl ?_
    refine sh_j0 (c := .eq) (off := (8)) (pc2 := 9) true rfl (sh_Beqt h0) rfl ?_
    refine sh_w (i := (.aload_n 0)) (len := 1) (pc2 := 10) (lv2 := [(0, .ref 1), (1, .int x), (2, .int y), (3, .int z)]) (st2 := [.ref 1]) (h2 := (sh_rep T I J)) rfl rfl rfl ?_
    refine sh_gR1 (len := 3) (x := .ref 62) (pc2 := 13) rfl rfl (sh_s0 hT) rfl rfl ?_
    refine sh_w (i := (.iload_n 1)) (len := 1) (pc2 := 14) (lv2 := [(0, .ref 1), (1, .int x), (2, .int y), (3, .int z)]) (st2 := [.int x, .ref 62]) (h2 := (sh_rep T I J)) rfl rfl rfl ?_
    refine sh_w (i := (.iload_n 2)) (len := 1) (pc2 := 15) (lv2 := [(0, .ref 1), (1, .int x), (2, .int y), (3, .int z)]) (st2 := [.int y, .int x, .ref 62]) (h2 := (sh_rep T I J)) rfl rfl rfl ?_
    refine sh_w (i := .i2l) (len := 1) (pc2 := 16) (lv2 := [(0, .ref 1), (1, .int x), (2, .int y), (3, .int z)]) (st2 := [.long (Int32.toInt64 y), .int x, .ref 62]) (h2 := (sh_rep T I J)) rfl rfl rfl ?_
    refine sh_w (i := (.bipush 32)) (len := 2) (pc2 := 18) (lv2 := [(0, .ref 1), (1, .int x), (2, .int y), (3, .int z)]) (st2 := [.int 32, .long (Int32.toInt64 y), .int x, .ref 62]) (h2 := (sh_rep T I J)) rfl rfl rfl ?_
    refine sh_w (i := .lshl) (len := 1) (pc2 := 19) (lv2 := [(0, .ref 1), (1, .int x), (2, .int y), (3, .int z)]) (st2 := [.long ((Int32.toInt64 y) <<< (Int32.toInt64 32 &&& 63)), .int x, .ref 62]) (h2 := (sh_rep T I J)) rfl rfl rfl ?_
    refine sh_w (i := (.iload_n 3)) (len := 1) (pc2 := 20) (lv2 := [(0, .ref 1), (1, .int x), (2, .int y), (3, .int z)]) (st2 := [.int z, .long ((Int32.toInt64 y) <<< (Int32.toInt64 32 &&& 63)), .int x, .ref 62]) (h2 := (sh_rep T I J)) rfl rfl rfl ?_
    refine sh_w (i := .i2l) (len := 1) (pc2 := 21) (lv2 := [(0, .ref 1), (1, .int x), (2, .int y), (3, .int z)]) (st2 := [.long (Int32.toInt64 z), .long ((Int32.toInt64 y) <<< (Int32.toInt64 32 &&& 63)), .int x, .ref 62]) (h2 := (sh_rep T I J)) rfl rfl rfl ?_
    refine sh_w (i := (.ldc2_w 146)) (len := 3) (pc2 := 24) (lv2 := [(0, .ref 1), (1, .int x), (2, .int y), (3, .int z)]) (st2 := [.long 4294967295, .long (Int32.toInt64 z), .long ((Int32.toInt64 y) <<< (Int32.toInt64 32 &&& 63)), .int x, .ref 62]) (h2 := (sh_rep T I J)) rfl rfl rfl ?_
    refine sh_w (i := .land) (len := 1) (pc2 := 25) (lv2 := [(0, .ref 1), (1, .int x), (2, .int y), (3, .int z)]) (st2 := [.long ((Int32.toInt64 z) &&& 4294967295), .long ((Int32.toInt64 y) <<< (Int32.toInt64 32 &&& 63)), .int x, .ref 62]) (h2 := (sh_rep T I J)) rfl rfl rfl ?_
    refine sh_w (i := .lor) (len := 1) (pc2 := 26) (lv2 := [(0, .ref 1), (1, .int x), (2, .int y), (3, .int z)]) (st2 := [.long (((Int32.toInt64 y) <<< (Int32.toInt64 32 &&& 63)) ||| ((Int32.toInt64 z) &&& 4294967295)), .int x, .ref 62]) (h2 := (sh_rep T I J)) rfl rfl rfl ?_
    refine sh_To_le (v := sh_seq (sh_L sh_G0 218) (0, 0, 10, 300) (0, 0, 20, 400)) (sh_uB_le rfl) (sh_cV (k2 := 218) (a := 61) (as := [.ref 62, .int x, .long (((Int32.toInt64 y) <<< (Int32.toInt64 32 &&& 63)) ||| ((Int32.toInt64 z) &&& 4294967295))]) (rest := []) (st2 := []) (r := none) (pc2 := 29) rfl rfl rfl hG rfl rfl ⟨Nat.le_of_ble_eq_true rfl, Nat.le_of_ble_eq_true rfl⟩ (sh_c218 hT hG (Or.inl h0)) rfl rfl ?_)
    exact sh_To_le (sh_uB_le rfl) (sh_wret (i := .return_) (len := 1) (r := none) rfl rfl rfl)
  · by_cases h1 : x = 1
    · rw [if_pos (Or.inr h1)]
      refine sh_w (i := (.iload_n 1)) (len := 1) (pc2 := 1) (lv2 := [(0, .ref 1), (1, .int x), (2, .int y), (3, .int z)]) (st2 := [.int x]) (h2 := (sh_rep T I J)) rfl rfl rfl ?_
      refine sh_j0 (c := .eq) (off := (8)) (pc2 := 4) false rfl (sh_Beqf h0) rfl ?_
      refine sh_w (i := (.iload_n 1)) (len := 1) (pc2 := 5) (lv2 := [(0, .ref 1), (1, .int x), (2, .int y), (3, .int z)]) (st2 := [.int x]) (h2 := (sh_rep T I J)) rfl rfl rfl ?_
      refine sh_w (i := (.iconst 1)) (len := 1) (pc2 := 6) (lv2 := [(0, .ref 1), (1, .int x), (2, .int y), (3, .int z)]) (st2 := [.int 1, .int x]) (h2 := (sh_rep T I J)) rfl rfl rfl ?_
      refine sh_jc (c := .ne) (off := (23)) (pc2 := 9) false rfl (sh_Bnef h1) rfl ?_
      refine sh_w (i := (.aload_n 0)) (len := 1) (pc2 := 10) (lv2 := [(0, .ref 1), (1, .int x), (2, .int y), (3, .int z)]) (st2 := [.ref 1]) (h2 := (sh_rep T I J)) rfl rfl rfl ?_
      refine sh_gR1 (len := 3) (x := .ref 62) (pc2 := 13) rfl rfl (sh_s0 hT) rfl rfl ?_
      refine sh_w (i := (.iload_n 1)) (len := 1) (pc2 := 14) (lv2 := [(0, .ref 1), (1, .int x), (2, .int y), (3, .int z)]) (st2 := [.int x, .ref 62]) (h2 := (sh_rep T I J)) rfl rfl rfl ?_
      refine sh_w (i := (.iload_n 2)) (len := 1) (pc2 := 15) (lv2 := [(0, .ref 1), (1, .int x), (2, .int y), (3, .int z)]) (st2 := [.int y, .int x, .ref 62]) (h2 := (sh_rep T I J)) rfl rfl rfl ?_
      refine sh_w (i := .i2l) (len := 1) (pc2 := 16) (lv2 := [(0, .ref 1), (1, .int x), (2, .int y), (3, .int z)]) (st2 := [.long (Int32.toInt64 y), .int x, .ref 62]) (h2 := (sh_rep T I J)) rfl rfl rfl ?_
      refine sh_w (i := (.bipush 32)) (len := 2) (pc2 := 18) (lv2 := [(0, .ref 1), (1, .int x), (2, .int y), (3, .int z)]) (st2 := [.int 32, .long (Int32.toInt64 y), .int x, .ref 62]) (h2 := (sh_rep T I J)) rfl rfl rfl ?_
      refine sh_w (i := .lshl) (len := 1) (pc2 := 19) (lv2 := [(0, .ref 1), (1, .int x), (2, .int y), (3, .int z)]) (st2 := [.long ((Int32.toInt64 y) <<< (Int32.toInt64 32 &&& 63)), .int x, .ref 62]) (h2 := (sh_rep T I J)) rfl rfl rfl ?_
      refine sh_w (i := (.iload_n 3)) (len := 1) (pc2 := 20) (lv2 := [(0, .ref 1), (1, .int x), (2, .int y), (3, .int z)]) (st2 := [.int z, .long ((Int32.toInt64 y) <<< (Int32.toInt64 32 &&& 63)), .int x, .ref 62]) (h2 := (sh_rep T I J)) rfl rfl rfl ?_
      refine sh_w (i := .i2l) (len := 1) (pc2 := 21) (lv2 := [(0, .ref 1), (1, .int x), (2, .int y), (3, .int z)]) (st2 := [.long (Int32.toInt64 z), .long ((Int32.toInt64 y) <<< (Int32.toInt64 32 &&& 63)), .int x, .ref 62]) (h2 := (sh_rep T I J)) rfl rfl rfl ?_
      refine sh_w (i := (.ldc2_w 146)) (len := 3) (pc2 := 24) (lv2 := [(0, .ref 1), (1, .int x), (2, .int y), (3, .int z)]) (st2 := [.long 4294967295, .long (Int32.toInt64 z), .long ((Int32.toInt64 y) <<< (Int32.toInt64 32 &&& 63)), .int x, .ref 62]) (h2 := (sh_rep T I J)) rfl rfl rfl ?_
      refine sh_w (i := .land) (len := 1) (pc2 := 25) (lv2 := [(0, .ref 1), (1, .int x), (2, .int y), (3, .int z)]) (st2 := [.long ((Int32.toInt64 z) &&& 4294967295), .long ((Int32.toInt64 y) <<< (Int32.toInt64 32 &&& 63)), .int x, .ref 62]) (h2 := (sh_rep T I J)) rfl rfl rfl ?_
      refine sh_w (i := .lor) (len := 1) (pc2 := 26) (lv2 := [(0, .ref 1), (1, .int x), (2, .int y), (3, .int z)]) (st2 := [.long (((Int32.toInt64 y) <<< (Int32.toInt64 32 &&& 63)) ||| ((Int32.toInt64 z) &&& 4294967295)), .int x, .ref 62]) (h2 := (sh_rep T I J)) rfl rfl rfl ?_
      refine sh_To_le (v := sh_seq (sh_L sh_G0 218) (0, 0, 10, 300) (0, 0, 20, 400)) (sh_uB_le rfl) (sh_cV (k2 := 218) (a := 61) (as := [.ref 62, .int x, .long (((Int32.toInt64 y) <<< (Int32.toInt64 32 &&& 63)) ||| ((Int32.toInt64 z) &&& 4294967295))]) (rest := []) (st2 := []) (r := none) (pc2 := 29) rfl rfl rfl hG rfl rfl ⟨Nat.le_of_ble_eq_true rfl, Nat.le_of_ble_eq_true rfl⟩ (sh_c218 hT hG (Or.inr h1)) rfl rfl ?_)
      exact sh_To_le (sh_uB_le rfl) (sh_wret (i := .return_) (len := 1) (r := none) rfl rfl rfl)
    · rw [if_neg (by simp [h0, h1])]
      refine sh_w (i := (.iload_n 1)) (len := 1) (pc2 := 1) (lv2 := [(0, .ref 1), (1, .int x), (2, .int y), (3, .int z)]) (st2 := [.int x]) (h2 := (sh_rep T I J)) rfl rfl rfl ?_
      refine sh_j0 (c := .eq) (off := (8)) (pc2 := 4) false rfl (sh_Beqf h0) rfl ?_
      refine sh_w (i := (.iload_n 1)) (len := 1) (pc2 := 5) (lv2 := [(0, .ref 1), (1, .int x), (2, .int y), (3, .int z)]) (st2 := [.int x]) (h2 := (sh_rep T I J)) rfl rfl rfl ?_
      refine sh_w (i := (.iconst 1)) (len := 1) (pc2 := 6) (lv2 := [(0, .ref 1), (1, .int x), (2, .int y), (3, .int z)]) (st2 := [.int 1, .int x]) (h2 := (sh_rep T I J)) rfl rfl rfl ?_
      refine sh_jc (c := .ne) (off := (23)) (pc2 := 29) true rfl (sh_Bnet h1) rfl ?_
      exact sh_To_le (sh_uB_le rfl) (sh_wret (i := .return_) (len := 1) (r := none) rfl rfl rfl)
theorem sh_c333n {x : Int32} (hT : sh_St T) (hn : I 66 4 = 0) : sh_To sh_G0 sc 333 0 [(0, .ref 67), (1, .int x)] [] (sh_rep T I J) (.returned (some (.int (-1)))) (sh_rep T (sh_u2 I 66 0 0) J) (0, 0, 20, 400) := by
  refine sh_w (i := (.aload_n 0)) (len := 1) (pc2 := 1) (lv2 := [(0, .ref 67), (1, .int x)]) (st2 := [.ref 67]) (h2 := (sh_rep T I J)) rfl rfl rfl ?_
  refine sh_w (i := (.iconst 0)) (len := 1) (pc2 := 2) (lv2 := [(0, .ref 67), (1, .int x)]) (st2 := [.int 0, .ref 67]) (h2 := (sh_rep T I J)) rfl rfl rfl ?_
  refine sh_pI1 (x := 0) (pc2 := 5) rfl rfl (sh_s66 hT) rfl rfl rfl rfl ?_
  refine sh_w (i := (.aload_n 0)) (len := 1) (pc2 := 6) (lv2 := [(0, .ref 67), (1, .int x)]) (st2 := [.ref 67]) (h2 := (sh_rep T (sh_u2 I 66 0 0) J)) rfl rfl rfl ?_
  refine sh_gI1 (len := 3) (x := I 66 4) (pc2 := 9) rfl rfl (sh_s66 hT) rfl rfl rfl ?_
  refine sh_j0 (c := .eq) (off := (13)) (pc2 := 22) true rfl (sh_Beqt hn) rfl ?_
  refine sh_w (i := (.iconst (-1))) (len := 1) (pc2 := 23) (lv2 := [(0, .ref 67), (1, .int x)]) (st2 := [.int (-1)]) (h2 := (sh_rep T (sh_u2 I 66 0 0) J)) rfl rfl rfl ?_
  exact sh_To_le (sh_uB_le rfl) (sh_wret (i := .ireturn) (len := 1) (r := some (.int (-1))) rfl rfl rfl)
theorem sh_c338n (hT : sh_St T) (hn : I 66 4 = 0) : sh_To sh_G0 sc 338 0 [(0, .ref 67)] [] (sh_rep T I J) (.returned (some (.int 0))) (sh_rep T (sh_u2 I 66 0 0) J) (0, 0, 20, 400) := by
  refine sh_w (i := (.aload_n 0)) (len := 1) (pc2 := 1) (lv2 := [(0, .ref 67)]) (st2 := [.ref 67]) (h2 := (sh_rep T I J)) rfl rfl rfl ?_
  refine sh_w (i := (.iconst 0)) (len := 1) (pc2 := 2) (lv2 := [(0, .ref 67)]) (st2 := [.int 0, .ref 67]) (h2 := (sh_rep T I J)) rfl rfl rfl ?_
  refine sh_pI1 (x := 0) (pc2 := 5) rfl rfl (sh_s66 hT) rfl rfl rfl rfl ?_
  refine sh_w (i := (.aload_n 0)) (len := 1) (pc2 := 6) (lv2 := [(0, .ref 67)]) (st2 := [.ref 67]) (h2 := (sh_rep T (sh_u2 I 66 0 0) J)) rfl rfl rfl ?_
  refine sh_gI1 (len := 3) (x := I 66 4) (pc2 := 9) rfl rfl (sh_s66 hT) rfl rfl rfl ?_
  refine sh_j0 (c := .ne) (off := (5)) (pc2 := 12) false rfl (sh_Bnef hn) rfl ?_
  refine sh_w (i := (.iconst 0)) (len := 1) (pc2 := 13) (lv2 := [(0, .ref 67)]) (st2 := [.int 0]) (h2 := (sh_rep T (sh_u2 I 66 0 0) J)) rfl rfl rfl ?_
  exact sh_To_le (sh_uB_le rfl) (sh_wret (i := .ireturn) (len := 1) (r := some (.int 0)) rfl rfl rfl)
theorem sh_c335n {x y : Int32} (hT : sh_St T) (hn : ¬ (0 : Int32) < I 66 4) : sh_To sh_G0 sc 335 0 [(0, .ref 67), (1, .int x), (2, .int y)] [] (sh_rep T I J) (.returned (some (.int 0))) (sh_rep T I J) (0, 0, 10, 300) := by
  refine sh_w (i := (.aload_n 0)) (len := 1) (pc2 := 1) (lv2 := [(0, .ref 67), (1, .int x), (2, .int y)]) (st2 := [.ref 67]) (h2 := (sh_rep T I J)) rfl rfl rfl ?_
  refine sh_gI1 (len := 3) (x := I 66 4) (pc2 := 4) rfl rfl (sh_s66 hT) rfl rfl rfl ?_
  refine sh_j0 (c := .le) (off := (30)) (pc2 := 34) true rfl (sh_Blet hn) rfl ?_
  refine sh_w (i := (.iconst 0)) (len := 1) (pc2 := 35) (lv2 := [(0, .ref 67), (1, .int x), (2, .int y)]) (st2 := [.int 0]) (h2 := (sh_rep T I J)) rfl rfl rfl ?_
  exact sh_To_le (sh_uB_le rfl) (sh_wret (i := .ireturn) (len := 1) (r := some (.int 0)) rfl rfl rfl)
theorem sh_c334n {x y : Int32} (hT : sh_St T) (hn : ¬ (0 : Int32) < I 66 4) : sh_To sh_G0 sc 334 0 [(0, .ref 67), (1, .int x), (2, .int y)] [] (sh_rep T I J) (.returned (some (.int 0))) (sh_rep T (sh_u2 I 66 0 1) J) (0, 0, 20, 400) := by
  refine sh_w (i := (.aload_n 0)) (len := 1) (pc2 := 1) (lv2 := [(0, .ref 67), (1, .int x), (2, .int y)]) (st2 := [.ref 67]) (h2 := (sh_rep T I J)) rfl rfl rfl ?_
  refine sh_w (i := (.aload_n 0)) (len := 1) (pc2 := 2) (lv2 := [(0, .ref 67), (1, .int x), (2, .int y)]) (st2 := [.ref 67, .ref 67]) (h2 := (sh_rep T I J)) rfl rfl rfl ?_
  refine sh_w (i := (.iload_n 1)) (len := 1) (pc2 := 3) (lv2 := [(0, .ref 67), (1, .int x), (2, .int y)]) (st2 := [.int x, .ref 67, .ref 67]) (h2 := (sh_rep T I J)) rfl rfl rfl ?_
  refine sh_w (i := (.iload_n 2)) (len := 1) (pc2 := 4) (lv2 := [(0, .ref 67), (1, .int x), (2, .int y)]) (st2 := [.int y, .int x, .ref 67, .ref 67]) (h2 := (sh_rep T I J)) rfl rfl rfl ?_
  refine sh_To_le (v := sh_seq (sh_L sh_G0 335) (0, 0, 10, 300) (0, 0, 20, 400)) (sh_uB_le rfl) (sh_cV (k2 := 335) (a := 66) (as := [.ref 67, .int x, .int y]) (rest := [.ref 67]) (st2 := [.int 0, .ref 67]) (r := (some (.int 0))) (pc2 := 7) rfl rfl rfl (sh_s66 hT) rfl rfl ⟨Nat.le_of_ble_eq_true rfl, Nat.le_of_ble_eq_true rfl⟩ (sh_c335n hT hn) rfl rfl ?_)
  refine sh_j0 (c := .eq) (off := (7)) (pc2 := 14) true rfl rfl rfl ?_
  refine sh_w (i := (.iconst 1)) (len := 1) (pc2 := 15) (lv2 := [(0, .ref 67), (1, .int x), (2, .int y)]) (st2 := [.int 1, .ref 67]) (h2 := (sh_rep T I J)) rfl rfl rfl ?_
  refine sh_pI1 (x := 1) (pc2 := 18) rfl rfl (sh_s66 hT) rfl rfl rfl rfl ?_
  refine sh_w (i := (.aload_n 0)) (len := 1) (pc2 := 19) (lv2 := [(0, .ref 67), (1, .int x), (2, .int y)]) (st2 := [.ref 67]) (h2 := (sh_rep T (sh_u2 I 66 0 1) J)) rfl rfl rfl ?_
  refine sh_gI1 (len := 3) (x := 1) (pc2 := 22) rfl rfl (sh_s66 hT) rfl rfl rfl ?_
  refine sh_j0 (c := .ne) (off := (18)) (pc2 := 40) true rfl rfl rfl ?_
  refine sh_w (i := (.iconst 0)) (len := 1) (pc2 := 41) (lv2 := [(0, .ref 67), (1, .int x), (2, .int y)]) (st2 := [.int 0]) (h2 := (sh_rep T (sh_u2 I 66 0 1) J)) rfl rfl rfl ?_
  exact sh_To_le (sh_uB_le rfl) (sh_wret (i := .ireturn) (len := 1) (r := some (.int 0)) rfl rfl rfl)
theorem sh_c336n {x y z t : Int32} (hT : sh_St T) (hn : ¬ (0 : Int32) < I 66 4) : sh_To sh_G0 sc 336 0 [(0, .ref 67), (1, .int x), (2, .int y), (3, .int z), (4, .int t)] [] (sh_rep T I J) (.returned (none)) (sh_rep T (sh_u2 I 66 0 1) J) (0, 0, 20, 400) := by
  by_cases h0 : x < 2
  · skip
    refine sh_w (i := (.aload_n 0)) (len := 1) (pc2 := 1) (lv2 := [(0, .ref 67), (1, .int x), (2, .int y), (3, .int z), (4, .int t)]) (st2 := [.ref 67]) (h2 := (sh_rep T I J)) rfl rfl rfl ?_
    refine sh_w (i := (.iload_n 1)) (len := 1) (pc2 := 2) (lv2 := [(0, .ref 67), (1, .int x), (2, .int y), (3, .int z), (4, .int t)]) (st2 := [.int x, .ref 67]) (h2 := (sh_rep T I J)) rfl rfl rfl ?_
    refine sh_w (i := (.iconst 2)) (len := 1) (pc2 := 3) (lv2 := [(0, .ref 67), (1, .int x), (2, .int y), (3, .int z), (4, .int t)]) (st2 := [.int 2, .int x, .ref 67]) (h2 := (sh_rep T I J)) rfl rfl rfl ?_
    refine sh_jc (c := .ge) (off := (16)) (pc2 := 6) false rfl (sh_Bgef h0) rfl ?_
    refine sh_w (i := (.aload_n 0)) (len := 1) (pc2 := 7) (lv2 := [(0, .ref 67), (1, .int x), (2, .int y), (3, .int z), (4, .int t)]) (st2 := [.ref 67, .ref 67]) (h2 := (sh_rep T I J)) rfl rfl rfl ?_
    refine sh_w (i := (.iload_n 1)) (len := 1) (pc2 := 8) (lv2 := [(0, .ref 67), (1, .int x), (2, .int y), (3, .int z), (4, .int t)]) (st2 := [.int x, .ref 67, .ref 67]) (h2 := (sh_rep T I J)) rfl rfl rfl ?_
    refine sh_w (i := (.iload_n 2)) (len := 1) (pc2 := 9) (lv2 := [(0, .ref 67), (1, .int x), (2, .int y), (3, .int z), (4, .int t)]) (st2 := [.int y, .int x, .ref 67, .ref 67]) (h2 := (sh_rep T I J)) rfl rfl rfl ?_
    refine sh_To_le (v := sh_seq (sh_L sh_G0 335) (0, 0, 10, 300) (0, 0, 20, 400)) (sh_uB_le rfl) (sh_cV (k2 := 335) (a := 66) (as := [.ref 67, .int x, .int y]) (rest := [.ref 67]) (st2 := [.int 0, .ref 67]) (r := (some (.int 0))) (pc2 := 12) rfl rfl rfl (sh_s66 hT) rfl rfl ⟨Nat.le_of_ble_eq_true rfl, Nat.le_of_ble_eq_true rfl⟩ (sh_c335n hT hn) rfl rfl ?_)
    refine sh_j0 (c := .eq) (off := (7)) (pc2 := 19) true rfl rfl rfl ?_
    refine sh_w (i := (.iconst 1)) (len := 1) (pc2 := 20) (lv2 := [(0, .ref 67), (1, .int x), (2, .int y), (3, .int z), (4, .int t)]) (st2 := [.int 1, .ref 67]) (h2 := (sh_rep T I J)) rfl rfl rfl ?_
    refine sh_pI1 (x := 1) (pc2 := 23) rfl rfl (sh_s66 hT) rfl rfl rfl rfl ?_
    refine sh_w (i := (.aload_n 0)) (len := 1) (pc2 := 24) (lv2 := [(0, .ref 67), (1, .int x), (2, .int y), (3, .int z), (4, .int t)]) (st2 := [.ref 67]) (h2 := (sh_rep T (sh_u2 I 66 0 1) J)) rfl rfl rfl ?_
    refine sh_gI1 (len := 3) (x := 1) (pc2 := 27) rfl rfl (sh_s66 hT) rfl rfl rfl ?_
    refine sh_w (i := (.iconst 1)) (len := 1) (pc2 := 28) (lv2 := [(0, .ref 67), (1, .int x), (2, .int y), (3, .int z), (4, .int t)]) (st2 := [.int 1, .int 1]) (h2 := (sh_rep T (sh_u2 I 66 0 1) J)) rfl rfl rfl ?_
    refine sh_jc (c := .ne) (off := (4)) (pc2 := 31) false rfl rfl rfl ?_
    exact sh_To_le (sh_uB_le rfl) (sh_wret (i := .return_) (len := 1) (r := none) rfl rfl rfl)
  · skip
    refine sh_w (i := (.aload_n 0)) (len := 1) (pc2 := 1) (lv2 := [(0, .ref 67), (1, .int x), (2, .int y), (3, .int z), (4, .int t)]) (st2 := [.ref 67]) (h2 := (sh_rep T I J)) rfl rfl rfl ?_
    refine sh_w (i := (.iload_n 1)) (len := 1) (pc2 := 2) (lv2 := [(0, .ref 67), (1, .int x), (2, .int y), (3, .int z), (4, .int t)]) (st2 := [.int x, .ref 67]) (h2 := (sh_rep T I J)) rfl rfl rfl ?_
    refine sh_w (i := (.iconst 2)) (len := 1) (pc2 := 3) (lv2 := [(0, .ref 67), (1, .int x), (2, .int y), (3, .int z), (4, .int t)]) (st2 := [.int 2, .int x, .ref 67]) (h2 := (sh_rep T I J)) rfl rfl rfl ?_
    refine sh_jc (c := .ge) (off := (16)) (pc2 := 19) true rfl (sh_Bget h0) rfl ?_
    refine sh_w (i := (.iconst 1)) (len := 1) (pc2 := 20) (lv2 := [(0, .ref 67), (1, .int x), (2, .int y), (3, .int z), (4, .int t)]) (st2 := [.int 1, .ref 67]) (h2 := (sh_rep T I J)) rfl rfl rfl ?_
    refine sh_pI1 (x := 1) (pc2 := 23) rfl rfl (sh_s66 hT) rfl rfl rfl rfl ?_
    refine sh_w (i := (.aload_n 0)) (len := 1) (pc2 := 24) (lv2 := [(0, .ref 67), (1, .int x), (2, .int y), (3, .int z), (4, .int t)]) (st2 := [.ref 67]) (h2 := (sh_rep T (sh_u2 I 66 0 1) J)) rfl rfl rfl ?_
    refine sh_gI1 (len := 3) (x := 1) (pc2 := 27) rfl rfl (sh_s66 hT) rfl rfl rfl ?_
    refine sh_w (i := (.iconst 1)) (len := 1) (pc2 := 28) (lv2 := [(0, .ref 67), (1, .int x), (2, .int y), (3, .int z), (4, .int t)]) (st2 := [.int 1, .int 1]) (h2 := (sh_rep T (sh_u2 I 66 0 1) J)) rfl rfl rfl ?_
    refine sh_jc (c := .ne) (off := (4)) (pc2 := 31) false rfl rfl rfl ?_
    exact sh_To_le (sh_uB_le rfl) (sh_wret (i := .return_) (len := 1) (r := none) rfl rfl rfl)
theorem sh_c337 {x y z : Int32} (hT : sh_St T) : sh_To sh_G0 sc 337 0 [(0, .ref 67), (1, .int x), (2, .int y), (3, .int z)] [] (sh_rep T I J) (.returned (none)) (sh_rep T (sh_u2 I 66 0 0) J) (0, 0, 20, 400) := by
  refine sh_w (i := (.aload_n 0)) (len := 1) (pc2 := 1) (lv2 := [(0, .ref 67), (1, .int x), (2, .int y), (3, .int z)]) (st2 := [.ref 67]) (h2 := (sh_rep T I J)) rfl rfl rfl ?_
  refine sh_w (i := (.iconst 0)) (len := 1) (pc2 := 2) (lv2 := [(0, .ref 67), (1, .int x), (2, .int y), (3, .int z)]) (st2 := [.int 0, .ref 67]) (h2 := (sh_rep T I J)) rfl rfl rfl ?_
  refine sh_pI1 (x := 0) (pc2 := 5) rfl rfl (sh_s66 hT) rfl rfl rfl rfl ?_
  exact sh_To_le (sh_uB_le rfl) (sh_wret (i := .return_) (len := 1) (r := none) rfl rfl rfl)
theorem sh_c340n {x : Int32} (hT : sh_St T) (hr : I 66 5 = 0) : sh_To sh_G0 sc 340 0 [(0, .ref 67), (1, .int x)] [] (sh_rep T I J) (.returned (some (.long 0))) (sh_rep T (sh_u2 I 66 0 1) J) (0, 0, 20, 400) := by
  refine sh_w (i := (.aload_n 0)) (len := 1) (pc2 := 1) (lv2 := [(0, .ref 67), (1, .int x)]) (st2 := [.ref 67]) (h2 := (sh_rep T I J)) rfl rfl rfl ?_
  refine sh_w (i := (.aload_n 0)) (len := 1) (pc2 := 2) (lv2 := [(0, .ref 67), (1, .int x)]) (st2 := [.ref 67, .ref 67]) (h2 := (sh_rep T I J)) rfl rfl rfl ?_
  refine sh_gI1 (len := 3) (x := I 66 5) (pc2 := 5) rfl rfl (sh_s66 hT) rfl rfl rfl ?_
  refine sh_j0 (c := .eq) (off := (28)) (pc2 := 33) true rfl (sh_Beqt hr) rfl ?_
  refine sh_w (i := (.iconst 1)) (len := 1) (pc2 := 34) (lv2 := [(0, .ref 67), (1, .int x)]) (st2 := [.int 1, .ref 67]) (h2 := (sh_rep T I J)) rfl rfl rfl ?_
  refine sh_pI1 (x := 1) (pc2 := 37) rfl rfl (sh_s66 hT) rfl rfl rfl rfl ?_
  refine sh_w (i := (.aload_n 0)) (len := 1) (pc2 := 38) (lv2 := [(0, .ref 67), (1, .int x)]) (st2 := [.ref 67]) (h2 := (sh_rep T (sh_u2 I 66 0 1) J)) rfl rfl rfl ?_
  refine sh_gI1 (len := 3) (x := 1) (pc2 := 41) rfl rfl (sh_s66 hT) rfl rfl rfl ?_
  refine sh_j0 (c := .ne) (off := (12)) (pc2 := 53) true rfl rfl rfl ?_
  refine sh_w (i := (.lconst 0)) (len := 1) (pc2 := 54) (lv2 := [(0, .ref 67), (1, .int x)]) (st2 := [.long 0]) (h2 := (sh_rep T (sh_u2 I 66 0 1) J)) rfl rfl rfl ?_
  exact sh_To_le (sh_uB_le rfl) (sh_wret (i := .lreturn) (len := 1) (r := some (.long 0)) rfl rfl rfl)
end Small
