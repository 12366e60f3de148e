/-! TEXTS: String's length, charAt, indexOf on the texts of the two classes -/
theorem sh_txs_none {j : Nat} (h : 27 ≤ j) : sh_txs j = [] := by
  unfold sh_txs
  split <;> first | omega | rfl
set_option maxRecDepth 100000 in
theorem sh_bT_all : ((List.range 27).all (fun j => decide (sh_bT.getD j [] = (sh_txs j).map Int32.ofNat))) = true := by decide +kernel
theorem sh_bT_tx (j : Nat) : sh_gB sh_G0 j = (sh_txs j).map Int32.ofNat := by
  rcases Nat.lt_or_ge j 27 with hj | hj
  · exact of_decide_eq_true (List.all_eq_true.mp sh_bT_all j (List.mem_range.mpr hj))
  · rw [sh_txs_none hj]
    show sh_bT.getD j [] = []
    rw [List.getD_eq_getElem?_getD, List.getElem?_eq_none (by show 27 ≤ j; exact hj)]
    rfl
set_option maxRecDepth 100000 in
theorem sh_tx_all : ((List.range 27).all (fun j => (sh_txs j).all (fun b => decide (b < 128)))) = true := by decide +kernel
theorem sh_tx_lt128 {j b : Nat} (h : b ∈ sh_txs j) : b < 128 := by
  rcases Nat.lt_or_ge j 27 with hj | hj
  · exact of_decide_eq_true (List.all_eq_true.mp (List.all_eq_true.mp sh_tx_all j (List.mem_range.mpr hj)) b h)
  · rw [sh_txs_none hj] at h
    cases h
set_option maxRecDepth 100000 in
theorem sh_txn_all : ((List.range 27).all (fun j => decide (sh_txn j < 100))) = true := by decide +kernel
theorem sh_txn_lt (j : Nat) : sh_txn j < 100 := by
  rcases Nat.lt_or_ge j 27 with hj | hj
  · exact of_decide_eq_true (List.all_eq_true.mp sh_txn_all j (List.mem_range.mpr hj))
  · unfold sh_txn
    rw [sh_txs_none hj]
    decide
theorem sh_isTx {b j : Nat} (hj : 0 < sh_txn j) : sh_isT sh_G0 b (b + j) = true := by
  unfold sh_isT
  rw [Nat.add_sub_cancel_left, sh_bT_tx]
  unfold sh_txn at hj
  cases hx : sh_txs j with
  | nil => rw [hx] at hj; cases hj
  | cons a r => simp
theorem sh_onI {n : Nat} (h : n < 2147483648) : (Int32.ofNat n).toInt = n := Int32.toInt_ofNat_of_lt h
section Text
variable {sc : sh_S} {k pc : Nat} {lv : sh_Ls} {r : List Value} {h h3 : sh_H} {o : Outcome} {v : sh_U} {j : Nat}
theorem sh_tF0 {idx pc2 : Nat} (hi : sh_gI sh_G0 k pc = some (.getfield idx, 3)) (hF : sh_gF sh_G0 (sh_On sh_G0 k) idx = none) (hT : sh_gT sh_G0 (sh_On sh_G0 k) idx = some 0) (hj : 0 < sh_txn j) (hp : pc + 3 = pc2) (kk : sh_To sh_G0 sc k pc2 lv (.ref (2000001 + j) :: r) h o h3 v) : sh_To sh_G0 sc k pc lv (.ref (1000001 + j) :: r) h o h3 v := by
  subst hp
  refine sh_w hi rfl (sh_alt_r (x := sh_get sh_G0 k idx pc lv (.ref (1000001 + j) :: r) h) (y := sh_getK sh_G0 k idx pc lv (.ref (1000001 + j) :: r) h) ?_ ?_) kk
  · unfold sh_get
    rw [show 1000001 + j = (1000000 + j) + 1 by omega]
    dsimp only
    rw [hF]
  · unfold sh_getK
    dsimp only
    rw [if_pos (sh_isTx hj), hT]
    dsimp only
    rw [Nat.add_sub_cancel_left]
theorem sh_tF1 {idx pc2 : Nat} (hi : sh_gI sh_G0 k pc = some (.getfield idx, 3)) (hF : sh_gF sh_G0 (sh_On sh_G0 k) idx = none) (hT : sh_gT sh_G0 (sh_On sh_G0 k) idx = some 1) (hj : 0 < sh_txn j) (hp : pc + 3 = pc2) (kk : sh_To sh_G0 sc k pc2 lv (.int 0 :: r) h o h3 v) : sh_To sh_G0 sc k pc lv (.ref (1000001 + j) :: r) h o h3 v := by
  subst hp
  refine sh_w hi rfl (sh_alt_r (x := sh_get sh_G0 k idx pc lv (.ref (1000001 + j) :: r) h) (y := sh_getK sh_G0 k idx pc lv (.ref (1000001 + j) :: r) h) ?_ ?_) kk
  · unfold sh_get
    rw [show 1000001 + j = (1000000 + j) + 1 by omega]
    dsimp only
    rw [hF]
  · unfold sh_getK
    dsimp only
    rw [if_pos (sh_isTx hj), hT]
theorem sh_tAl {pc2 : Nat} (hi : sh_gI sh_G0 k pc = some (.arraylength, 1)) (hh : h.length ≤ 1000000) (hj : 0 < sh_txn j) (hp : pc + 1 = pc2) (kk : sh_To sh_G0 sc k pc2 lv (.int (sh_txl j) :: r) h o h3 v) : sh_To sh_G0 sc k pc lv (.ref (2000001 + j) :: r) h o h3 v := by
  subst hp
  refine sh_w hi rfl (sh_alt_r (x := sh_al0 sc pc lv (.ref (2000001 + j) :: r) h) (y := sh_alK sh_G0 pc lv (.ref (2000001 + j) :: r) h) ?_ ?_) kk
  · unfold sh_al0
    rw [show 2000001 + j = (2000000 + j) + 1 by omega]
    dsimp only
    rw [List.getElem?_eq_none (by omega)]
  · unfold sh_alK
    dsimp only
    rw [if_pos (sh_isTx hj), Nat.add_sub_cancel_left, sh_bT_tx, List.length_map]
    rfl
theorem sh_tBa {pc2 : Nat} {i : Int32} (hi : sh_gI sh_G0 k pc = some (.baload, 1)) (hh : h.length ≤ 1000000) (ho : sh_okb i (sh_txn j) = true) (hp : pc + 1 = pc2) (kk : sh_To sh_G0 sc k pc2 lv (.int (sh_txc j i) :: r) h o h3 v) : sh_To sh_G0 sc k pc lv (.int i :: .ref (2000001 + j) :: r) h o h3 v := by
  subst hp
  have h0 := sh_okb1 ho
  have h1 := sh_okb2 ho
  refine sh_w hi rfl (sh_alt_r (x := sh_ald [1, 3] pc lv (.int i :: .ref (2000001 + j) :: r) h) (y := sh_baK sh_G0 pc lv (.int i :: .ref (2000001 + j) :: r) h) ?_ ?_) kk
  · unfold sh_ald
    rw [show 2000001 + j = (2000000 + j) + 1 by omega]
    dsimp only
    rw [List.getElem?_eq_none (by omega)]
  · unfold sh_baK
    dsimp only
    rw [Nat.add_sub_cancel_left, sh_bT_tx, if_pos ⟨sh_isTx (by omega), by rw [List.length_map]; show ¬ (i < 0 ∨ sh_txn j ≤ _); intro h9; rcases h9 with h9 | h9; exact h0 h9; omega⟩]
    have e : ((sh_txs j).map Int32.ofNat).getD i.toNatClampNeg 0 = sh_txc j i := by
      unfold sh_txc
      have h2 : i.toNatClampNeg < (sh_txs j).length := h1
      rw [List.getD_eq_getElem?_getD, List.getD_eq_getElem?_getD, List.getElem?_map, List.getElem?_eq_getElem h2]
      rfl
    rw [e]
theorem sh_tGz {idx pc2 : Nat} (hi : sh_gI sh_G0 k pc = some (.getstatic idx, 3)) (hz : sh_gZ sh_G0 (sh_On sh_G0 k) idx = some (.int 1)) (hp : pc + 3 = pc2) (kk : sh_To sh_G0 sc k pc2 lv (.int 1 :: r) h o h3 v) : sh_To sh_G0 sc k pc lv r h o h3 v := by
  subst hp
  refine sh_w hi rfl ?_ kk
  unfold sh_one
  dsimp only
  rw [hz]
theorem sh_tGf {idx pc2 q : Nat} (hi : sh_gI sh_G0 k pc = some (.getstatic idx, 3)) (hz : sh_gZ sh_G0 (sh_On sh_G0 k) idx = some (.ref q)) (hf : sh_isR sc.2 = true) (hp : pc + 3 = pc2) (kk : sh_To sh_G0 sc k pc2 lv (sc.2 :: r) h o h3 v) : sh_To sh_G0 sc k pc lv r h o h3 v := by
  subst hp
  refine sh_w hi rfl ?_ kk
  unfold sh_one
  dsimp only
  rw [hz]
  dsimp only
  rw [if_pos hf]
/-- a call on a text -/
theorem sh_cT7 {idx k2 pc2 : Nat} {st as rest st2 : List Value} {r : Option Value} {h2 : sh_H} {v1 : sh_U} (hi : sh_gI sh_G0 k pc = some (.invokevirtual idx, 3)) (hg : sh_gC sh_G0 (sh_On sh_G0 k) idx = some (7, k2)) (hd : st.drop (sh_P sh_G0 k2) = .ref (1000001 + j) :: rest) (hj : 0 < sh_txn j) (hc : (sh_Y sh_G0 k2).cls = "java/lang/String") (has : .ref (1000001 + j) :: (st.take (sh_P sh_G0 k2)).reverse = as) (hw : sh_wgt rest ≤ 8 ∧ sh_wgt as ≤ sh_L sh_G0 k2)
    (hm : sh_To sh_G0 sc k2 0 (lv_args 0 as) [] h (.returned r) h2 v1) (hst : r.toList ++ rest = st2) (hp : pc + 3 = pc2) (kk : sh_To sh_G0 sc k pc2 lv st2 h2 o h3 v) : sh_To sh_G0 sc k pc lv st h o h3 (sh_seq (sh_L sh_G0 k2) v1 v) := by
  subst hp
  subst hst
  refine sh_wcall hi rfl rfl (rest := rest) (as := as) (k2 := k2) ?_ hw hm kk
  unfold sh_ent
  simp only [hg, hd]
  show (if sh_isT sh_G0 1000001 (1000001 + j) = true ∧ (sh_Y sh_G0 k2).cls = "java/lang/String" then _ else none) = _
  rw [if_pos ⟨sh_isTx hj, hc⟩, has]
/-- String.isLatin1, String.coder -/
theorem sh_T343 (hj : 0 < sh_txn j) : sh_To sh_G0 sc 343 0 [(0, .ref (1000001 + j))] [] h (.returned (some (.int 1))) h (0, 0, 8, 200) := by
  refine sh_tGz (pc2 := 3) rfl rfl rfl ?_
  refine sh_j0 (pc2 := 6) false rfl rfl rfl ?_
  refine sh_w (i := .aload_n 0) (len := 1) (pc2 := 7) (lv2 := [(0, .ref (1000001 + j))]) (st2 := [.ref (1000001 + j)]) (h2 := h) rfl rfl rfl ?_
  refine sh_tF1 (pc2 := 10) rfl rfl rfl hj rfl ?_
  refine sh_j0 (pc2 := 13) false rfl rfl rfl ?_
  refine sh_w (i := .iconst 1) (len := 1) (pc2 := 14) (lv2 := [(0, .ref (1000001 + j))]) (st2 := [.int 1]) (h2 := h) rfl rfl rfl ?_
  refine sh_w (i := .goto 4) (len := 3) (pc2 := 18) (lv2 := [(0, .ref (1000001 + j))]) (st2 := [.int 1]) (h2 := h) rfl rfl rfl ?_
  exact sh_wret (i := .ireturn) (len := 1) rfl rfl rfl
theorem sh_T342 (hj : 0 < sh_txn j) : sh_To sh_G0 sc 342 0 [(0, .ref (1000001 + j))] [] h (.returned (some (.int 0))) h (0, 0, 8, 200) := by
  refine sh_tGz (pc2 := 3) rfl rfl rfl ?_
  refine sh_j0 (pc2 := 6) false rfl rfl rfl ?_
  refine sh_w (i := .aload_n 0) (len := 1) (pc2 := 7) (lv2 := [(0, .ref (1000001 + j))]) (st2 := [.ref (1000001 + j)]) (h2 := h) rfl rfl rfl ?_
  refine sh_tF1 (pc2 := 10) rfl rfl rfl hj rfl ?_
  refine sh_w (i := .goto 4) (len := 3) (pc2 := 14) (lv2 := [(0, .ref (1000001 + j))]) (st2 := [.int 0]) (h2 := h) rfl rfl rfl ?_
  exact sh_wret (i := .ireturn) (len := 1) rfl rfl rfl
theorem sh_shr0 (x : Int32) : x >>> ((0 : Int32) &&& 31) = x := by
  apply Int32.toInt_inj.mp
  rw [pk_shr x _ 0 (by decide)]
  simp
/-- String.length -/
theorem sh_T341 (hh : h.length ≤ 1000000) (hj : 0 < sh_txn j) : sh_To sh_G0 sc 341 0 [(0, .ref (1000001 + j))] [] h (.returned (some (.int (sh_txl j)))) h (0, 0, 9, 220) := by
  refine sh_w (i := .aload_n 0) (len := 1) (pc2 := 1) (lv2 := [(0, .ref (1000001 + j))]) (st2 := [.ref (1000001 + j)]) (h2 := h) rfl rfl rfl ?_
  refine sh_tF0 (pc2 := 4) rfl rfl rfl hj rfl ?_
  refine sh_tAl (pc2 := 5) rfl hh hj rfl ?_
  refine sh_w (i := .aload_n 0) (len := 1) (pc2 := 6) (lv2 := [(0, .ref (1000001 + j))]) (st2 := [.ref (1000001 + j), .int (sh_txl j)]) (h2 := h) rfl rfl rfl ?_
  refine sh_To_le (v := sh_seq 1 (0, 0, 8, 200) (0, 0, 8, 200)) ⟨Nat.le_of_ble_eq_true rfl, Nat.le_of_ble_eq_true rfl, Nat.le_of_ble_eq_true rfl, Nat.le_of_ble_eq_true rfl⟩ ?_
  refine sh_cT7 (k2 := 342) (pc2 := 9) (as := [.ref (1000001 + j)]) (rest := [.int (sh_txl j)]) (st2 := [.int 0, .int (sh_txl j)]) rfl rfl rfl hj rfl rfl ⟨Nat.le_of_ble_eq_true rfl, Nat.le_of_ble_eq_true rfl⟩ (sh_T342 hj) rfl rfl ?_
  refine sh_w (i := .ishr) (len := 1) (pc2 := 10) (lv2 := [(0, .ref (1000001 + j))]) (st2 := [.int (sh_txl j)]) (h2 := h) rfl rfl (by show some (_, _, [Value.int (sh_txl j >>> ((0 : Int32) &&& 31))], _, _, _) = _; rw [sh_shr0]) ?_
  exact sh_wret (i := .ireturn) (len := 1) rfl rfl rfl
/-- Preconditions.checkIndex, String.checkIndex, StringLatin1.charAt, String.charAt -/
theorem sh_T352 {i n : Int32} {w : Value} (h0 : ¬ i < 0) (h1 : i < n) : sh_To sh_G0 sc 352 0 [(0, .int i), (1, .int n), (2, w)] [] h (.returned (some (.int i))) h (0, 0, 8, 200) := by
  refine sh_w (i := .iload_n 0) (len := 1) (pc2 := 1) (lv2 := [(0, .int i), (1, .int n), (2, w)]) (st2 := [.int i]) (h2 := h) rfl rfl rfl ?_
  refine sh_j0 (pc2 := 4) false rfl (decide_eq_false h0) rfl ?_
  refine sh_w (i := .iload_n 0) (len := 1) (pc2 := 5) (lv2 := [(0, .int i), (1, .int n), (2, w)]) (st2 := [.int i]) (h2 := h) rfl rfl rfl ?_
  refine sh_w (i := .iload_n 1) (len := 1) (pc2 := 6) (lv2 := [(0, .int i), (1, .int n), (2, w)]) (st2 := [.int n, .int i]) (h2 := h) rfl rfl rfl ?_
  refine sh_jc (pc2 := 16) true rfl (decide_eq_true h1) rfl ?_
  refine sh_w (i := .iload_n 0) (len := 1) (pc2 := 17) (lv2 := [(0, .int i), (1, .int n), (2, w)]) (st2 := [.int i]) (h2 := h) rfl rfl rfl ?_
  exact sh_wret (i := .ireturn) (len := 1) rfl rfl rfl
theorem sh_isR_cat {w : Value} (h : sh_isR w = true) : w.category = 1 := by cases w <;> first | rfl | cases h
theorem sh_T345 {i n : Int32} (hf : sh_isR sc.2 = true) (h0 : ¬ i < 0) (h1 : i < n) : sh_To sh_G0 sc 345 0 [(0, .int i), (1, .int n)] [] h (.returned none) h (0, 0, 9, 222) := by
  refine sh_w (i := .iload_n 0) (len := 1) (pc2 := 1) (lv2 := [(0, .int i), (1, .int n)]) (st2 := [.int i]) (h2 := h) rfl rfl rfl ?_
  refine sh_w (i := .iload_n 1) (len := 1) (pc2 := 2) (lv2 := [(0, .int i), (1, .int n)]) (st2 := [.int n, .int i]) (h2 := h) rfl rfl rfl ?_
  refine sh_tGf (pc2 := 5) rfl rfl hf rfl ?_
  refine sh_To_le (v := sh_seq 3 (0, 0, 8, 200) (0, 0, 8, 200)) ⟨Nat.le_of_ble_eq_true rfl, Nat.le_of_ble_eq_true rfl, Nat.le_of_ble_eq_true rfl, Nat.le_of_ble_eq_true rfl⟩ ?_
  refine sh_cS (k2 := 352) (pc2 := 8) (as := [.int i, .int n, sc.2]) (rest := []) (st2 := [.int i]) (kd := 1) rfl rfl (Or.inl rfl) (Nat.le_of_ble_eq_true rfl) rfl rfl ⟨Nat.le_of_ble_eq_true rfl, ?_⟩ (hm := sh_T352 (h := h) h0 h1) rfl rfl ?_
  · show 1 + (1 + (sc.2.category + 0)) ≤ 3
    rw [sh_isR_cat hf]
    decide
  refine sh_w (i := .pop) (len := 1) (pc2 := 9) (lv2 := [(0, .int i), (1, .int n)]) (st2 := []) (h2 := h) rfl rfl rfl ?_
  exact sh_wret (i := .return_) (len := 1) rfl rfl rfl
theorem sh_txl_int (j : Nat) : (sh_txl j).toInt = sh_txn j := by
  have := sh_txn_lt j
  exact sh_onI (by omega)
theorem sh_ok_lt {i : Int32} (ho : sh_okb i (sh_txn j) = true) : i < sh_txl j := by
  have h0 := sh_okb1 ho
  have h1 := sh_okb2 ho
  rw [Int32.lt_iff_toInt_lt, sh_txl_int]
  rw [Int32.lt_iff_toInt_lt] at h0
  have h2 : i.toNatClampNeg = i.toInt.toNat := rfl
  simp at h0
  omega
theorem sh_txc_mem {i : Int32} (ho : sh_okb i (sh_txn j) = true) : ∃ b, b < 128 ∧ sh_txc j i = Int32.ofNat b := by
  have h1 : i.toNatClampNeg < (sh_txs j).length := sh_okb2 ho
  refine ⟨(sh_txs j)[i.toNatClampNeg], sh_tx_lt128 (List.getElem_mem _), ?_⟩
  unfold sh_txc
  rw [List.getD_eq_getElem?_getD, List.getElem?_eq_getElem h1]
  rfl
set_option maxRecDepth 100000 in
theorem sh_ascii : ((List.range 128).all (fun b => decide (((Int32.ofNat b &&& (Int16.ofInt 255).toInt32).toUInt32 % 65536).toInt32 = Int32.ofNat b) && decide (((Int32.ofNat b).toUInt32 % 65536).toInt32 = Int32.ofNat b))) = true := by decide +kernel
theorem sh_T348 {i : Int32} (hf : sh_isR sc.2 = true) (hh : h.length ≤ 1000000) (ho : sh_okb i (sh_txn j) = true) : sh_To sh_G0 sc 348 0 [(0, .ref (2000001 + j)), (1, .int i)] [] h (.returned (some (.int (sh_txc j i)))) h (0, 0, 10, 243) := by
  have hj : 0 < sh_txn j := Nat.lt_of_le_of_lt (Nat.zero_le _) (sh_okb2 ho)
  obtain ⟨b, hb, hc⟩ := sh_txc_mem ho
  have ha := List.all_eq_true.mp sh_ascii b (List.mem_range.mpr hb)
  simp only [Bool.and_eq_true, decide_eq_true_eq] at ha
  refine sh_w (i := .iload_n 1) (len := 1) (pc2 := 1) (lv2 := [(0, .ref (2000001 + j)), (1, .int i)]) (st2 := [.int i]) (h2 := h) rfl rfl rfl ?_
  refine sh_w (i := .aload_n 0) (len := 1) (pc2 := 2) (lv2 := [(0, .ref (2000001 + j)), (1, .int i)]) (st2 := [.ref (2000001 + j), .int i]) (h2 := h) rfl rfl rfl ?_
  refine sh_tAl (pc2 := 3) rfl hh hj rfl ?_
  refine sh_To_le (v := sh_seq 2 (0, 0, 9, 222) (0, 0, 8, 200)) ⟨Nat.le_of_ble_eq_true rfl, Nat.le_of_ble_eq_true rfl, Nat.le_of_ble_eq_true rfl, Nat.le_of_ble_eq_true rfl⟩ ?_
  refine sh_cS (k2 := 345) (pc2 := 6) (as := [.int i, .int (sh_txl j)]) (rest := []) (st2 := []) (kd := 1) rfl rfl (Or.inl rfl) (Nat.le_of_ble_eq_true rfl) rfl rfl ⟨Nat.le_of_ble_eq_true rfl, Nat.le_of_ble_eq_true rfl⟩ (hm := sh_T345 (h := h) hf (sh_okb1 ho) (sh_ok_lt ho)) rfl rfl ?_
  refine sh_w (i := .aload_n 0) (len := 1) (pc2 := 7) (lv2 := [(0, .ref (2000001 + j)), (1, .int i)]) (st2 := [.ref (2000001 + j)]) (h2 := h) rfl rfl rfl ?_
  refine sh_w (i := .iload_n 1) (len := 1) (pc2 := 8) (lv2 := [(0, .ref (2000001 + j)), (1, .int i)]) (st2 := [.int i, .ref (2000001 + j)]) (h2 := h) rfl rfl rfl ?_
  refine sh_tBa (pc2 := 9) rfl hh ho rfl ?_
  rw [hc]
  refine sh_w (i := .sipush 255) (len := 3) (pc2 := 12) (lv2 := [(0, .ref (2000001 + j)), (1, .int i)]) (st2 := [.int (Int16.ofInt 255).toInt32, .int (Int32.ofNat b)]) (h2 := h) rfl rfl rfl ?_
  refine sh_w (i := .iand) (len := 1) (pc2 := 13) (lv2 := [(0, .ref (2000001 + j)), (1, .int i)]) (st2 := [.int (Int32.ofNat b &&& (Int16.ofInt 255).toInt32)]) (h2 := h) rfl rfl rfl ?_
  refine sh_w (i := .i2c) (len := 1) (pc2 := 14) (lv2 := [(0, .ref (2000001 + j)), (1, .int i)]) (st2 := [.int (Int32.ofNat b)]) (h2 := h) rfl rfl (by show some (_, _, [Value.int ((Int32.ofNat b &&& (Int16.ofInt 255).toInt32).toUInt32 % 65536).toInt32], _, _, _) = _; rw [ha.1]) ?_
  exact sh_wret (i := .ireturn) (len := 1) rfl rfl (by show (if (((Int32.ofNat b).toUInt32 % 65536).toInt32 == Int32.ofNat b) = true then _ else none) = _; rw [ha.2]; simp)
theorem sh_T344 {i : Int32} (hf : sh_isR sc.2 = true) (hh : h.length ≤ 1000000) (ho : sh_okb i (sh_txn j) = true) : sh_To sh_G0 sc 344 0 [(0, .ref (1000001 + j)), (1, .int i)] [] h (.returned (some (.int (sh_txc j i)))) h (0, 0, 11, 264) := by
  have hj : 0 < sh_txn j := Nat.lt_of_le_of_lt (Nat.zero_le _) (sh_okb2 ho)
  obtain ⟨b, hb, hc⟩ := sh_txc_mem ho
  have ha := List.all_eq_true.mp sh_ascii b (List.mem_range.mpr hb)
  simp only [Bool.and_eq_true, decide_eq_true_eq] at ha
  refine sh_w (i := .aload_n 0) (len := 1) (pc2 := 1) (lv2 := [(0, .ref (1000001 + j)), (1, .int i)]) (st2 := [.ref (1000001 + j)]) (h2 := h) rfl rfl rfl ?_
  refine sh_To_le (v := sh_seq 1 (0, 0, 8, 200) (0, 0, 11, 264)) ⟨Nat.le_of_ble_eq_true rfl, Nat.le_of_ble_eq_true rfl, Nat.le_of_ble_eq_true rfl, Nat.le_of_ble_eq_true rfl⟩ ?_
  refine sh_cT7 (k2 := 343) (pc2 := 4) (as := [.ref (1000001 + j)]) (rest := []) (st2 := [.int 1]) rfl rfl rfl hj rfl rfl ⟨Nat.le_of_ble_eq_true rfl, Nat.le_of_ble_eq_true rfl⟩ (sh_T343 hj) rfl rfl ?_
  refine sh_j0 (pc2 := 7) false rfl rfl rfl ?_
  refine sh_w (i := .aload_n 0) (len := 1) (pc2 := 8) (lv2 := [(0, .ref (1000001 + j)), (1, .int i)]) (st2 := [.ref (1000001 + j)]) (h2 := h) rfl rfl rfl ?_
  refine sh_tF0 (pc2 := 11) rfl rfl rfl hj rfl ?_
  refine sh_w (i := .iload_n 1) (len := 1) (pc2 := 12) (lv2 := [(0, .ref (1000001 + j)), (1, .int i)]) (st2 := [.int i, .ref (2000001 + j)]) (h2 := h) rfl rfl rfl ?_
  refine sh_To_le (v := sh_seq 2 (0, 0, 10, 243) (0, 0, 8, 200)) ⟨Nat.le_of_ble_eq_true rfl, Nat.le_of_ble_eq_true rfl, Nat.le_of_ble_eq_true rfl, Nat.le_of_ble_eq_true rfl⟩ ?_
  refine sh_cS (k2 := 348) (pc2 := 15) (as := [.ref (2000001 + j), .int i]) (rest := []) (st2 := [.int (sh_txc j i)]) (kd := 1) rfl rfl (Or.inl rfl) (Nat.le_of_ble_eq_true rfl) rfl rfl ⟨Nat.le_of_ble_eq_true rfl, Nat.le_of_ble_eq_true rfl⟩ (hm := sh_T348 (h := h) hf hh ho) rfl rfl ?_
  rw [hc]
  exact sh_wret (i := .ireturn) (len := 1) rfl rfl (by show (if (((Int32.ofNat b).toUInt32 % 65536).toInt32 == Int32.ofNat b) = true then _ else none) = _; rw [ha.2]; simp)
/-- indexOf -/
theorem sh_T350 (c : Int32) : sh_To sh_G0 sc 350 0 [(0, .int c)] [] h (.returned (some (.int (sh_b2 (decide (0 ≤ c ∧ c ≤ 255)))))) h (0, 0, 8, 200) := by
  refine sh_w (i := .iload_n 0) (len := 1) (pc2 := 1) (lv2 := [(0, .int c)]) (st2 := [.int c]) (h2 := h) rfl rfl rfl ?_
  by_cases h0 : c < 0
  · refine sh_j0 (pc2 := 15) true rfl (decide_eq_true h0) rfl ?_
    refine sh_w (i := .iconst 0) (len := 1) (pc2 := 16) (lv2 := [(0, .int c)]) (st2 := [.int 0]) (h2 := h) rfl rfl rfl ?_
    rw [show decide (0 ≤ c ∧ c ≤ 255) = false from decide_eq_false (fun q => by have := q.1; rw [Int32.lt_iff_toInt_lt] at h0; rw [Int32.le_iff_toInt_le] at this; omega)]
    exact sh_wret (i := .ireturn) (len := 1) rfl rfl rfl
  · refine sh_j0 (pc2 := 4) false rfl (decide_eq_false h0) rfl ?_
    refine sh_w (i := .iload_n 0) (len := 1) (pc2 := 5) (lv2 := [(0, .int c)]) (st2 := [.int c]) (h2 := h) rfl rfl rfl ?_
    refine sh_w (i := .sipush 255) (len := 3) (pc2 := 8) (lv2 := [(0, .int c)]) (st2 := [.int 255, .int c]) (h2 := h) rfl rfl rfl ?_
    by_cases h1 : 255 < c
    · refine sh_jc (pc2 := 15) true rfl (decide_eq_true h1) rfl ?_
      refine sh_w (i := .iconst 0) (len := 1) (pc2 := 16) (lv2 := [(0, .int c)]) (st2 := [.int 0]) (h2 := h) rfl rfl rfl ?_
      rw [show decide (0 ≤ c ∧ c ≤ 255) = false from decide_eq_false (fun q => by have := q.2; rw [Int32.lt_iff_toInt_lt] at h1; rw [Int32.le_iff_toInt_le] at this; omega)]
      exact sh_wret (i := .ireturn) (len := 1) rfl rfl rfl
    · refine sh_jc (pc2 := 11) false rfl (decide_eq_false h1) rfl ?_
      refine sh_w (i := .iconst 1) (len := 1) (pc2 := 12) (lv2 := [(0, .int c)]) (st2 := [.int 1]) (h2 := h) rfl rfl rfl ?_
      refine sh_w (i := .goto 4) (len := 3) (pc2 := 16) (lv2 := [(0, .int c)]) (st2 := [.int 1]) (h2 := h) rfl rfl rfl ?_
      rw [show decide (0 ≤ c ∧ c ≤ 255) = true from decide_eq_true ⟨Int32.not_lt.mp h0, Int32.not_lt.mp h1⟩]
      exact sh_wret (i := .ireturn) (len := 1) rfl rfl rfl
theorem sh_eqI {b : Nat} (hb : b < 128) {c : Int32} (h0 : 0 ≤ c) (h1 : c ≤ 255) : Int32.ofNat b = c.toInt8.toInt32 ↔ Int32.ofNat b = c := by
  rw [Int32.le_iff_toInt_le] at h0 h1
  have e0 : (0 : Int32).toInt = 0 := rfl
  have e1 : (255 : Int32).toInt = 255 := rfl
  have e2 : (Int32.ofNat b).toInt = b := sh_onI (by omega)
  rw [← Int32.toInt_inj, ← Int32.toInt_inj, Int8.toInt_toInt32, Int32.toInt_toInt8, e2]
  have e3 : c.toInt.bmod 256 = if c.toInt < 128 then c.toInt else c.toInt - 256 := by
    rw [Int.bmod_def]
    have e4 : c.toInt % 256 = c.toInt := Int.emod_eq_of_lt (by omega) (by omega)
    split <;> split <;> omega
  show (b : Int) = c.toInt.bmod 256 ↔ _
  rw [e3]
  split <;> omega
/-- StringLatin1.indexOfChar's loop -/
theorem sh_T351l {c : Int32} (hh : h.length ≤ 1000000) (h0 : 0 ≤ c) (h1 : c ≤ 255) : ∀ (l : List Nat) (n : Nat), (sh_txs j).drop n = l → n ≤ sh_txn j → sh_To sh_G0 sc 351 7 [(5, .int (Int32.ofNat n)), (4, .int c.toInt8.toInt32), (0, .ref (2000001 + j)), (1, .int c), (2, .int 0), (3, .int (sh_txl j))] [] h (.returned (some (.int (sh_txw c l n)))) h (0, 0, 8, 200) := by
  intro l
  induction l with
  | nil =>
    intro n hd hn
    have hn2 : n = sh_txn j := by
      have := congrArg List.length hd
      rw [List.length_drop] at this
      unfold sh_txn at *
      simp at this
      omega
    have hb := sh_txn_lt j
    refine sh_w (i := .iload 5) (len := 2) (pc2 := 9) (lv2 := [(5, .int (Int32.ofNat n)), (4, .int c.toInt8.toInt32), (0, .ref (2000001 + j)), (1, .int c), (2, .int 0), (3, .int (sh_txl j))]) (st2 := [.int (Int32.ofNat n)]) (h2 := h) rfl rfl rfl ?_
    refine sh_w (i := .iload_n 3) (len := 1) (pc2 := 10) (lv2 := [(5, .int (Int32.ofNat n)), (4, .int c.toInt8.toInt32), (0, .ref (2000001 + j)), (1, .int c), (2, .int 0), (3, .int (sh_txl j))]) (st2 := [.int (sh_txl j), .int (Int32.ofNat n)]) (h2 := h) rfl rfl rfl ?_
    refine sh_jc (pc2 := 31) true rfl (decide_eq_true (by show sh_txl j ≤ Int32.ofNat n; rw [hn2]; exact Int32.le_refl _)) rfl ?_
    refine sh_w (i := .iconst (-1)) (len := 1) (pc2 := 32) (lv2 := [(5, .int (Int32.ofNat n)), (4, .int c.toInt8.toInt32), (0, .ref (2000001 + j)), (1, .int c), (2, .int 0), (3, .int (sh_txl j))]) (st2 := [.int (-1)]) (h2 := h) rfl rfl rfl ?_
    exact sh_wret (i := .ireturn) (len := 1) rfl rfl rfl
  | cons a l ih =>
    intro n hd hn
    have hlt : n < sh_txn j := by
      have := congrArg List.length hd
      rw [List.length_drop] at this
      unfold sh_txn at *
      simp at this
      omega
    have hb := sh_txn_lt j
    have hln : n < (sh_txs j).length := hlt
    have ha : (sh_txs j)[n] = a := by
      rw [List.drop_eq_getElem_cons hln] at hd
      exact (List.cons.inj hd).1
    have hl : (sh_txs j).drop (n + 1) = l := by
      rw [List.drop_eq_getElem_cons hln] at hd
      exact (List.cons.inj hd).2
    have ha8 : a < 128 := sh_tx_lt128 (ha ▸ List.getElem_mem hln)
    have eN : (Int32.ofNat n).toInt = n := sh_onI (by omega)
    have eC : (Int32.ofNat n).toNatClampNeg = n := by show (Int32.ofNat n).toInt.toNat = n; rw [eN]; rfl
    have ho : sh_okb (Int32.ofNat n) (sh_txn j) = true := by
      unfold sh_okb
      rw [eC]
      simp only [Bool.and_eq_true, decide_eq_true_eq, Bool.not_eq_true', decide_eq_false_iff_not]
      refine ⟨?_, hlt⟩
      rw [Int32.lt_iff_toInt_lt, eN]
      show ¬ (n : Int) < 0
      omega
    have hc : sh_txc j (Int32.ofNat n) = Int32.ofNat a := by
      unfold sh_txc
      rw [eC, List.getD_eq_getElem?_getD, List.getElem?_eq_getElem hln, ha]
      rfl
    refine sh_w (i := .iload 5) (len := 2) (pc2 := 9) (lv2 := [(5, .int (Int32.ofNat n)), (4, .int c.toInt8.toInt32), (0, .ref (2000001 + j)), (1, .int c), (2, .int 0), (3, .int (sh_txl j))]) (st2 := [.int (Int32.ofNat n)]) (h2 := h) rfl rfl rfl ?_
    refine sh_w (i := .iload_n 3) (len := 1) (pc2 := 10) (lv2 := [(5, .int (Int32.ofNat n)), (4, .int c.toInt8.toInt32), (0, .ref (2000001 + j)), (1, .int c), (2, .int 0), (3, .int (sh_txl j))]) (st2 := [.int (sh_txl j), .int (Int32.ofNat n)]) (h2 := h) rfl rfl rfl ?_
    refine sh_jc (pc2 := 13) false rfl (decide_eq_false (by show ¬ sh_txl j ≤ Int32.ofNat n; rw [Int32.le_iff_toInt_le, sh_txl_int, eN]; omega)) rfl ?_
    refine sh_w (i := .aload_n 0) (len := 1) (pc2 := 14) (lv2 := [(5, .int (Int32.ofNat n)), (4, .int c.toInt8.toInt32), (0, .ref (2000001 + j)), (1, .int c), (2, .int 0), (3, .int (sh_txl j))]) (st2 := [.ref (2000001 + j)]) (h2 := h) rfl rfl rfl ?_
    refine sh_w (i := .iload 5) (len := 2) (pc2 := 16) (lv2 := [(5, .int (Int32.ofNat n)), (4, .int c.toInt8.toInt32), (0, .ref (2000001 + j)), (1, .int c), (2, .int 0), (3, .int (sh_txl j))]) (st2 := [.int (Int32.ofNat n), .ref (2000001 + j)]) (h2 := h) rfl rfl rfl ?_
    refine sh_tBa (pc2 := 17) rfl hh ho rfl ?_
    rw [hc]
    refine sh_w (i := .iload 4) (len := 2) (pc2 := 19) (lv2 := [(5, .int (Int32.ofNat n)), (4, .int c.toInt8.toInt32), (0, .ref (2000001 + j)), (1, .int c), (2, .int 0), (3, .int (sh_txl j))]) (st2 := [.int c.toInt8.toInt32, .int (Int32.ofNat a)]) (h2 := h) rfl rfl rfl ?_
    by_cases hq : Int32.ofNat a = c
    · refine sh_jc (pc2 := 22) false rfl (sh_Bnef ((sh_eqI ha8 h0 h1).mpr hq)) rfl ?_
      refine sh_w (i := .iload 5) (len := 2) (pc2 := 24) (lv2 := [(5, .int (Int32.ofNat n)), (4, .int c.toInt8.toInt32), (0, .ref (2000001 + j)), (1, .int c), (2, .int 0), (3, .int (sh_txl j))]) (st2 := [.int (Int32.ofNat n)]) (h2 := h) rfl rfl rfl ?_
      rw [show sh_txw c (a :: l) n = Int32.ofNat n from if_pos hq]
      exact sh_wret (i := .ireturn) (len := 1) rfl rfl rfl
    · refine sh_jc (pc2 := 25) true rfl (sh_Bnet (fun q => hq ((sh_eqI ha8 h0 h1).mp q))) rfl ?_
      rw [show sh_txw c (a :: l) n = sh_txw c l (n + 1) from if_neg hq]
      refine sh_w (i := .iinc 5 1) (len := 3) (pc2 := 28) (lv2 := [(5, .int (Int32.ofNat (n + 1))), (4, .int c.toInt8.toInt32), (0, .ref (2000001 + j)), (1, .int c), (2, .int 0), (3, .int (sh_txl j))]) (st2 := []) (h2 := h) rfl rfl (by show some (_, (5, Value.int (Int32.ofNat n + Int32.ofInt 1)) :: _, _, _, _, _) = _; rw [Int32.ofNat_add]; rfl) ?_
      refine sh_w (i := .goto (-21)) (len := 3) (pc2 := 7) (lv2 := [(5, .int (Int32.ofNat (n + 1))), (4, .int c.toInt8.toInt32), (0, .ref (2000001 + j)), (1, .int c), (2, .int 0), (3, .int (sh_txl j))]) (st2 := []) (h2 := h) rfl rfl rfl ?_
      exact ih (n + 1) hl hlt
theorem sh_T351 {c : Int32} (hh : h.length ≤ 1000000) (h0 : 0 ≤ c) (h1 : c ≤ 255) : sh_To sh_G0 sc 351 0 [(0, .ref (2000001 + j)), (1, .int c), (2, .int 0), (3, .int (sh_txl j))] [] h (.returned (some (.int (sh_txi j c)))) h (0, 0, 8, 200) := by
  refine sh_w (i := .iload_n 1) (len := 1) (pc2 := 1) (lv2 := [(0, .ref (2000001 + j)), (1, .int c), (2, .int 0), (3, .int (sh_txl j))]) (st2 := [.int c]) (h2 := h) rfl rfl rfl ?_
  refine sh_w (i := .i2b) (len := 1) (pc2 := 2) (lv2 := [(0, .ref (2000001 + j)), (1, .int c), (2, .int 0), (3, .int (sh_txl j))]) (st2 := [.int c.toInt8.toInt32]) (h2 := h) rfl rfl rfl ?_
  refine sh_w (i := .istore 4) (len := 2) (pc2 := 4) (lv2 := [(4, .int c.toInt8.toInt32), (0, .ref (2000001 + j)), (1, .int c), (2, .int 0), (3, .int (sh_txl j))]) (st2 := []) (h2 := h) rfl rfl rfl ?_
  refine sh_w (i := .iload_n 2) (len := 1) (pc2 := 5) (lv2 := [(4, .int c.toInt8.toInt32), (0, .ref (2000001 + j)), (1, .int c), (2, .int 0), (3, .int (sh_txl j))]) (st2 := [.int 0]) (h2 := h) rfl rfl rfl ?_
  refine sh_w (i := .istore 5) (len := 2) (pc2 := 7) (lv2 := [(5, .int (Int32.ofNat 0)), (4, .int c.toInt8.toInt32), (0, .ref (2000001 + j)), (1, .int c), (2, .int 0), (3, .int (sh_txl j))]) (st2 := []) (h2 := h) rfl rfl rfl ?_
  exact sh_T351l hh h0 h1 (sh_txs j) 0 rfl (Nat.zero_le _)
theorem sh_T42 : sh_To sh_G0 sc 42 0 [(0, .int 0), (1, .int 0)] [] h (.returned (some (.int 0))) h (0, 0, 8, 200) := by
  refine ⟨20, (0, 0, 8, 200), rfl, Nat.le_refl _, Nat.le_refl _, Nat.le_refl _, Nat.le_refl _⟩
theorem sh_T21 {x : Int32} : sh_To sh_G0 sc 21 0 [(0, .int x), (1, .int x)] [] h (.returned (some (.int x))) h (0, 0, 8, 200) := by
  refine sh_w (i := .iload_n 0) (len := 1) (pc2 := 1) (lv2 := [(0, .int x), (1, .int x)]) (st2 := [.int x]) (h2 := h) rfl rfl rfl ?_
  refine sh_w (i := .iload_n 1) (len := 1) (pc2 := 2) (lv2 := [(0, .int x), (1, .int x)]) (st2 := [.int x, .int x]) (h2 := h) rfl rfl rfl ?_
  refine sh_jc (c := .gt) (pc2 := 5) false rfl (decide_eq_false Int32.lt_irrefl) rfl ?_
  refine sh_w (i := .iload_n 0) (len := 1) (pc2 := 6) (lv2 := [(0, .int x), (1, .int x)]) (st2 := [.int x]) (h2 := h) rfl rfl rfl ?_
  refine sh_w (i := .goto 4) (len := 3) (pc2 := 10) (lv2 := [(0, .int x), (1, .int x)]) (st2 := [.int x]) (h2 := h) rfl rfl rfl ?_
  exact sh_wret (i := .ireturn) (len := 1) rfl rfl rfl
theorem sh_txw_none {c : Int32} (hc : ¬ (0 ≤ c ∧ c ≤ 255)) : ∀ (l : List Nat) (n : Nat), (∀ b ∈ l, b < 128) → sh_txw c l n = -1 := by
  intro l
  induction l with
  | nil => intro n _; rfl
  | cons a l ih =>
    intro n hl
    have ha := hl a List.mem_cons_self
    have e2 : (Int32.ofNat a).toInt = a := sh_onI (by omega)
    have hq : ¬ Int32.ofNat a = c := by
      intro q
      apply hc
      rw [← q, Int32.le_iff_toInt_le, Int32.le_iff_toInt_le, e2]
      show (0 : Int) ≤ a ∧ (a : Int) ≤ 255
      omega
    rw [show sh_txw c (a :: l) n = sh_txw c l (n + 1) from if_neg hq]
    exact ih (n + 1) (fun b hb => hl b (List.mem_cons_of_mem _ hb))
theorem sh_T349 {c : Int32} (hh : h.length ≤ 1000000) (hj : 0 < sh_txn j) : sh_To sh_G0 sc 349 0 [(0, .ref (2000001 + j)), (1, .int c), (2, .int 0), (3, .int (sh_txl j))] [] h (.returned (some (.int (sh_txi j c)))) h (0, 0, 9, 225) := by
  refine sh_w (i := .iload_n 1) (len := 1) (pc2 := 1) (lv2 := [(0, .ref (2000001 + j)), (1, .int c), (2, .int 0), (3, .int (sh_txl j))]) (st2 := [.int c]) (h2 := h) rfl rfl rfl ?_
  refine sh_To_le (v := sh_seq 1 (0, 0, 8, 200) (0, 0, 9, 225)) ⟨Nat.le_of_ble_eq_true rfl, Nat.le_of_ble_eq_true rfl, Nat.le_of_ble_eq_true rfl, Nat.le_of_ble_eq_true rfl⟩ ?_
  refine sh_cS (k2 := 350) (pc2 := 4) (as := [.int c]) (rest := []) (st2 := [.int (sh_b2 (decide (0 ≤ c ∧ c ≤ 255)))]) (kd := 1) rfl rfl (Or.inl rfl) (Nat.le_of_ble_eq_true rfl) rfl rfl ⟨Nat.le_of_ble_eq_true rfl, Nat.le_of_ble_eq_true rfl⟩ (hm := sh_T350 (h := h) c) rfl rfl ?_
  by_cases hc : 0 ≤ c ∧ c ≤ 255
  · rw [show decide (0 ≤ c ∧ c ≤ 255) = true from decide_eq_true hc]
    refine sh_j0 (pc2 := 9) true rfl rfl rfl ?_
    refine sh_w (i := .iload_n 2) (len := 1) (pc2 := 10) (lv2 := [(0, .ref (2000001 + j)), (1, .int c), (2, .int 0), (3, .int (sh_txl j))]) (st2 := [.int 0]) (h2 := h) rfl rfl rfl ?_
    refine sh_w (i := .iconst 0) (len := 1) (pc2 := 11) (lv2 := [(0, .ref (2000001 + j)), (1, .int c), (2, .int 0), (3, .int (sh_txl j))]) (st2 := [.int 0, .int 0]) (h2 := h) rfl rfl rfl ?_
    refine sh_To_le (v := sh_seq 2 (0, 0, 8, 200) (0, 0, 9, 225)) ⟨Nat.le_of_ble_eq_true rfl, Nat.le_of_ble_eq_true rfl, Nat.le_of_ble_eq_true rfl, Nat.le_of_ble_eq_true rfl⟩ ?_
    refine sh_cS (k2 := 42) (pc2 := 14) (as := [.int 0, .int 0]) (rest := []) (st2 := [.int 0]) (kd := 1) rfl rfl (Or.inl rfl) (Nat.le_of_ble_eq_true rfl) rfl rfl ⟨Nat.le_of_ble_eq_true rfl, Nat.le_of_ble_eq_true rfl⟩ (hm := sh_T42 (h := h)) rfl rfl ?_
    refine sh_w (i := .istore_n 2) (len := 1) (pc2 := 15) (lv2 := [(2, .int 0), (0, .ref (2000001 + j)), (1, .int c), (3, .int (sh_txl j))]) (st2 := []) (h2 := h) rfl rfl rfl ?_
    refine sh_w (i := .iload_n 3) (len := 1) (pc2 := 16) (lv2 := [(2, .int 0), (0, .ref (2000001 + j)), (1, .int c), (3, .int (sh_txl j))]) (st2 := [.int (sh_txl j)]) (h2 := h) rfl rfl rfl ?_
    refine sh_w (i := .aload_n 0) (len := 1) (pc2 := 17) (lv2 := [(2, .int 0), (0, .ref (2000001 + j)), (1, .int c), (3, .int (sh_txl j))]) (st2 := [.ref (2000001 + j), .int (sh_txl j)]) (h2 := h) rfl rfl rfl ?_
    refine sh_tAl (pc2 := 18) rfl hh hj rfl ?_
    refine sh_To_le (v := sh_seq 2 (0, 0, 8, 200) (0, 0, 9, 225)) ⟨Nat.le_of_ble_eq_true rfl, Nat.le_of_ble_eq_true rfl, Nat.le_of_ble_eq_true rfl, Nat.le_of_ble_eq_true rfl⟩ ?_
    refine sh_cS (k2 := 21) (pc2 := 21) (as := [.int (sh_txl j), .int (sh_txl j)]) (rest := []) (st2 := [.int (sh_txl j)]) (kd := 1) rfl rfl (Or.inl rfl) (Nat.le_of_ble_eq_true rfl) rfl rfl ⟨Nat.le_of_ble_eq_true rfl, Nat.le_of_ble_eq_true rfl⟩ (hm := sh_T21 (h := h)) rfl rfl ?_
    refine sh_w (i := .istore_n 3) (len := 1) (pc2 := 22) (lv2 := [(3, .int (sh_txl j)), (2, .int 0), (0, .ref (2000001 + j)), (1, .int c)]) (st2 := []) (h2 := h) rfl rfl rfl ?_
    refine sh_w (i := .iload_n 2) (len := 1) (pc2 := 23) (lv2 := [(3, .int (sh_txl j)), (2, .int 0), (0, .ref (2000001 + j)), (1, .int c)]) (st2 := [.int 0]) (h2 := h) rfl rfl rfl ?_
    refine sh_w (i := .iload_n 3) (len := 1) (pc2 := 24) (lv2 := [(3, .int (sh_txl j)), (2, .int 0), (0, .ref (2000001 + j)), (1, .int c)]) (st2 := [.int (sh_txl j), .int 0]) (h2 := h) rfl rfl rfl ?_
    refine sh_jc (pc2 := 29) true rfl (decide_eq_true (by show (0 : Int32) < sh_txl j; rw [Int32.lt_iff_toInt_lt, sh_txl_int]; show (0 : Int) < _; omega)) rfl ?_
    refine sh_w (i := .aload_n 0) (len := 1) (pc2 := 30) (lv2 := [(3, .int (sh_txl j)), (2, .int 0), (0, .ref (2000001 + j)), (1, .int c)]) (st2 := [.ref (2000001 + j)]) (h2 := h) rfl rfl rfl ?_
    refine sh_w (i := .iload_n 1) (len := 1) (pc2 := 31) (lv2 := [(3, .int (sh_txl j)), (2, .int 0), (0, .ref (2000001 + j)), (1, .int c)]) (st2 := [.int c, .ref (2000001 + j)]) (h2 := h) rfl rfl rfl ?_
    refine sh_w (i := .iload_n 2) (len := 1) (pc2 := 32) (lv2 := [(3, .int (sh_txl j)), (2, .int 0), (0, .ref (2000001 + j)), (1, .int c)]) (st2 := [.int 0, .int c, .ref (2000001 + j)]) (h2 := h) rfl rfl rfl ?_
    refine sh_w (i := .iload_n 3) (len := 1) (pc2 := 33) (lv2 := [(3, .int (sh_txl j)), (2, .int 0), (0, .ref (2000001 + j)), (1, .int c)]) (st2 := [.int (sh_txl j), .int 0, .int c, .ref (2000001 + j)]) (h2 := h) rfl rfl rfl ?_
    refine sh_To_le (v := sh_seq 6 (0, 0, 8, 200) (0, 0, 8, 200)) ⟨Nat.le_of_ble_eq_true rfl, Nat.le_of_ble_eq_true rfl, Nat.le_of_ble_eq_true rfl, Nat.le_of_ble_eq_true rfl⟩ ?_
    refine sh_cS (k2 := 351) (pc2 := 36) (as := [.ref (2000001 + j), .int c, .int 0, .int (sh_txl j)]) (rest := []) (st2 := [.int (sh_txi j c)]) (kd := 1) rfl rfl (Or.inl rfl) (Nat.le_of_ble_eq_true rfl) rfl rfl ⟨Nat.le_of_ble_eq_true rfl, Nat.le_of_ble_eq_true rfl⟩ (hm := sh_T351 (h := h) hh hc.1 hc.2) rfl rfl ?_
    exact sh_wret (i := .ireturn) (len := 1) rfl rfl rfl
  · rw [show decide (0 ≤ c ∧ c ≤ 255) = false from decide_eq_false hc]
    refine sh_j0 (pc2 := 7) false rfl rfl rfl ?_
    refine sh_w (i := .iconst (-1)) (len := 1) (pc2 := 8) (lv2 := [(0, .ref (2000001 + j)), (1, .int c), (2, .int 0), (3, .int (sh_txl j))]) (st2 := [.int (-1)]) (h2 := h) rfl rfl rfl ?_
    rw [show sh_txi j c = -1 from sh_txw_none hc _ _ (fun b hb => sh_tx_lt128 hb)]
    exact sh_To_le (v := (0, 0, 8, 200)) ⟨Nat.le_of_ble_eq_true rfl, Nat.le_of_ble_eq_true rfl, Nat.le_of_ble_eq_true rfl, Nat.le_of_ble_eq_true rfl⟩ (sh_wret (i := .ireturn) (len := 1) rfl rfl rfl)
theorem sh_T347 {c : Int32} (hh : h.length ≤ 1000000) (hj : 0 < sh_txn j) : sh_To sh_G0 sc 347 0 [(0, .ref (1000001 + j)), (1, .int c), (2, .int 0)] [] h (.returned (some (.int (sh_txi j c)))) h (0, 0, 10, 250) := by
  refine sh_w (i := .aload_n 0) (len := 1) (pc2 := 1) (lv2 := [(0, .ref (1000001 + j)), (1, .int c), (2, .int 0)]) (st2 := [.ref (1000001 + j)]) (h2 := h) rfl rfl rfl ?_
  refine sh_To_le (v := sh_seq 1 (0, 0, 8, 200) (0, 0, 10, 250)) ⟨Nat.le_of_ble_eq_true rfl, Nat.le_of_ble_eq_true rfl, Nat.le_of_ble_eq_true rfl, Nat.le_of_ble_eq_true rfl⟩ ?_
  refine sh_cT7 (k2 := 343) (pc2 := 4) (as := [.ref (1000001 + j)]) (rest := []) (st2 := [.int 1]) rfl rfl rfl hj rfl rfl ⟨Nat.le_of_ble_eq_true rfl, Nat.le_of_ble_eq_true rfl⟩ (sh_T343 hj) rfl rfl ?_
  refine sh_j0 (pc2 := 7) false rfl rfl rfl ?_
  refine sh_w (i := .aload_n 0) (len := 1) (pc2 := 8) (lv2 := [(0, .ref (1000001 + j)), (1, .int c), (2, .int 0)]) (st2 := [.ref (1000001 + j)]) (h2 := h) rfl rfl rfl ?_
  refine sh_tF0 (pc2 := 11) rfl rfl rfl hj rfl ?_
  refine sh_w (i := .iload_n 1) (len := 1) (pc2 := 12) (lv2 := [(0, .ref (1000001 + j)), (1, .int c), (2, .int 0)]) (st2 := [.int c, .ref (2000001 + j)]) (h2 := h) rfl rfl rfl ?_
  refine sh_w (i := .iload_n 2) (len := 1) (pc2 := 13) (lv2 := [(0, .ref (1000001 + j)), (1, .int c), (2, .int 0)]) (st2 := [.int 0, .int c, .ref (2000001 + j)]) (h2 := h) rfl rfl rfl ?_
  refine sh_w (i := .aload_n 0) (len := 1) (pc2 := 14) (lv2 := [(0, .ref (1000001 + j)), (1, .int c), (2, .int 0)]) (st2 := [.ref (1000001 + j), .int 0, .int c, .ref (2000001 + j)]) (h2 := h) rfl rfl rfl ?_
  refine sh_To_le (v := sh_seq 1 (0, 0, 9, 220) (0, 0, 10, 250)) ⟨Nat.le_of_ble_eq_true rfl, Nat.le_of_ble_eq_true rfl, Nat.le_of_ble_eq_true rfl, Nat.le_of_ble_eq_true rfl⟩ ?_
  refine sh_cT7 (k2 := 341) (pc2 := 17) (as := [.ref (1000001 + j)]) (rest := [.int 0, .int c, .ref (2000001 + j)]) (st2 := [.int (sh_txl j), .int 0, .int c, .ref (2000001 + j)]) rfl rfl rfl hj rfl rfl ⟨Nat.le_of_ble_eq_true rfl, Nat.le_of_ble_eq_true rfl⟩ (sh_T341 hh hj) rfl rfl ?_
  refine sh_To_le (v := sh_seq 4 (0, 0, 9, 225) (0, 0, 8, 200)) ⟨Nat.le_of_ble_eq_true rfl, Nat.le_of_ble_eq_true rfl, Nat.le_of_ble_eq_true rfl, Nat.le_of_ble_eq_true rfl⟩ ?_
  refine sh_cS (k2 := 349) (pc2 := 20) (as := [.ref (2000001 + j), .int c, .int 0, .int (sh_txl j)]) (rest := []) (st2 := [.int (sh_txi j c)]) (kd := 1) rfl rfl (Or.inl rfl) (Nat.le_of_ble_eq_true rfl) rfl rfl ⟨Nat.le_of_ble_eq_true rfl, Nat.le_of_ble_eq_true rfl⟩ (hm := sh_T349 (h := h) hh hj) rfl rfl ?_
  refine sh_w (i := .goto 16) (len := 3) (pc2 := 36) (lv2 := [(0, .ref (1000001 + j)), (1, .int c), (2, .int 0)]) (st2 := [.int (sh_txi j c)]) (h2 := h) rfl rfl rfl ?_
  exact sh_wret (i := .ireturn) (len := 1) rfl rfl rfl
theorem sh_T346 {c : Int32} (hh : h.length ≤ 1000000) (hj : 0 < sh_txn j) : sh_To sh_G0 sc 346 0 [(0, .ref (1000001 + j)), (1, .int c)] [] h (.returned (some (.int (sh_txi j c)))) h (0, 0, 11, 275) := by
  refine sh_w (i := .aload_n 0) (len := 1) (pc2 := 1) (lv2 := [(0, .ref (1000001 + j)), (1, .int c)]) (st2 := [.ref (1000001 + j)]) (h2 := h) rfl rfl rfl ?_
  refine sh_w (i := .iload_n 1) (len := 1) (pc2 := 2) (lv2 := [(0, .ref (1000001 + j)), (1, .int c)]) (st2 := [.int c, .ref (1000001 + j)]) (h2 := h) rfl rfl rfl ?_
  refine sh_w (i := .iconst 0) (len := 1) (pc2 := 3) (lv2 := [(0, .ref (1000001 + j)), (1, .int c)]) (st2 := [.int 0, .int c, .ref (1000001 + j)]) (h2 := h) rfl rfl rfl ?_
  refine sh_To_le (v := sh_seq 3 (0, 0, 10, 250) (0, 0, 8, 200)) ⟨Nat.le_of_ble_eq_true rfl, Nat.le_of_ble_eq_true rfl, Nat.le_of_ble_eq_true rfl, Nat.le_of_ble_eq_true rfl⟩ ?_
  refine sh_cT7 (k2 := 347) (pc2 := 6) (as := [.ref (1000001 + j), .int c, .int 0]) (rest := []) (st2 := [.int (sh_txi j c)]) rfl rfl rfl hj rfl rfl ⟨Nat.le_of_ble_eq_true rfl, Nat.le_of_ble_eq_true rfl⟩ (sh_T347 hh hj) rfl rfl ?_
  exact sh_wret (i := .ireturn) (len := 1) rfl rfl rfl
end Text
section TextLk
variable {k pc : Nat} {lv : sh_Ls} {r : List Value} {m m2 : sh_X} {o : Outcome} {F W j q : Nat}
theorem sh_Lk_t7 {idx k2 pc2 c1 c2 : Nat} {st as rest st2 : List Value} {x : Value} (hi : sh_gI sh_G0 k pc = some (.invokevirtual idx, 3)) (hg : sh_gC sh_G0 (sh_On sh_G0 k) idx = some (7, k2)) (hd : st.drop (sh_P sh_G0 k2) = .ref (1000001 + j) :: rest) (hj : 0 < sh_txn j) (hc : (sh_Y sh_G0 k2).cls = "java/lang/String") (has : .ref (1000001 + j) :: (st.take (sh_P sh_G0 k2)).reverse = as) (hw : sh_wgt rest ≤ 8) (hw2 : sh_wgt as ≤ sh_L sh_G0 k2) (hc1 : c1 ≤ 20) (hc2 : c2 ≤ 300) (hL : sh_L sh_G0 k2 ≤ 10)
    (hm : ∀ sc : sh_S, sh_isR sc.2 = true → m.T.length ≤ 1000000 → sh_To sh_G0 sc k2 0 (lv_args 0 as) [] (sh_rep m.T m.I m.J) (.returned (some x)) (sh_rep m.T m.I m.J) (0, 0, c1, c2)) (hst : x :: rest = st2) (hp : pc + 3 = pc2) (hF : 30 ≤ F) (hW : 600 ≤ W) (kk : sh_Lk k pc2 lv st2 m o m2 F W) : sh_Lk k pc lv st m o m2 F W := by
  intro fm hfm hD
  obtain ⟨a1, a2, a3, c, s, a4, a5, a6⟩ := kk fm hfm hD
  refine ⟨a1, a2, a3, c, s, ?_, a5, a6⟩
  refine sh_To_le (v := sh_seq (sh_L sh_G0 k2) (0, 0, c1, c2) (c, s, F, W)) ?_ (sh_cT7 hi hg hd hj hc has ⟨hw, hw2⟩ (hm (none, fm) hfm hD.len) hst hp a4)
  refine ⟨?_, ?_, ?_, ?_⟩
  · show 0 + c ≤ c
    omega
  · show 0 + s ≤ s
    omega
  · show max (c1 + 1) F ≤ F
    omega
  · show max (8 + (sh_L sh_G0 k2 + 11) + c2) W ≤ W
    omega
theorem sh_Lk_tl {idx pc2 : Nat} (hi : sh_gI sh_G0 k pc = some (.invokevirtual idx, 3)) (hg : sh_gC sh_G0 (sh_On sh_G0 k) idx = some (7, 341)) (hq : q = 1000001 + j) (hj : 0 < sh_txn j) (hw : sh_wgt r ≤ 8) (hp : pc + 3 = pc2) (hF : 30 ≤ F) (hW : 600 ≤ W) (kk : sh_Lk k pc2 lv (.int (sh_txl j) :: r) m o m2 F W) : sh_Lk k pc lv (.ref q :: r) m o m2 F W := by
  subst hq
  exact sh_Lk_t7 (k2 := 341) (x := .int (sh_txl j)) (as := [.ref (1000001 + j)]) (rest := r) (c1 := 9) (c2 := 220) hi hg rfl hj rfl rfl hw (Nat.le_of_ble_eq_true rfl) (by decide) (by decide) (Nat.le_of_ble_eq_true rfl) (fun sc _ hl => sh_T341 (by rw [sh_rep_len]; exact hl) hj) rfl hp hF hW kk
theorem sh_Lk_tc {idx pc2 : Nat} {i : Int32} (hi : sh_gI sh_G0 k pc = some (.invokevirtual idx, 3)) (hg : sh_gC sh_G0 (sh_On sh_G0 k) idx = some (7, 344)) (hq : q = 1000001 + j) (ho : sh_okb i (sh_txn j) = true) (hw : sh_wgt r ≤ 8) (hp : pc + 3 = pc2) (hF : 30 ≤ F) (hW : 600 ≤ W) (kk : sh_Lk k pc2 lv (.int (sh_txc j i) :: r) m o m2 F W) : sh_Lk k pc lv (.int i :: .ref q :: r) m o m2 F W := by
  subst hq
  exact sh_Lk_t7 (k2 := 344) (x := .int (sh_txc j i)) (as := [.ref (1000001 + j), .int i]) (rest := r) (c1 := 11) (c2 := 264) hi hg rfl (Nat.lt_of_le_of_lt (Nat.zero_le _) (sh_okb2 ho)) rfl rfl hw (Nat.le_of_ble_eq_true rfl) (by decide) (by decide) (Nat.le_of_ble_eq_true rfl) (fun sc hf hl => sh_T344 hf (by rw [sh_rep_len]; exact hl) ho) rfl hp hF hW kk
theorem sh_Lk_ti {idx pc2 : Nat} {c : Int32} (hi : sh_gI sh_G0 k pc = some (.invokevirtual idx, 3)) (hg : sh_gC sh_G0 (sh_On sh_G0 k) idx = some (7, 346)) (hq : q = 1000001 + j) (hj : 0 < sh_txn j) (hw : sh_wgt r ≤ 8) (hp : pc + 3 = pc2) (hF : 30 ≤ F) (hW : 600 ≤ W) (kk : sh_Lk k pc2 lv (.int (sh_txi j c) :: r) m o m2 F W) : sh_Lk k pc lv (.int c :: .ref q :: r) m o m2 F W := by
  subst hq
  exact sh_Lk_t7 (k2 := 346) (x := .int (sh_txi j c)) (as := [.ref (1000001 + j), .int c]) (rest := r) (c1 := 11) (c2 := 275) hi hg rfl hj rfl rfl hw (Nat.le_of_ble_eq_true rfl) (by decide) (by decide) (Nat.le_of_ble_eq_true rfl) (fun sc _ hl => sh_T346 (by rw [sh_rep_len]; exact hl) hj) rfl hp hF hW kk
end TextLk
