/-! LINKS by hand: copies of arrays, what changes the layout -/
section Lay
variable {T : List sh_Tg} {I I2 : Nat → Nat → Int32} {J J2 : Nat → Nat → Int64} {sc : sh_S} {k pc : Nat} {lv : sh_Ls} {st : List Value} {h h3 : sh_H} {o : Outcome} {v : sh_U}
/-- System.arraycopy -/
theorem sh_wcp {idx k2 pc2 : Nat} {st2 : List Value} {h2 : sh_H} (hi : sh_gI sh_G0 k pc = some (.invokestatic idx, 3)) (hg : sh_gC sh_G0 (sh_On sh_G0 k) idx = some (8, k2)) (h1 : sh_cpK pc lv st h = some (pc + 3, lv, st2, h2, 0, 0)) (hp : pc + 3 = pc2) (kk : sh_To sh_G0 sc k pc2 lv st2 h2 o h3 v) : sh_To sh_G0 sc k pc lv st h o h3 v := by
  subst hp
  have h9 := sh_To_step (dc := 0) (ds := 0) (G := sh_G0) (sc := sc) (k := k) (pc := pc) (lv := lv) (st := st) (h := h) (pc2 := pc + 3) (lv2 := lv) (st2 := st2) (h2 := h2) (fun run => ?_) kk
  · rwa [Nat.zero_add, Nat.zero_add] at h9
  · unfold sh_step
    rw [hi]
    dsimp only
    have e1 : sh_ret sh_G0 k (.invokestatic idx) st = none := by
      unfold sh_ret
      split <;> first | rfl | (rename_i h _; cases h)
    have e2 : sh_ent sh_G0 k (.invokestatic idx) st h = none := by
      unfold sh_ent
      simp only [hg]
      rw [if_neg (by omega)]
    rw [if_pos (show (3 : Nat) = sh_len (.invokestatic idx) 3 from rfl), e1]
    dsimp only
    rw [e2]
    dsimp only
    rw [show sh_tn sh_G0 k (.invokestatic idx) pc = none from rfl]
    dsimp only
    have e3 : sh_one sh_G0 sc k (.invokestatic idx) pc lv st h = some (pc + 3, lv, st2, h2, 0, 0) := by
      unfold sh_one
      simp only [hg]
      exact h1
    rw [e3]
theorem sh_T21m {x y : Int32} (hxy : ¬ y < x) : sh_To sh_G0 sc 21 0 [(0, .int x), (1, .int y)] [] h (.returned (some (.int x))) h (0, 0, 8, 200) := by
  refine sh_w (i := .iload_n 0) (len := 1) (pc2 := 1) (lv2 := [(0, .int x), (1, .int y)]) (st2 := [.int x]) (h2 := h) rfl rfl rfl ?_
  refine sh_w (i := .iload_n 1) (len := 1) (pc2 := 2) (lv2 := [(0, .int x), (1, .int y)]) (st2 := [.int y, .int x]) (h2 := h) rfl rfl rfl ?_
  refine sh_jc (c := .gt) (pc2 := 5) false rfl (decide_eq_false hxy) rfl ?_
  refine sh_w (i := .iload_n 0) (len := 1) (pc2 := 6) (lv2 := [(0, .int x), (1, .int y)]) (st2 := [.int x]) (h2 := h) rfl rfl rfl ?_
  refine sh_w (i := .goto 4) (len := 3) (pc2 := 10) (lv2 := [(0, .int x), (1, .int y)]) (st2 := [.int x]) (h2 := h) rfl rfl rfl ?_
  exact sh_wret (i := .ireturn) (len := 1) rfl rfl rfl
/-- the ints of a new cell -/
def sh_zc (I : Nat → Nat → Int32) (b : Nat) : Nat → Nat → Int32 := fun c i => if c = b then 0 else I c i
def sh_zl (J : Nat → Nat → Int64) (b : Nat) : Nat → Nat → Int64 := fun c i => if c = b then 0 else J c i
theorem sh_rep_ext (hI : ∀ a, a < T.length → I a = I2 a) (hJ : ∀ a, a < T.length → J a = J2 a) : sh_rep T I J = sh_rep T I2 J2 := by
  apply List.ext_getElem?
  intro i
  unfold sh_rep
  rw [sh_repF_get, sh_repF_get]
  cases ht : T[i]? with
  | none => rfl
  | some t =>
    have hi : i < T.length := (List.getElem?_eq_some_iff.mp ht).1
    have e1 := hI (0 + i) (by omega)
    have e2 := hJ (0 + i) (by omega)
    show some (sh_cell I J (0 + i) t) = some (sh_cell I2 J2 (0 + i) t)
    unfold sh_cell
    rw [e1, e2]
theorem sh_rep_newI {t n : Nat} (ht : t = 0 ∨ t = 1 ∨ t = 3) : sh_rep T I J ++ [.inl (t, sh_new0 t n)] = sh_rep (T ++ [.inl (t, n)]) (sh_zc I T.length) J := by
  have e : sh_rep T I J = sh_rep T (sh_zc I T.length) J := sh_rep_ext (fun a ha => by funext i; unfold sh_zc; rw [if_neg (by omega)]) (fun _ _ => rfl)
  have z : sh_zc I T.length T.length = fun _ => 0 := by
    funext i
    unfold sh_zc
    rw [if_pos rfl]
  rw [← sh_rep_push, e]
  rcases ht with rfl | rfl | rfl
  · show _ ++ [(.inl (0, n, .inl (fun _ => 0)) : sh_E)] = _ ++ [.inl (0, n, .inl (sh_zc I T.length T.length))]
    rw [z]
  · show _ ++ [(.inl (1, n, .inl (fun _ => 0)) : sh_E)] = _ ++ [.inl (1, n, .inl (sh_zc I T.length T.length))]
    rw [z]
  · show _ ++ [(.inl (3, n, .inl (fun _ => 0)) : sh_E)] = _ ++ [.inl (3, n, .inl (sh_zc I T.length T.length))]
    rw [z]
theorem sh_rep_newJ {n : Nat} : sh_rep T I J ++ [.inl (2, sh_new0 2 n)] = sh_rep (T ++ [.inl (2, n)]) I (sh_zl J T.length) := by
  have e : sh_rep T I J = sh_rep T I (sh_zl J T.length) := sh_rep_ext (fun _ _ => rfl) (fun a ha => by funext i; unfold sh_zl; rw [if_neg (by omega)])
  have z : sh_zl J T.length T.length = fun _ => 0 := by
    funext i
    unfold sh_zl
    rw [if_pos rfl]
  rw [← sh_rep_push, e]
  show _ ++ [(.inl (2, n, .inr (.inl (fun _ => 0))) : sh_E)] = _ ++ [.inl (2, n, .inr (.inl (sh_zl J T.length T.length)))]
  rw [z]
end Lay
/-- Arrays.copyOf of an array of bytes, to one that is longer -/
theorem sh_c20 {T : List sh_Tg} {I : Nat → Nat → Int32} {J : Nat → Nat → Int64} {sc : sh_S} {a n n2 : Nat} (hT : T[a]? = some (.inl (1, n))) (hn : n < n2) (hn2 : n2 ≤ 1000000) (hL : T.length < 1000000) (hb : sh_byb I a n = true) :
    sh_To sh_G0 sc 20 0 [(0, .ref (a + 1)), (1, .int (Int32.ofNat n2))] [] (sh_rep T I J) (.returned (some (.ref (T.length + 1)))) (sh_rep (T ++ [.inl (1, n2)]) (sh_cp I a T.length n) J) (1, n2, 9, 221) := by
  have hal : a < T.length := (List.getElem?_eq_some_iff.mp hT).1
  refine sh_w (i := .iload_n 1) (len := 1) (pc2 := 1) (lv2 := [(0, .ref (a + 1)), (1, .int (Int32.ofNat n2))]) (st2 := [.int (Int32.ofNat n2)]) (h2 := sh_rep T I J) rfl rfl rfl ?_
  refine sh_w (i := .aload_n 0) (len := 1) (pc2 := 2) (lv2 := [(0, .ref (a + 1)), (1, .int (Int32.ofNat n2))]) (st2 := [.ref (a + 1), .int (Int32.ofNat n2)]) (h2 := sh_rep T I J) rfl rfl rfl ?_
  refine sh_al1 (pc2 := 3) rfl hT (by decide) rfl ?_
  refine sh_jc (pc2 := 14) true rfl (sh_Bnet (fun e => by have := congrArg Int32.toInt e; rw [sh_ofN (by omega), sh_ofN (by omega)] at this; omega)) rfl ?_
  refine sh_w (i := .iload_n 1) (len := 1) (pc2 := 15) (lv2 := [(0, .ref (a + 1)), (1, .int (Int32.ofNat n2))]) (st2 := [.int (Int32.ofNat n2)]) (h2 := sh_rep T I J) rfl rfl rfl ?_
  refine sh_To_le (v := (1 + 0, n2 + 0, 9, 221)) ⟨Nat.le_refl _, Nat.le_refl _, Nat.le_refl _, Nat.le_refl _⟩ ?_
  refine sh_wnx (v := (0, 0, 9, 221)) (i := .newarray .byte) (len := 2) (pc2 := 17) (lv2 := [(0, .ref (a + 1)), (1, .int (Int32.ofNat n2))]) (st2 := [.ref (T.length + 1)]) (h2 := sh_rep (T ++ [.inl (1, n2)]) (sh_zc I T.length) J) (dc := 1) (ds := n2) rfl rfl ?_ ?_
  · show (if ¬ Int32.ofNat n2 < 0 ∧ (Int32.ofNat n2).toNatClampNeg ≤ 1000000 ∧ (sh_rep T I J).length < 1000000 then some (_, _, [Value.ref ((sh_rep T I J).length + 1)], sh_rep T I J ++ [.inl (1, sh_new0 1 (Int32.ofNat n2).toNatClampNeg)], 1, (Int32.ofNat n2).toNatClampNeg) else none) = _
    rw [sh_ofNn (by omega), sh_rep_len, if_pos ⟨sh_ofNneg (by omega), hn2, hL⟩, sh_rep_newI (by decide)]
  refine sh_w (i := .astore_n 2) (len := 1) (pc2 := 18) (lv2 := [(2, .ref (T.length + 1)), (0, .ref (a + 1)), (1, .int (Int32.ofNat n2))]) (st2 := []) (h2 := sh_rep (T ++ [.inl (1, n2)]) (sh_zc I T.length) J) rfl rfl rfl ?_
  refine sh_w (i := .aload_n 0) (len := 1) (pc2 := 19) (lv2 := [(2, .ref (T.length + 1)), (0, .ref (a + 1)), (1, .int (Int32.ofNat n2))]) (st2 := [.ref (a + 1)]) (h2 := sh_rep (T ++ [.inl (1, n2)]) (sh_zc I T.length) J) rfl rfl rfl ?_
  refine sh_w (i := .iconst 0) (len := 1) (pc2 := 20) (lv2 := [(2, .ref (T.length + 1)), (0, .ref (a + 1)), (1, .int (Int32.ofNat n2))]) (st2 := [.int 0, .ref (a + 1)]) (h2 := sh_rep (T ++ [.inl (1, n2)]) (sh_zc I T.length) J) rfl rfl rfl ?_
  refine sh_w (i := .aload_n 2) (len := 1) (pc2 := 21) (lv2 := [(2, .ref (T.length + 1)), (0, .ref (a + 1)), (1, .int (Int32.ofNat n2))]) (st2 := [.ref (T.length + 1), .int 0, .ref (a + 1)]) (h2 := sh_rep (T ++ [.inl (1, n2)]) (sh_zc I T.length) J) rfl rfl rfl ?_
  refine sh_w (i := .iconst 0) (len := 1) (pc2 := 22) (lv2 := [(2, .ref (T.length + 1)), (0, .ref (a + 1)), (1, .int (Int32.ofNat n2))]) (st2 := [.int 0, .ref (T.length + 1), .int 0, .ref (a + 1)]) (h2 := sh_rep (T ++ [.inl (1, n2)]) (sh_zc I T.length) J) rfl rfl rfl ?_
  refine sh_w (i := .aload_n 0) (len := 1) (pc2 := 23) (lv2 := [(2, .ref (T.length + 1)), (0, .ref (a + 1)), (1, .int (Int32.ofNat n2))]) (st2 := [.ref (a + 1), .int 0, .ref (T.length + 1), .int 0, .ref (a + 1)]) (h2 := sh_rep (T ++ [.inl (1, n2)]) (sh_zc I T.length) J) rfl rfl rfl ?_
  refine sh_al1 (pc2 := 24) rfl (sh_tapp hT) (by decide) rfl ?_
  refine sh_w (i := .iload_n 1) (len := 1) (pc2 := 25) (lv2 := [(2, .ref (T.length + 1)), (0, .ref (a + 1)), (1, .int (Int32.ofNat n2))]) (st2 := [.int (Int32.ofNat n2), .int (Int32.ofNat n), .int 0, .ref (T.length + 1), .int 0, .ref (a + 1)]) (h2 := sh_rep (T ++ [.inl (1, n2)]) (sh_zc I T.length) J) rfl rfl rfl ?_
  refine sh_To_le (v := sh_seq 2 (0, 0, 8, 200) (0, 0, 8, 200)) ⟨Nat.le_of_ble_eq_true rfl, Nat.le_of_ble_eq_true rfl, Nat.le_of_ble_eq_true rfl, Nat.le_of_ble_eq_true rfl⟩ ?_
  refine sh_cS (k2 := 21) (pc2 := 28) (as := [.int (Int32.ofNat n), .int (Int32.ofNat n2)]) (rest := [.int 0, .ref (T.length + 1), .int 0, .ref (a + 1)]) (st2 := [.int (Int32.ofNat n), .int 0, .ref (T.length + 1), .int 0, .ref (a + 1)]) (kd := 1) rfl rfl (Or.inl rfl) (Nat.le_of_ble_eq_true rfl) rfl rfl ⟨Nat.le_of_ble_eq_true rfl, Nat.le_of_ble_eq_true rfl⟩ (hm := sh_T21m (sh_ofNnlt (by omega) (by omega))) rfl rfl ?_
  refine sh_wcp (pc2 := 31) (st2 := []) (h2 := sh_rep (T ++ [.inl (1, n2)]) (sh_cp I a T.length n) J) rfl rfl ?_ rfl ?_
  · unfold sh_cpK
    dsimp only
    rw [sh_rep_get (sh_tapp hT), sh_rep_get (t := .inl (1, n2)) (by rw [List.getElem?_append_right (Nat.le_refl _), Nat.sub_self]; rfl), sh_cellI (by decide), sh_cellI (by decide)]
    dsimp only
    rw [sh_ofNn (j := n) (by omega), if_pos]
    · simp only [Option.some.injEq, Prod.mk.injEq, and_true, true_and]
      refine sh_rep_set (t := .inl (1, n2)) (t2 := .inl (1, n2)) (I2 := sh_cp I a T.length n) (J2 := J) (by rw [List.getElem?_append_right (Nat.le_refl _), Nat.sub_self]; rfl) ?_ (fun b hb => ?_) (fun _ _ => rfl) |>.trans ?_
      · rw [sh_cellI (by decide)]
        congr 4
        funext i
        have e1 : sh_zc I T.length a = I a := by
          funext i
          unfold sh_zc
          rw [if_neg (by omega)]
        have e2 : sh_zc I T.length T.length i = 0 := if_pos rfl
        have e3 : sh_cp I a T.length n T.length i = if i < n then I a i else 0 := if_pos rfl
        unfold va_cpy
        rw [e1, e2, e3]
        show (if 0 ≤ i ∧ i < 0 + n then I a (0 + (i - 0)) else 0) = _
        by_cases hi : i < n
        · rw [if_pos ⟨Nat.zero_le _, by omega⟩, if_pos hi, Nat.zero_add, Nat.sub_zero]
        · rw [if_neg (by omega), if_neg hi]
      · funext i
        unfold sh_cp sh_zc
        rw [if_neg hb, if_neg hb]
      · rw [sh_set_id (by rw [List.getElem?_append_right (Nat.le_refl _), Nat.sub_self]; rfl)]
    · refine ⟨rfl, Or.inr (Or.inl rfl), by decide, by decide, sh_ofNneg (by omega), by show 0 + n ≤ n; omega, by show 0 + n ≤ n2; omega, ?_, by decide⟩
      rw [List.all_eq_true]
      intro i hi
      have h9 := List.all_eq_true.mp hb i hi
      show (decide (-128 ≤ sh_zc I T.length a (0 + i)) && decide (sh_zc I T.length a (0 + i) ≤ 127)) = true
      unfold sh_zc
      rw [if_neg (by omega), Nat.zero_add]
      exact h9
  refine sh_w (i := .aload_n 2) (len := 1) (pc2 := 32) (lv2 := [(2, .ref (T.length + 1)), (0, .ref (a + 1)), (1, .int (Int32.ofNat n2))]) (st2 := [.ref (T.length + 1)]) (h2 := sh_rep (T ++ [.inl (1, n2)]) (sh_cp I a T.length n) J) rfl rfl rfl ?_
  exact sh_wret (i := .areturn) (len := 1) rfl rfl rfl
/-- Arrays.copyOf of an array of ints, to one that is longer -/
theorem sh_c22 {T : List sh_Tg} {I : Nat → Nat → Int32} {J : Nat → Nat → Int64} {sc : sh_S} {a n n2 : Nat} (hT : T[a]? = some (.inl (0, n))) (hn : n < n2) (hn2 : n2 ≤ 1000000) (hL : T.length < 1000000) (hb : True) :
    sh_To sh_G0 sc 22 0 [(0, .ref (a + 1)), (1, .int (Int32.ofNat n2))] [] (sh_rep T I J) (.returned (some (.ref (T.length + 1)))) (sh_rep (T ++ [.inl (0, n2)]) (sh_cp I a T.length n) J) (1, n2, 9, 221) := by
  have hal : a < T.length := (List.getElem?_eq_some_iff.mp hT).1
  refine sh_w (i := .iload_n 1) (len := 1) (pc2 := 1) (lv2 := [(0, .ref (a + 1)), (1, .int (Int32.ofNat n2))]) (st2 := [.int (Int32.ofNat n2)]) (h2 := sh_rep T I J) rfl rfl rfl ?_
  refine sh_w (i := .aload_n 0) (len := 1) (pc2 := 2) (lv2 := [(0, .ref (a + 1)), (1, .int (Int32.ofNat n2))]) (st2 := [.ref (a + 1), .int (Int32.ofNat n2)]) (h2 := sh_rep T I J) rfl rfl rfl ?_
  refine sh_al1 (pc2 := 3) rfl hT (by decide) rfl ?_
  refine sh_jc (pc2 := 14) true rfl (sh_Bnet (fun e => by have := congrArg Int32.toInt e; rw [sh_ofN (by omega), sh_ofN (by omega)] at this; omega)) rfl ?_
  refine sh_w (i := .iload_n 1) (len := 1) (pc2 := 15) (lv2 := [(0, .ref (a + 1)), (1, .int (Int32.ofNat n2))]) (st2 := [.int (Int32.ofNat n2)]) (h2 := sh_rep T I J) rfl rfl rfl ?_
  refine sh_To_le (v := (1 + 0, n2 + 0, 9, 221)) ⟨Nat.le_refl _, Nat.le_refl _, Nat.le_refl _, Nat.le_refl _⟩ ?_
  refine sh_wnx (v := (0, 0, 9, 221)) (i := .newarray .int) (len := 2) (pc2 := 17) (lv2 := [(0, .ref (a + 1)), (1, .int (Int32.ofNat n2))]) (st2 := [.ref (T.length + 1)]) (h2 := sh_rep (T ++ [.inl (0, n2)]) (sh_zc I T.length) J) (dc := 1) (ds := n2) rfl rfl ?_ ?_
  · show (if ¬ Int32.ofNat n2 < 0 ∧ (Int32.ofNat n2).toNatClampNeg ≤ 1000000 ∧ (sh_rep T I J).length < 1000000 then some (_, _, [Value.ref ((sh_rep T I J).length + 1)], sh_rep T I J ++ [.inl (0, sh_new0 0 (Int32.ofNat n2).toNatClampNeg)], 1, (Int32.ofNat n2).toNatClampNeg) else none) = _
    rw [sh_ofNn (by omega), sh_rep_len, if_pos ⟨sh_ofNneg (by omega), hn2, hL⟩, sh_rep_newI (by decide)]
  refine sh_w (i := .astore_n 2) (len := 1) (pc2 := 18) (lv2 := [(2, .ref (T.length + 1)), (0, .ref (a + 1)), (1, .int (Int32.ofNat n2))]) (st2 := []) (h2 := sh_rep (T ++ [.inl (0, n2)]) (sh_zc I T.length) J) rfl rfl rfl ?_
  refine sh_w (i := .aload_n 0) (len := 1) (pc2 := 19) (lv2 := [(2, .ref (T.length + 1)), (0, .ref (a + 1)), (1, .int (Int32.ofNat n2))]) (st2 := [.ref (a + 1)]) (h2 := sh_rep (T ++ [.inl (0, n2)]) (sh_zc I T.length) J) rfl rfl rfl ?_
  refine sh_w (i := .iconst 0) (len := 1) (pc2 := 20) (lv2 := [(2, .ref (T.length + 1)), (0, .ref (a + 1)), (1, .int (Int32.ofNat n2))]) (st2 := [.int 0, .ref (a + 1)]) (h2 := sh_rep (T ++ [.inl (0, n2)]) (sh_zc I T.length) J) rfl rfl rfl ?_
  refine sh_w (i := .aload_n 2) (len := 1) (pc2 := 21) (lv2 := [(2, .ref (T.length + 1)), (0, .ref (a + 1)), (1, .int (Int32.ofNat n2))]) (st2 := [.ref (T.length + 1), .int 0, .ref (a + 1)]) (h2 := sh_rep (T ++ [.inl (0, n2)]) (sh_zc I T.length) J) rfl rfl rfl ?_
  refine sh_w (i := .iconst 0) (len := 1) (pc2 := 22) (lv2 := [(2, .ref (T.length + 1)), (0, .ref (a + 1)), (1, .int (Int32.ofNat n2))]) (st2 := [.int 0, .ref (T.length + 1), .int 0, .ref (a + 1)]) (h2 := sh_rep (T ++ [.inl (0, n2)]) (sh_zc I T.length) J) rfl rfl rfl ?_
  refine sh_w (i := .aload_n 0) (len := 1) (pc2 := 23) (lv2 := [(2, .ref (T.length + 1)), (0, .ref (a + 1)), (1, .int (Int32.ofNat n2))]) (st2 := [.ref (a + 1), .int 0, .ref (T.length + 1), .int 0, .ref (a + 1)]) (h2 := sh_rep (T ++ [.inl (0, n2)]) (sh_zc I T.length) J) rfl rfl rfl ?_
  refine sh_al1 (pc2 := 24) rfl (sh_tapp hT) (by decide) rfl ?_
  refine sh_w (i := .iload_n 1) (len := 1) (pc2 := 25) (lv2 := [(2, .ref (T.length + 1)), (0, .ref (a + 1)), (1, .int (Int32.ofNat n2))]) (st2 := [.int (Int32.ofNat n2), .int (Int32.ofNat n), .int 0, .ref (T.length + 1), .int 0, .ref (a + 1)]) (h2 := sh_rep (T ++ [.inl (0, n2)]) (sh_zc I T.length) J) rfl rfl rfl ?_
  refine sh_To_le (v := sh_seq 2 (0, 0, 8, 200) (0, 0, 8, 200)) ⟨Nat.le_of_ble_eq_true rfl, Nat.le_of_ble_eq_true rfl, Nat.le_of_ble_eq_true rfl, Nat.le_of_ble_eq_true rfl⟩ ?_
  refine sh_cS (k2 := 21) (pc2 := 28) (as := [.int (Int32.ofNat n), .int (Int32.ofNat n2)]) (rest := [.int 0, .ref (T.length + 1), .int 0, .ref (a + 1)]) (st2 := [.int (Int32.ofNat n), .int 0, .ref (T.length + 1), .int 0, .ref (a + 1)]) (kd := 1) rfl rfl (Or.inl rfl) (Nat.le_of_ble_eq_true rfl) rfl rfl ⟨Nat.le_of_ble_eq_true rfl, Nat.le_of_ble_eq_true rfl⟩ (hm := sh_T21m (sh_ofNnlt (by omega) (by omega))) rfl rfl ?_
  refine sh_wcp (pc2 := 31) (st2 := []) (h2 := sh_rep (T ++ [.inl (0, n2)]) (sh_cp I a T.length n) J) rfl rfl ?_ rfl ?_
  · unfold sh_cpK
    dsimp only
    rw [sh_rep_get (sh_tapp hT), sh_rep_get (t := .inl (0, n2)) (by rw [List.getElem?_append_right (Nat.le_refl _), Nat.sub_self]; rfl), sh_cellI (by decide), sh_cellI (by decide)]
    dsimp only
    rw [sh_ofNn (j := n) (by omega), if_pos]
    · simp only [Option.some.injEq, Prod.mk.injEq, and_true, true_and]
      refine sh_rep_set (t := .inl (0, n2)) (t2 := .inl (0, n2)) (I2 := sh_cp I a T.length n) (J2 := J) (by rw [List.getElem?_append_right (Nat.le_refl _), Nat.sub_self]; rfl) ?_ (fun b hb => ?_) (fun _ _ => rfl) |>.trans ?_
      · rw [sh_cellI (by decide)]
        congr 4
        funext i
        have e1 : sh_zc I T.length a = I a := by
          funext i
          unfold sh_zc
          rw [if_neg (by omega)]
        have e2 : sh_zc I T.length T.length i = 0 := if_pos rfl
        have e3 : sh_cp I a T.length n T.length i = if i < n then I a i else 0 := if_pos rfl
        unfold va_cpy
        rw [e1, e2, e3]
        show (if 0 ≤ i ∧ i < 0 + n then I a (0 + (i - 0)) else 0) = _
        by_cases hi : i < n
        · rw [if_pos ⟨Nat.zero_le _, by omega⟩, if_pos hi, Nat.zero_add, Nat.sub_zero]
        · rw [if_neg (by omega), if_neg hi]
      · funext i
        unfold sh_cp sh_zc
        rw [if_neg hb, if_neg hb]
      · rw [sh_set_id (by rw [List.getElem?_append_right (Nat.le_refl _), Nat.sub_self]; rfl)]
    · refine ⟨rfl, Or.inl rfl, by decide, by decide, sh_ofNneg (by omega), by show 0 + n ≤ n; omega, by show 0 + n ≤ n2; omega, ?_, by decide⟩
      rw [List.all_eq_true]
      intro i hi
      rfl
  refine sh_w (i := .aload_n 2) (len := 1) (pc2 := 32) (lv2 := [(2, .ref (T.length + 1)), (0, .ref (a + 1)), (1, .int (Int32.ofNat n2))]) (st2 := [.ref (T.length + 1)]) (h2 := sh_rep (T ++ [.inl (0, n2)]) (sh_cp I a T.length n) J) rfl rfl rfl ?_
  exact sh_wret (i := .areturn) (len := 1) rfl rfl rfl

section Set
variable {T : List sh_Tg}
theorem sh_set_inl {a c : Nat} {q : Nat × Nat} {z : Nat × List (Nat ⊕ Value)} {x : sh_Tg} (h : T[a]? = some (Sum.inl q : sh_Tg)) (hc : T[c]? = some (.inr z)) : (T.set c x)[a]? = some (Sum.inl q : sh_Tg) := by
  have hne : c ≠ a := fun e => by subst e; rw [h] at hc; cases hc
  rw [List.getElem?_set_ne hne]
  exact h
theorem sh_rf_set {a c f : Nat} {x : sh_Tg} (h : c ≠ a) : sh_rf (T.set c x) a f = sh_rf T a f := by
  unfold sh_rf
  rw [List.getElem?_set_ne h]
theorem sh_lnk {a t n : Nat} (h : T[a]? = some (.inl (t, n))) : T[a]? = some (.inl (t, sh_ln T a)) := by
  unfold sh_ln
  rw [h]
theorem sh_dset {a c t : Nat} {z : Nat × List (Nat ⊕ Value)} {x : sh_Tg} (h : T[a]? = some (.inl (t, sh_ln T a))) (hc : T[c]? = some (.inr z)) : (T.set c x)[a]? = some (.inl (t, sh_ln (T.set c x) a)) := sh_lnk (sh_set_inl h hc)
theorem sh_kp_set {c : Nat} {z : Nat × List (Nat ⊕ Value)} {x : sh_Tg} (hc : T[c]? = some (.inr z)) : sh_kp T (T.set c x) := fun _ _ h => sh_set_inl h hc
theorem sh_DD.x2 (h : sh_DD T) {a n : Nat} (ha : T[a]? = some (.inl (1, n))) : sh_DD (T.set 2 (.inr (1, [.inr (.ref 4), .inr (.ref 5), .inr (.ref 6), .inr (.ref 7), .inr (.ref 8), .inr (.ref (a + 1)), .inl 0, .inl 0, .inl 0, .inl 0, .inl 0]))) := by
  have e : sh_rf (T.set 2 (.inr (1, [.inr (.ref 4), .inr (.ref 5), .inr (.ref 6), .inr (.ref 7), .inr (.ref 8), .inr (.ref (a + 1)), .inl 0, .inl 0, .inl 0, .inl 0, .inl 0]))) 2 5 = a := by
    unfold sh_rf
    rw [sh_tself h.t2]
    rfl
  exact sh_DD.mk (len := by rw [List.length_set]; exact h.len) (st := sh_St.set h.st (Or.inl rfl)) (t2 := by rw [e]; exact sh_tself h.t2) (a2_5 := by rw [e]; exact sh_lnk (sh_set_inl ha h.t2))
    (t9 := by rw [sh_rf_set (by decide), sh_rf_set (by decide), sh_rf_set (by decide)]; exact sh_tne (by decide) h.t9) (a9_0 := by rw [sh_rf_set (by decide)]; exact sh_dset h.a9_0 h.t2) (a9_1 := by rw [sh_rf_set (by decide)]; exact sh_dset h.a9_1 h.t2) (a9_2 := by rw [sh_rf_set (by decide)]; exact sh_dset h.a9_2 h.t2)
    (t58 := by rw [sh_rf_set (by decide)]; exact sh_tne (by decide) h.t58) (a58_5 := by rw [sh_rf_set (by decide)]; exact sh_dset h.a58_5 h.t2)
    (t61 := by rw [sh_rf_set (by decide), sh_rf_set (by decide)]; exact sh_tne (by decide) h.t61) (a61_3 := by rw [sh_rf_set (by decide)]; exact sh_dset h.a61_3 h.t2) (a61_4 := by rw [sh_rf_set (by decide)]; exact sh_dset h.a61_4 h.t2)
theorem sh_DD.x58 (h : sh_DD T) {a n : Nat} (ha : T[a]? = some (.inl (1, n))) : sh_DD (T.set 58 (.inr (10, [.inr (.ref 10), .inr (.ref 14), .inr (.ref 19), .inr (.ref 24), .inr (.ref 60), .inr (.ref (a + 1)), .inl 0, .inl 0, .inl 0, .inl 0, .inl 0, .inl 0]))) := by
  have e : sh_rf (T.set 58 (.inr (10, [.inr (.ref 10), .inr (.ref 14), .inr (.ref 19), .inr (.ref 24), .inr (.ref 60), .inr (.ref (a + 1)), .inl 0, .inl 0, .inl 0, .inl 0, .inl 0, .inl 0]))) 58 5 = a := by
    unfold sh_rf
    rw [sh_tself h.t58]
    rfl
  exact sh_DD.mk (len := by rw [List.length_set]; exact h.len) (st := sh_St.set h.st (Or.inr (Or.inr (Or.inl rfl)))) (t58 := by rw [e]; exact sh_tself h.t58) (a58_5 := by rw [e]; exact sh_lnk (sh_set_inl ha h.t58))
    (t9 := by rw [sh_rf_set (by decide), sh_rf_set (by decide), sh_rf_set (by decide)]; exact sh_tne (by decide) h.t9) (a9_0 := by rw [sh_rf_set (by decide)]; exact sh_dset h.a9_0 h.t58) (a9_1 := by rw [sh_rf_set (by decide)]; exact sh_dset h.a9_1 h.t58) (a9_2 := by rw [sh_rf_set (by decide)]; exact sh_dset h.a9_2 h.t58)
    (t2 := by rw [sh_rf_set (by decide)]; exact sh_tne (by decide) h.t2) (a2_5 := by rw [sh_rf_set (by decide)]; exact sh_dset h.a2_5 h.t58)
    (t61 := by rw [sh_rf_set (by decide), sh_rf_set (by decide)]; exact sh_tne (by decide) h.t61) (a61_3 := by rw [sh_rf_set (by decide)]; exact sh_dset h.a61_3 h.t58) (a61_4 := by rw [sh_rf_set (by decide)]; exact sh_dset h.a61_4 h.t58)
theorem sh_DD.x9 (h : sh_DD T) {a b c na nb nc : Nat} (ha : T[a]? = some (.inl (1, na))) (hb : T[b]? = some (.inl (0, nb))) (hc : T[c]? = some (.inl (0, nc))) : sh_DD (T.set 9 (sh_gt a b c)) := by
  have e0 : sh_rf (T.set 9 (sh_gt a b c)) 9 0 = a := by
    unfold sh_rf
    rw [sh_tself h.t9]
    rfl
  have e1 : sh_rf (T.set 9 (sh_gt a b c)) 9 1 = b := by
    unfold sh_rf
    rw [sh_tself h.t9]
    rfl
  have e2 : sh_rf (T.set 9 (sh_gt a b c)) 9 2 = c := by
    unfold sh_rf
    rw [sh_tself h.t9]
    rfl
  exact sh_DD.mk (len := by rw [List.length_set]; exact h.len) (st := sh_St.set h.st (Or.inr (Or.inl rfl))) (t9 := by rw [e0, e1, e2]; exact sh_tself h.t9) (a9_0 := by rw [e0]; exact sh_lnk (sh_set_inl ha h.t9)) (a9_1 := by rw [e1]; exact sh_lnk (sh_set_inl hb h.t9)) (a9_2 := by rw [e2]; exact sh_lnk (sh_set_inl hc h.t9))
    (t2 := by rw [sh_rf_set (by decide)]; exact sh_tne (by decide) h.t2) (a2_5 := by rw [sh_rf_set (by decide)]; exact sh_dset h.a2_5 h.t9)
    (t58 := by rw [sh_rf_set (by decide)]; exact sh_tne (by decide) h.t58) (a58_5 := by rw [sh_rf_set (by decide)]; exact sh_dset h.a58_5 h.t9)
    (t61 := by rw [sh_rf_set (by decide), sh_rf_set (by decide)]; exact sh_tne (by decide) h.t61) (a61_3 := by rw [sh_rf_set (by decide)]; exact sh_dset h.a61_3 h.t9) (a61_4 := by rw [sh_rf_set (by decide)]; exact sh_dset h.a61_4 h.t9)
theorem sh_DD.x61 (h : sh_DD T) {a b na nb : Nat} (ha : T[a]? = some (.inl (2, na))) (hb : T[b]? = some (.inl (2, nb))) : sh_DD (T.set 61 (sh_gb a b)) := by
  have e0 : sh_rf (T.set 61 (sh_gb a b)) 61 3 = a := by
    unfold sh_rf
    rw [sh_tself h.t61]
    rfl
  have e1 : sh_rf (T.set 61 (sh_gb a b)) 61 4 = b := by
    unfold sh_rf
    rw [sh_tself h.t61]
    rfl
  exact sh_DD.mk (len := by rw [List.length_set]; exact h.len) (st := sh_St.set h.st (Or.inr (Or.inr (Or.inr rfl)))) (t61 := by rw [e0, e1]; exact sh_tself h.t61) (a61_3 := by rw [e0]; exact sh_lnk (sh_set_inl ha h.t61)) (a61_4 := by rw [e1]; exact sh_lnk (sh_set_inl hb h.t61))
    (t9 := by rw [sh_rf_set (by decide), sh_rf_set (by decide), sh_rf_set (by decide)]; exact sh_tne (by decide) h.t9) (a9_0 := by rw [sh_rf_set (by decide)]; exact sh_dset h.a9_0 h.t61) (a9_1 := by rw [sh_rf_set (by decide)]; exact sh_dset h.a9_1 h.t61) (a9_2 := by rw [sh_rf_set (by decide)]; exact sh_dset h.a9_2 h.t61)
    (t2 := by rw [sh_rf_set (by decide)]; exact sh_tne (by decide) h.t2) (a2_5 := by rw [sh_rf_set (by decide)]; exact sh_dset h.a2_5 h.t61)
    (t58 := by rw [sh_rf_set (by decide)]; exact sh_tne (by decide) h.t58) (a58_5 := by rw [sh_rf_set (by decide)]; exact sh_dset h.a58_5 h.t61)
end Set
section LinkH
variable {T : List sh_Tg} {I : Nat → Nat → Int32} {J : Nat → Nat → Int64} {s k pc pc2 idx F W : Nat} {lv : sh_Ls} {r : List Value} {o : Outcome} {m m2 : sh_X}
/-- the text that is read becomes the tape -/
theorem sh_Lk_x2 (hi : sh_gI sh_G0 k pc = some (.putfield idx, 3)) (hg : sh_gF sh_G0 (sh_On sh_G0 k) idx = some (1, 5, .array .byte, false)) (hp : pc + 3 = pc2) (kk : sh_Lk k pc2 lv r ⟨sh_tx2 T, I, J, s⟩ o m2 F W) : sh_Lk k pc lv (.ref 2 :: .ref 3 :: r) ⟨T, I, J, s⟩ o m2 F W := by
  intro fm hfm hD
  obtain ⟨a1, a2, a3, c, s1, a4, a5, a6⟩ := kk fm hfm (hD.x2 (sh_s1 hD.st))
  refine ⟨a1, a2, fun a q h => a3 a q (sh_kp_set hD.t2 a q h), c, s1, ?_, ?_, a6⟩
  · exact sh_pR1 (fs2 := []) (ty := .array .byte) (w := .ref 2) hi hg hD.t2 (Nat.le_of_ble_eq_true rfl) rfl (Or.inl rfl) rfl hp a4
  · have : (sh_tx2 T).length = T.length := List.length_set
    show c + T.length = _
    rw [← this]
    exact a5
theorem sh_Lk_x58 (hi : sh_gI sh_G0 k pc = some (.putfield idx, 3)) (hg : sh_gF sh_G0 (sh_On sh_G0 k) idx = some (10, 5, .array .byte, false)) (hp : pc + 3 = pc2) (kk : sh_Lk k pc2 lv r ⟨sh_tx58 T, I, J, s⟩ o m2 F W) : sh_Lk k pc lv (.ref 2 :: .ref 59 :: r) ⟨T, I, J, s⟩ o m2 F W := by
  intro fm hfm hD
  obtain ⟨a1, a2, a3, c, s1, a4, a5, a6⟩ := kk fm hfm (hD.x58 (sh_s1 hD.st))
  refine ⟨a1, a2, fun a q h => a3 a q (sh_kp_set hD.t58 a q h), c, s1, ?_, ?_, a6⟩
  · exact sh_pR1 (fs2 := []) (ty := .array .byte) (w := .ref 2) hi hg hD.t58 (Nat.le_of_ble_eq_true rfl) rfl (Or.inl rfl) rfl hp a4
  · have : (sh_tx58 T).length = T.length := List.length_set
    show c + T.length = _
    rw [← this]
    exact a5
/-- Arrays.fill -/
theorem sl_184 {a n : Nat} {x : Int32} {z : Unit × sh_X} (ha : sh_DD m.T → m.T[a]? = some (.inl (0, n))) (hn : n < 2147483647) (e : sf_184 a x m = some z) (tg : sh_tV o m2 z) : sh_Lk 184 0 [(0, .ref (a + 1)), (1, .int x)] [] m o m2 10 300 := by
  obtain rfl := Option.some.inj e
  obtain ⟨rfl, rfl⟩ := tg
  intro fm hfm hD
  have hT := ha hD
  refine ⟨hD, (fun _ h => by cases h), fun _ _ h => h, 0, 0, ?_, Nat.zero_add _, Nat.zero_add _⟩
  have e2 : sh_ln m.T a = n := by unfold sh_ln; rw [hT]
  have h9 := sh_c184 (sc := (none, fm)) (I := m.I) (J := m.J) (x := x) hn hT
  rw [← e2] at h9
  exact h9
end LinkH
