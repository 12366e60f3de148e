/-! LINKS to the machine: locals that are left over do no harm; the rows of a link -/
section Sub
variable {G : sh_G} {sc : sh_S}
/-- the locals L are among lv -/
def sh_sub (L lv : sh_Ls) : Prop := ∀ q ∈ L, lv.lookup q.1 = some q.2
theorem sh_sub_n {lv : sh_Ls} : sh_sub [] lv := fun _ h => by cases h
theorem sh_sub_c {lv L : sh_Ls} {i : Nat} {v : Value} (h : lv.lookup i = some v) (hr : sh_sub L lv) : sh_sub ((i, v) :: L) lv := by
  intro q hq
  rcases List.mem_cons.mp hq with rfl | hq
  · exact h
  · exact hr q hq
theorem sh_lk_mem {L : sh_Ls} {i : Nat} {v : Value} (h : L.lookup i = some v) : (i, v) ∈ L := by
  induction L with
  | nil => cases h
  | cons q r ih =>
    obtain ⟨j, w⟩ := q
    rw [List.lookup_cons] at h
    by_cases hj : (i == j) = true
    · rw [hj] at h
      have hij : i = j := by simpa using hj
      subst hij
      cases h
      exact List.mem_cons_self
    · have hj' : (i == j) = false := by simpa using hj
      rw [hj'] at h
      exact List.mem_cons_of_mem _ (ih h)
theorem sh_sub_get {L lv : sh_Ls} (hs : sh_sub L lv) {i : Nat} {v : Value} (h : L.lookup i = some v) : lv.lookup i = some v := hs _ (sh_lk_mem h)
theorem sh_lk_filter {lv : sh_Ls} {p : Nat × Value → Bool} {i : Nat} {v : Value} (h : lv.lookup i = some v) (hp : p (i, v) = true) : (lv.filter p).lookup i = some v := by
  induction lv with
  | nil => cases h
  | cons q r ih =>
    obtain ⟨j, w⟩ := q
    rw [List.lookup_cons] at h
    by_cases hj : (i == j) = true
    · rw [hj] at h
      have hij : i = j := by simpa using hj
      subst hij
      cases h
      rw [List.filter_cons, if_pos hp, List.lookup_cons]
      simp
    · have hj' : (i == j) = false := by simpa using hj
      rw [hj'] at h
      rw [List.filter_cons]
      split
      · rw [List.lookup_cons, hj']
        exact ih h
      · exact ih h
theorem sh_sub_st {L lv : sh_Ls} (hs : sh_sub L lv) {i : Nat} {v : Value} {p : Nat × Value → Bool} (hp : ∀ q, p q = true → q.1 ≠ i) : sh_sub ((i, v) :: L.filter p) ((i, v) :: lv.filter p) := by
  intro q hq
  rcases List.mem_cons.mp hq with rfl | hq
  · rw [List.lookup_cons]; simp
  · obtain ⟨h1, h2⟩ := List.mem_filter.mp hq
    have hne : (q.1 == i) = false := by simpa using hp q h2
    rw [List.lookup_cons, hne]
    exact sh_lk_filter (hs q h1) h2
theorem sh_sub_1 {L lv : sh_Ls} (hs : sh_sub L lv) (i : Nat) (v : Value) : sh_sub (sh_st1 i v L) (sh_st1 i v lv) := sh_sub_st hs (fun q h => by simp at h; exact h.1)
theorem sh_sub_2 {L lv : sh_Ls} (hs : sh_sub L lv) (i : Nat) (v : Value) : sh_sub (sh_st2 i v L) (sh_st2 i v lv) := sh_sub_st hs (fun q h => by simp at h; exact h.1)
def sh_lvI : Instr → Bool
  | .iload _ | .iload_n _ | .lload _ | .lload_n _ | .aload _ | .aload_n _ | .istore _ | .istore_n _ | .lstore _ | .lstore_n _ | .astore _ | .astore_n _ | .iinc _ _ => true
  | _ => false
theorem sh_ast_lv {t0 : Nat} {nar : Int32 → Int32} {pc : Nat} {st : List Value} {h : sh_H} (lv : sh_Ls) : sh_ast t0 nar pc lv st h = (sh_ast t0 nar pc [] st h).map (fun r => (r.1, lv, r.2.2)) := by
  unfold sh_ast
  repeat' split
  all_goals rfl
theorem sh_bast_lv {pc : Nat} {st : List Value} {h : sh_H} (lv : sh_Ls) : sh_bast pc lv st h = (sh_bast pc [] st h).map (fun r => (r.1, lv, r.2.2)) := by
  unfold sh_bast
  rw [sh_ast_lv (t0 := 1) lv, sh_ast_lv (t0 := 3) lv]
  cases sh_ast 1 (vp_nar .byte) pc [] st h <;> rfl
theorem sh_alt_lv {x y x2 y2 : Option sh_N} {f : sh_N → sh_N} (hx : x = x2.map f) (hy : y = y2.map f) : sh_alt x y = (sh_alt x2 y2).map f := by
  rw [hx, hy]
  cases x2 <;> rfl
theorem sh_get_lv {k idx pc : Nat} {st : List Value} {h : sh_H} (lv : sh_Ls) : sh_get G k idx pc lv st h = (sh_get G k idx pc [] st h).map (fun r => (r.1, lv, r.2.2)) := by
  unfold sh_get
  repeat' split
  all_goals rfl
theorem sh_getK_lv {k idx pc : Nat} {st : List Value} {h : sh_H} (lv : sh_Ls) : sh_getK G k idx pc lv st h = (sh_getK G k idx pc [] st h).map (fun r => (r.1, lv, r.2.2)) := by
  unfold sh_getK
  repeat' split
  all_goals rfl
theorem sh_ald_lv {ts : List Nat} {pc : Nat} {st : List Value} {h : sh_H} (lv : sh_Ls) : sh_ald ts pc lv st h = (sh_ald ts pc [] st h).map (fun r => (r.1, lv, r.2.2)) := by
  unfold sh_ald
  repeat' split
  all_goals rfl
theorem sh_baK_lv {pc : Nat} {st : List Value} {h : sh_H} (lv : sh_Ls) : sh_baK G pc lv st h = (sh_baK G pc [] st h).map (fun r => (r.1, lv, r.2.2)) := by
  unfold sh_baK
  repeat' split
  all_goals rfl
theorem sh_al0_lv {pc : Nat} {st : List Value} {h : sh_H} (lv : sh_Ls) : sh_al0 sc pc lv st h = (sh_al0 sc pc [] st h).map (fun r => (r.1, lv, r.2.2)) := by
  unfold sh_al0
  repeat' split
  all_goals rfl
theorem sh_alK_lv {pc : Nat} {st : List Value} {h : sh_H} (lv : sh_Ls) : sh_alK G pc lv st h = (sh_alK G pc [] st h).map (fun r => (r.1, lv, r.2.2)) := by
  unfold sh_alK
  repeat' split
  all_goals rfl
theorem sh_cpK_lv {pc : Nat} {st : List Value} {h : sh_H} (lv : sh_Ls) : sh_cpK pc lv st h = (sh_cpK pc [] st h).map (fun r => (r.1, lv, r.2.2)) := by
  unfold sh_cpK
  repeat' split
  all_goals rfl
theorem sh_st_lv {k idx pc : Nat} {st : List Value} {h : sh_H} (lv : sh_Ls) : sh_one G sc k (.invokestatic idx) pc lv st h = (sh_one G sc k (.invokestatic idx) pc [] st h).map (fun r => (r.1, lv, r.2.2)) := by
  show (match sh_gC G (sh_On G k) idx with
    | some (8, _) => sh_cpK pc lv st h
    | _ => none) = Option.map _ (match sh_gC G (sh_On G k) idx with
    | some (8, _) => sh_cpK pc [] st h
    | _ => none)
  split
  · exact sh_cpK_lv lv
  · rfl
theorem sh_gs_lv {k idx pc : Nat} {st : List Value} {h : sh_H} (lv : sh_Ls) : sh_one G sc k (.getstatic idx) pc lv st h = (sh_one G sc k (.getstatic idx) pc [] st h).map (fun r => (r.1, lv, r.2.2)) := by
  show (match sh_gZ G (sh_On G k) idx with
    | some (.ref _) => if sh_isR sc.2 = true then some (pc + 3, lv, sc.2 :: st, h, 0, 0) else none
    | some v => some (pc + 3, lv, v :: st, h, 0, 0)
    | none => none) = Option.map _ (match sh_gZ G (sh_On G k) idx with
    | some (.ref _) => if sh_isR sc.2 = true then some (pc + 3, ([] : sh_Ls), sc.2 :: st, h, 0, 0) else none
    | some v => some (pc + 3, [], v :: st, h, 0, 0)
    | none => none)
  split
  · split <;> rfl
  · rfl
  · rfl
theorem sh_one_lv {k pc : Nat} {st : List Value} {h : sh_H} {i : Instr} (hn : sh_lvI i = false) (lv : sh_Ls) : sh_one G sc k i pc lv st h = (sh_one G sc k i pc [] st h).map (fun r => (r.1, lv, r.2.2)) := by
  cases i <;> first
    | (simp [sh_lvI] at hn; done)
    | rfl
    | exact sh_bast_lv lv
    | (exact sh_alt_lv (sh_get_lv lv) (sh_getK_lv lv))
    | (exact sh_alt_lv (sh_ald_lv lv) (sh_baK_lv lv))
    | (exact sh_alt_lv (sh_al0_lv lv) (sh_alK_lv lv))
    | exact sh_st_lv lv
    | exact sh_gs_lv lv
    | (simp only [sh_one, sh_br, sh_i2, sh_l2, sh_lsh, sh_i1, sh_ald, sh_lald, sh_ast, sh_last, sh_bast, sh_get, sh_put]; repeat' split) <;> first | rfl | (simp_all; done) | skip
theorem sh_one_sub {k pc : Nat} {st : List Value} {h : sh_H} {i : Instr} {L lv : sh_Ls} (hs : sh_sub L lv) {pc2 : Nat} {L2 : sh_Ls} {st2 : List Value} {h2 : sh_H} {dc ds : Nat} (h1 : sh_one G sc k i pc L st h = some (pc2, L2, st2, h2, dc, ds)) : ∃ lv2, sh_one G sc k i pc lv st h = some (pc2, lv2, st2, h2, dc, ds) ∧ sh_sub L2 lv2 := by
  by_cases hi : sh_lvI i = true
  · have ld : ∀ (want : Value → Bool) (j n : Nat), sh_ld want j n pc L st h = some (pc2, L2, st2, h2, dc, ds) → ∃ lv2, sh_ld want j n pc lv st h = some (pc2, lv2, st2, h2, dc, ds) ∧ sh_sub L2 lv2 := by
      intro want j n hq
      unfold sh_ld at hq ⊢
      cases hl : L.lookup j with
      | none => rw [hl] at hq; cases hq
      | some v =>
        rw [hl] at hq
        rw [sh_sub_get hs hl]
        dsimp only at hq ⊢
        by_cases hw : want v = true
        · rw [if_pos hw] at hq ⊢
          cases hq
          exact ⟨lv, rfl, hs⟩
        · rw [if_neg hw] at hq
          cases hq
    have s1 : ∀ (want : Value → Bool) (j n nL : Nat), sh_sto1 want j n nL pc L st h = some (pc2, L2, st2, h2, dc, ds) → ∃ lv2, sh_sto1 want j n nL pc lv st h = some (pc2, lv2, st2, h2, dc, ds) ∧ sh_sub L2 lv2 := by
      intro want j n nL hq
      unfold sh_sto1 at hq ⊢
      cases st with
      | nil => cases hq
      | cons v r =>
        dsimp only at hq ⊢
        by_cases hw : want v = true ∧ j < nL
        · rw [if_pos hw] at hq ⊢
          cases hq
          exact ⟨_, rfl, sh_sub_1 hs _ _⟩
        · rw [if_neg hw] at hq
          cases hq
    have s2 : ∀ (want : Value → Bool) (j n nL : Nat), sh_sto2 want j n nL pc L st h = some (pc2, L2, st2, h2, dc, ds) → ∃ lv2, sh_sto2 want j n nL pc lv st h = some (pc2, lv2, st2, h2, dc, ds) ∧ sh_sub L2 lv2 := by
      intro want j n nL hq
      unfold sh_sto2 at hq ⊢
      cases st with
      | nil => cases hq
      | cons v r =>
        dsimp only at hq ⊢
        by_cases hw : want v = true ∧ j + 1 < nL
        · rw [if_pos hw] at hq ⊢
          cases hq
          exact ⟨_, rfl, sh_sub_2 hs _ _⟩
        · rw [if_neg hw] at hq
          cases hq
    cases i <;> first
      | exact ld _ _ _ h1
      | exact s1 _ _ _ _ h1
      | exact s2 _ _ _ _ h1
      | (simp [sh_lvI] at hi; done)
      | skip
    rename_i j n
    have h1 : (match L.lookup j with
      | some (.int x) => if j < sh_L G k then some (pc + 3, sh_st1 j (.int (x + Int32.ofInt n)) L, st, h, 0, 0) else none
      | _ => none) = some (pc2, L2, st2, h2, dc, ds) := h1
    show ∃ lv2, (match lv.lookup j with
      | some (.int x) => if j < sh_L G k then some (pc + 3, sh_st1 j (.int (x + Int32.ofInt n)) lv, st, h, 0, 0) else none
      | _ => none) = some (pc2, lv2, st2, h2, dc, ds) ∧ sh_sub L2 lv2
    cases hl : L.lookup j with
    | none => rw [hl] at h1; cases h1
    | some v =>
      rw [hl] at h1
      rw [sh_sub_get hs hl]
      cases v <;> first | cases h1 | skip
      rename_i x
      dsimp only at h1 ⊢
      by_cases hw : j < sh_L G k
      · rw [if_pos hw] at h1 ⊢
        cases h1
        exact ⟨_, rfl, sh_sub_1 hs _ _⟩
      · rw [if_neg hw] at h1
        cases h1
  · have hi : sh_lvI i = false := by simpa using hi
    rw [sh_one_lv hi] at h1 ⊢
    cases hq : sh_one G sc k i pc [] st h with
    | none => rw [hq] at h1; cases h1
    | some r =>
      rw [hq] at h1
      have e := Option.some.inj h1
      obtain ⟨p1, p2, p3, p4, p5, p6⟩ := r
      cases e
      exact ⟨lv, rfl, hs⟩
theorem sh_run_sub : ∀ (n k pc : Nat) (L lv : sh_Ls) (st : List Value) (h : sh_H) (z : sh_Z), sh_sub L lv → sh_run G sc n k pc L st h = some z → sh_run G sc n k pc lv st h = some z := by
  intro n
  induction n with
  | zero => intro k pc L lv st h z hs hz; cases hz
  | succ n ih =>
    intro k pc L lv st h z hs hz
    have hz : sh_step G sc (sh_run G sc n) k pc L st h = some z := hz
    show sh_step G sc (sh_run G sc n) k pc lv st h = some z
    unfold sh_step at hz ⊢
    split at hz
    · cases hz
    · split at hz
      · rename_i hlen
        rw [if_pos hlen]
        split at hz
        · exact hz
        · split at hz
          · split at hz
            · rename_i hw
              rw [if_pos hw]
              cases hq : sh_run G sc n _ 0 _ [] h with
              | none => rw [hq] at hz; cases hz
              | some q =>
                rw [hq] at hz
                obtain ⟨o, h2, u1⟩ := q
                cases o with
                | returned v =>
                  obtain ⟨o3, h3, u3, e1, e2⟩ := sh_then_some (show sh_then _ u1 (sh_run G sc n k (pc + 3) L (v.toList ++ _) h2) = some z from hz)
                  show sh_then _ u1 (sh_run G sc n k (pc + 3) lv (v.toList ++ _) h2) = some z
                  rw [ih _ _ _ _ _ _ _ hs e1, e2]
                  rfl
                | threw x =>
                  unfold sh_aft at hz ⊢
                  dsimp only at hz ⊢
                  split at hz
                  · exact hz
                  · obtain ⟨o3, h3, u3, e1, e2⟩ := sh_then_some hz
                    rw [ih _ _ _ _ _ _ _ hs e1, e2]
                    rfl
                  · cases hz
            · cases hz
          · split at hz
            · split at hz
              · rename_i hw
                rw [if_pos hw]
                split at hz
                · exact hz
                · obtain ⟨o3, h3, u3, e1, e2⟩ := sh_more_some hz
                  rw [ih _ _ _ _ _ _ _ hs e1, e2]
                  rfl
                · cases hz
              · cases hz
            · split at hz
              · split at hz
                · exact hz
                · exact ih _ _ _ _ _ _ _ hs hz
                · cases hz
              · split at hz
                · rename_i h1
                  obtain ⟨lv2, e1, e2⟩ := sh_one_sub hs h1
                  rw [e1]
                  obtain ⟨o3, h3, u3, e3, e4⟩ := sh_more_some hz
                  show sh_more _ _ (sh_run G sc n k _ lv2 _ _) = some z
                  rw [ih _ _ _ _ _ _ _ e2 e3, e4]
                  rfl
                · cases hz
      · cases hz
theorem sh_To_sub {k pc : Nat} {L lv : sh_Ls} {st : List Value} {h h3 : sh_H} {o : Outcome} {v : sh_U} (hs : sh_sub L lv) (kk : sh_To G sc k pc L st h o h3 v) : sh_To G sc k pc lv st h o h3 v := by
  obtain ⟨n, u, hr, hu⟩ := kk
  exact ⟨n, u, sh_run_sub n k pc L lv st h _ hs hr, hu⟩
end Sub
/-- the memory is laid as it must be -/
def sh_DD (T : List sh_Tg) : Prop := (T.length ≤ 1000000) ∧ (sh_St T) ∧ (T[2]? = some (.inr (1, [.inr (.ref 4), .inr (.ref 5), .inr (.ref 6), .inr (.ref 7), .inr (.ref 8), .inr (.ref (sh_rf T 2 5 + 1)), .inl 0, .inl 0, .inl 0, .inl 0, .inl 0]))) ∧ (T[sh_rf T 2 5]? = some (.inl (1, sh_ln T (sh_rf T 2 5)))) ∧ (T[9]? = some (.inr (2, [.inr (.ref (sh_rf T 9 0 + 1)), .inr (.ref (sh_rf T 9 1 + 1)), .inr (.ref (sh_rf T 9 2 + 1)), .inl 0]))) ∧ (T[sh_rf T 9 0]? = some (.inl (1, sh_ln T (sh_rf T 9 0)))) ∧ (T[sh_rf T 9 1]? = some (.inl (0, sh_ln T (sh_rf T 9 1)))) ∧ (T[sh_rf T 9 2]? = some (.inl (0, sh_ln T (sh_rf T 9 2)))) ∧ (T[58]? = some (.inr (10, [.inr (.ref 10), .inr (.ref 14), .inr (.ref 19), .inr (.ref 24), .inr (.ref 60), .inr (.ref (sh_rf T 58 5 + 1)), .inl 0, .inl 0, .inl 0, .inl 0, .inl 0, .inl 0]))) ∧ (T[sh_rf T 58 5]? = some (.inl (1, sh_ln T (sh_rf T 58 5)))) ∧ (T[61]? = some (.inr (11, [.inr (.ref 10), .inr (.ref 63), .inr (.ref 64), .inr (.ref (sh_rf T 61 3 + 1)), .inr (.ref (sh_rf T 61 4 + 1)), .inl 1]))) ∧ (T[sh_rf T 61 3]? = some (.inl (2, sh_ln T (sh_rf T 61 3)))) ∧ (T[sh_rf T 61 4]? = some (.inl (2, sh_ln T (sh_rf T 61 4))))
theorem sh_DD.len {T : List sh_Tg} (h : sh_DD T) : T.length ≤ 1000000 := h.1
theorem sh_DD.st {T : List sh_Tg} (h : sh_DD T) : sh_St T := h.2.1
theorem sh_DD.t2 {T : List sh_Tg} (h : sh_DD T) : T[2]? = some (.inr (1, [.inr (.ref 4), .inr (.ref 5), .inr (.ref 6), .inr (.ref 7), .inr (.ref 8), .inr (.ref (sh_rf T 2 5 + 1)), .inl 0, .inl 0, .inl 0, .inl 0, .inl 0])) := h.2.2.1
theorem sh_DD.a2_5 {T : List sh_Tg} (h : sh_DD T) : T[sh_rf T 2 5]? = some (.inl (1, sh_ln T (sh_rf T 2 5))) := h.2.2.2.1
theorem sh_DD.t9 {T : List sh_Tg} (h : sh_DD T) : T[9]? = some (.inr (2, [.inr (.ref (sh_rf T 9 0 + 1)), .inr (.ref (sh_rf T 9 1 + 1)), .inr (.ref (sh_rf T 9 2 + 1)), .inl 0])) := h.2.2.2.2.1
theorem sh_DD.a9_0 {T : List sh_Tg} (h : sh_DD T) : T[sh_rf T 9 0]? = some (.inl (1, sh_ln T (sh_rf T 9 0))) := h.2.2.2.2.2.1
theorem sh_DD.a9_1 {T : List sh_Tg} (h : sh_DD T) : T[sh_rf T 9 1]? = some (.inl (0, sh_ln T (sh_rf T 9 1))) := h.2.2.2.2.2.2.1
theorem sh_DD.a9_2 {T : List sh_Tg} (h : sh_DD T) : T[sh_rf T 9 2]? = some (.inl (0, sh_ln T (sh_rf T 9 2))) := h.2.2.2.2.2.2.2.1
theorem sh_DD.t58 {T : List sh_Tg} (h : sh_DD T) : T[58]? = some (.inr (10, [.inr (.ref 10), .inr (.ref 14), .inr (.ref 19), .inr (.ref 24), .inr (.ref 60), .inr (.ref (sh_rf T 58 5 + 1)), .inl 0, .inl 0, .inl 0, .inl 0, .inl 0, .inl 0])) := h.2.2.2.2.2.2.2.2.1
theorem sh_DD.a58_5 {T : List sh_Tg} (h : sh_DD T) : T[sh_rf T 58 5]? = some (.inl (1, sh_ln T (sh_rf T 58 5))) := h.2.2.2.2.2.2.2.2.2.1
theorem sh_DD.t61 {T : List sh_Tg} (h : sh_DD T) : T[61]? = some (.inr (11, [.inr (.ref 10), .inr (.ref 63), .inr (.ref 64), .inr (.ref (sh_rf T 61 3 + 1)), .inr (.ref (sh_rf T 61 4 + 1)), .inl 1])) := h.2.2.2.2.2.2.2.2.2.2.1
theorem sh_DD.a61_3 {T : List sh_Tg} (h : sh_DD T) : T[sh_rf T 61 3]? = some (.inl (2, sh_ln T (sh_rf T 61 3))) := h.2.2.2.2.2.2.2.2.2.2.2.1
theorem sh_DD.a61_4 {T : List sh_Tg} (h : sh_DD T) : T[sh_rf T 61 4]? = some (.inl (2, sh_ln T (sh_rf T 61 4))) := h.2.2.2.2.2.2.2.2.2.2.2.2
theorem sh_DD.mk {T : List sh_Tg} (len : T.length ≤ 1000000) (st : sh_St T) (t2 : T[2]? = some (.inr (1, [.inr (.ref 4), .inr (.ref 5), .inr (.ref 6), .inr (.ref 7), .inr (.ref 8), .inr (.ref (sh_rf T 2 5 + 1)), .inl 0, .inl 0, .inl 0, .inl 0, .inl 0]))) (a2_5 : T[sh_rf T 2 5]? = some (.inl (1, sh_ln T (sh_rf T 2 5)))) (t9 : T[9]? = some (.inr (2, [.inr (.ref (sh_rf T 9 0 + 1)), .inr (.ref (sh_rf T 9 1 + 1)), .inr (.ref (sh_rf T 9 2 + 1)), .inl 0]))) (a9_0 : T[sh_rf T 9 0]? = some (.inl (1, sh_ln T (sh_rf T 9 0)))) (a9_1 : T[sh_rf T 9 1]? = some (.inl (0, sh_ln T (sh_rf T 9 1)))) (a9_2 : T[sh_rf T 9 2]? = some (.inl (0, sh_ln T (sh_rf T 9 2)))) (t58 : T[58]? = some (.inr (10, [.inr (.ref 10), .inr (.ref 14), .inr (.ref 19), .inr (.ref 24), .inr (.ref 60), .inr (.ref (sh_rf T 58 5 + 1)), .inl 0, .inl 0, .inl 0, .inl 0, .inl 0, .inl 0]))) (a58_5 : T[sh_rf T 58 5]? = some (.inl (1, sh_ln T (sh_rf T 58 5)))) (t61 : T[61]? = some (.inr (11, [.inr (.ref 10), .inr (.ref 63), .inr (.ref 64), .inr (.ref (sh_rf T 61 3 + 1)), .inr (.ref (sh_rf T 61 4 + 1)), .inl 1]))) (a61_3 : T[sh_rf T 61 3]? = some (.inl (2, sh_ln T (sh_rf T 61 3)))) (a61_4 : T[sh_rf T 61 4]? = some (.inl (2, sh_ln T (sh_rf T 61 4)))) : sh_DD T := ⟨len, st, t2, a2_5, t9, a9_0, a9_1, a9_2, t58, a58_5, t61, a61_3, a61_4⟩
theorem sh_rf_app {T l : List sh_Tg} {c f : Nat} {t : sh_Tg} (h : T[c]? = some t) : sh_rf (T ++ l) c f = sh_rf T c f := by
  unfold sh_rf
  rw [sh_tapp h, h]
theorem sh_ln_app {T l : List sh_Tg} {a : Nat} {t : sh_Tg} (h : T[a]? = some t) : sh_ln (T ++ l) a = sh_ln T a := by
  unfold sh_ln
  rw [sh_tapp h, h]
theorem sh_DD.app {T l : List sh_Tg} (h : sh_DD T) (hl : (T ++ l).length ≤ 1000000) : sh_DD (T ++ l) := sh_DD.mk (len := hl) (st := sh_St.app h.st) (t2 := by rw [sh_rf_app h.t2]; exact sh_tapp h.t2) (a2_5 := by rw [sh_rf_app h.t2, sh_ln_app h.a2_5]; exact sh_tapp h.a2_5) (t9 := by rw [sh_rf_app h.t9, sh_rf_app h.t9, sh_rf_app h.t9]; exact sh_tapp h.t9) (a9_0 := by rw [sh_rf_app h.t9, sh_ln_app h.a9_0]; exact sh_tapp h.a9_0) (a9_1 := by rw [sh_rf_app h.t9, sh_ln_app h.a9_1]; exact sh_tapp h.a9_1) (a9_2 := by rw [sh_rf_app h.t9, sh_ln_app h.a9_2]; exact sh_tapp h.a9_2) (t58 := by rw [sh_rf_app h.t58]; exact sh_tapp h.t58) (a58_5 := by rw [sh_rf_app h.t58, sh_ln_app h.a58_5]; exact sh_tapp h.a58_5) (t61 := by rw [sh_rf_app h.t61, sh_rf_app h.t61]; exact sh_tapp h.t61) (a61_3 := by rw [sh_rf_app h.t61, sh_ln_app h.a61_3]; exact sh_tapp h.a61_3) (a61_4 := by rw [sh_rf_app h.t61, sh_ln_app h.a61_4]; exact sh_tapp h.a61_4)
/-- arrays stay arrays -/
def sh_kp (T T2 : List sh_Tg) : Prop := ∀ (a : Nat) (q : Nat × Nat), T[a]? = some (Sum.inl q : sh_Tg) → T2[a]? = some (Sum.inl q : sh_Tg)
/-- which exception a method throws -/
def sh_xc : Nat → Nat
  | 237 => 14
  | 239 => 14
  | 241 => 14
  | _ => 13
/-- from here the machine ends as o says, the memory then being m2; F frames and W words are enough -/
def sh_Lk (k pc : Nat) (lv : sh_Ls) (st : List Value) (m : sh_X) (o : Outcome) (m2 : sh_X) (F W : Nat) : Prop := ∀ fm : Value, sh_isR fm = true → sh_DD m.T → sh_DD m2.T ∧ (∀ x, o = .threw x → m2.T[x - 1]? = some (.inr (sh_xc k, []))) ∧ sh_kp m.T m2.T ∧ ∃ c s, sh_To sh_G0 (none, fm) k pc lv st (sh_rep m.T m.I m.J) o (sh_rep m2.T m2.I m2.J) (c, s, F, W) ∧ c + m.T.length = m2.T.length ∧ s + m.s = m2.s
section Lk
variable {k pc : Nat} {lv : sh_Ls} {st : List Value} {m m2 : sh_X} {o : Outcome} {F W : Nat}
theorem sh_Lk_lift {T : List sh_Tg} {I I2 : Nat → Nat → Int32} {J J2 : Nat → Nat → Int64} {s pc2 : Nat} {lv2 : sh_Ls} {st2 : List Value} (f : ∀ {fm : Value} {hfm : sh_isR fm = true}, sh_DD T → ∀ v, sh_To sh_G0 (none, fm) k pc2 lv2 st2 (sh_rep T I2 J2) o (sh_rep m2.T m2.I m2.J) v → sh_To sh_G0 (none, fm) k pc lv st (sh_rep T I J) o (sh_rep m2.T m2.I m2.J) v) (kk : sh_Lk k pc2 lv2 st2 ⟨T, I2, J2, s⟩ o m2 F W) : sh_Lk k pc lv st ⟨T, I, J, s⟩ o m2 F W := by
  intro fm hfm hT
  obtain ⟨h1, h2, h6, c, s1, h3, h4, h5⟩ := kk fm hfm hT
  exact ⟨h1, h2, h6, c, s1, f (hfm := hfm) hT _ h3, h4, h5⟩
theorem sh_Lk_sub {L : sh_Ls} (hs : sh_sub L lv) (kk : sh_Lk k pc L st m o m2 F W) : sh_Lk k pc lv st m o m2 F W := by
  intro fm hfm hT
  obtain ⟨h1, h2, h6, c, s1, h3, h4, h5⟩ := kk fm hfm hT
  exact ⟨h1, h2, h6, c, s1, sh_To_sub hs h3, h4, h5⟩
theorem sh_Lk_ret {i : Instr} {r : Option Value} (hi : sh_gI sh_G0 k pc = some (i, 1)) (hl : 1 = sh_len i 1) (hr : sh_ret sh_G0 k i st = some r) (hF : 8 ≤ F) (hW : 200 ≤ W) : sh_Lk k pc lv st m (.returned r) m F W := fun fm hfm hT =>
  ⟨hT, (fun _ h => by cases h), (fun _ _ h => h), 0, 0, sh_To_le (v := (0, 0, 8, 200)) (v2 := (0, 0, F, W)) ⟨Nat.le_refl _, Nat.le_refl _, hF, hW⟩ (sh_wret hi hl hr), Nat.zero_add _, Nat.zero_add _⟩
theorem sh_Lk_thr {T : List sh_Tg} {I : Nat → Nat → Int32} {J : Nat → Nat → Int64} {s idx a b len ci : Nat} (hi : sh_gI sh_G0 k pc = some (.new idx, len)) (hl : len = sh_len (.new idx) len) (htn : sh_tn sh_G0 k (.new idx) pc = some (ci, a, b)) (hL : T.length < 1000000) (hw : sh_wgt st ≤ 100) (hf : (sh_Hd sh_G0 k).find? (sh_cov (pc + 7)) = none) (hF : 8 ≤ F) (hW : 200 ≤ W) (hx : sh_xc k = ci) :
    sh_Lk k pc lv st ⟨T, I, J, s⟩ (.threw (T ++ ([.inr (ci, [])] : List sh_Tg)).length) ⟨T ++ ([.inr (ci, [])] : List sh_Tg), I, J, s + 6⟩ F W := by
  subst hx
  intro fm hfm hT
  rw [List.length_append]
  refine ⟨hT.app (by rw [List.length_append]; exact hL), fun x hx => ?_, fun a q h => sh_tapp h, 1, 6, sh_To_le (v := (1, 6, 8, 200)) (v2 := (1, 6, F, W)) ⟨Nat.le_refl _, Nat.le_refl _, hF, hW⟩ (sh_thr hi hl htn hL hw hf), ?_, ?_⟩
  · cases hx
    show (T ++ ([.inr (sh_xc k, [])] : List sh_Tg))[T.length + 1 - 1]? = _
    rw [Nat.add_sub_cancel, List.getElem?_append_right (Nat.le_refl _), Nat.sub_self]
    rfl
  · exact Nat.add_comm _ _
  · exact Nat.add_comm _ _
theorem sh_seq_bd {mL c1 s1 F1 W1 c2 s2 : Nat} (hF : F1 + 1 ≤ F) (hW : 8 + (mL + 11) + W1 ≤ W) : sh_le (sh_seq mL (c1, s1, F1, W1) (c2, s2, F, W)) (c1 + c2, s1 + s2, F, W) := by
  refine ⟨Nat.le_refl _, Nat.le_refl _, ?_, ?_⟩
  · show max (F1 + 1) F ≤ F
    omega
  · show max (8 + (mL + 11) + W1) W ≤ W
    omega
theorem sh_Lk_cV {idx k2 a pc2 ci : Nat} {fs : List (Nat ⊕ Value)} {as rest st2 : List Value} {r : Option Value} {m1 : sh_X} {F1 W1 : Nat} (hi : sh_gI sh_G0 k pc = some (.invokevirtual idx, 3)) (hg : sh_gC sh_G0 (sh_On sh_G0 k) idx = some (0, k2)) (hd : st.drop (sh_P sh_G0 k2) = .ref (a + 1) :: rest) (hT : sh_DD m.T → m.T[a]? = some (.inr (ci, fs))) (hc : ((sh_cl sh_G0)[ci]?).map (fun q => q.1) = some (sh_Y sh_G0 k2).cls) (has : .ref (a + 1) :: (st.take (sh_P sh_G0 k2)).reverse = as) (hw : sh_wgt rest ≤ 8 ∧ sh_wgt as ≤ sh_L sh_G0 k2)
    (L1 : sh_Lk k2 0 (lv_args 0 as) [] m (.returned r) m1 F1 W1) (hst : r.toList ++ rest = st2) (hp : pc + 3 = pc2) (hF : F1 + 1 ≤ F) (hW : 8 + (sh_L sh_G0 k2 + 11) + W1 ≤ W) (kk : sh_Lk k pc2 lv st2 m1 o m2 F W) : sh_Lk k pc lv st m o m2 F W := by
  intro fm hfm hD
  obtain ⟨a1, a2, a6, c1, s1, a3, a4, a5⟩ := L1 fm hfm hD
  obtain ⟨b1, b2, b6, c2, s2, b3, b4, b5⟩ := kk fm hfm a1
  exact ⟨b1, b2, fun a q h => b6 a q (a6 a q h), c1 + c2, s1 + s2, sh_To_le (sh_seq_bd hF hW) (sh_cV hi hg hd (hT hD) hc has hw a3 hst hp b3), by omega, by omega⟩
/-- where a reference from before the call is used behind it -/
theorem sh_Lk_cVk {idx k2 a pc2 ci : Nat} {fs : List (Nat ⊕ Value)} {as rest st2 : List Value} {r : Option Value} {m1 : sh_X} {F1 W1 : Nat} (hi : sh_gI sh_G0 k pc = some (.invokevirtual idx, 3)) (hg : sh_gC sh_G0 (sh_On sh_G0 k) idx = some (0, k2)) (hd : st.drop (sh_P sh_G0 k2) = .ref (a + 1) :: rest) (hT : sh_DD m.T → m.T[a]? = some (.inr (ci, fs))) (hc : ((sh_cl sh_G0)[ci]?).map (fun q => q.1) = some (sh_Y sh_G0 k2).cls) (has : .ref (a + 1) :: (st.take (sh_P sh_G0 k2)).reverse = as) (hw : sh_wgt rest ≤ 8 ∧ sh_wgt as ≤ sh_L sh_G0 k2)
    (L1 : sh_Lk k2 0 (lv_args 0 as) [] m (.returned r) m1 F1 W1) (hst : r.toList ++ rest = st2) (hp : pc + 3 = pc2) (hF : F1 + 1 ≤ F) (hW : 8 + (sh_L sh_G0 k2 + 11) + W1 ≤ W) (kk : sh_DD m.T → sh_kp m.T m1.T → sh_Lk k pc2 lv st2 m1 o m2 F W) : sh_Lk k pc lv st m o m2 F W := by
  intro fm hfm hD
  obtain ⟨a1, a2, a6, c1, s1, a3, a4, a5⟩ := L1 fm hfm hD
  obtain ⟨b1, b2, b6, c2, s2, b3, b4, b5⟩ := kk hD a6 fm hfm a1
  exact ⟨b1, b2, fun a q h => b6 a q (a6 a q h), c1 + c2, s1 + s2, sh_To_le (sh_seq_bd hF hW) (sh_cV hi hg hd (hT hD) hc has hw a3 hst hp b3), by omega, by omega⟩
theorem sh_Lk_cS {idx k2 kd pc2 : Nat} {as rest st2 : List Value} {r : Option Value} {m1 : sh_X} {F1 W1 : Nat} (hi : sh_gI sh_G0 k pc = some (.invokestatic idx, 3)) (hg : sh_gC sh_G0 (sh_On sh_G0 k) idx = some (kd, k2)) (hkd : kd = 1 ∨ kd = 6) (hl : sh_P sh_G0 k2 ≤ st.length) (hd : st.drop (sh_P sh_G0 k2) = rest) (has : (st.take (sh_P sh_G0 k2)).reverse = as) (hw : sh_wgt rest ≤ 8 ∧ sh_wgt as ≤ sh_L sh_G0 k2)
    (L1 : sh_Lk k2 0 (lv_args 0 as) [] m (.returned r) m1 F1 W1) (hst : r.toList ++ rest = st2) (hp : pc + 3 = pc2) (hF : F1 + 1 ≤ F) (hW : 8 + (sh_L sh_G0 k2 + 11) + W1 ≤ W) (kk : sh_Lk k pc2 lv st2 m1 o m2 F W) : sh_Lk k pc lv st m o m2 F W := by
  intro fm hfm hD
  obtain ⟨a1, a2, a6, c1, s1, a3, a4, a5⟩ := L1 fm hfm hD
  obtain ⟨b1, b2, b6, c2, s2, b3, b4, b5⟩ := kk fm hfm a1
  exact ⟨b1, b2, fun a q h => b6 a q (a6 a q h), c1 + c2, s1 + s2, sh_To_le (sh_seq_bd hF hW) (sh_cS hi hg hkd hl hd has hw a3 hst hp b3), by omega, by omega⟩
theorem sh_seq_bt {mL c1 s1 F1 W1 : Nat} (hF : F1 + 1 ≤ F) (hW : 8 + (mL + 11) + W1 ≤ W) (hF2 : 8 ≤ F) (hW2 : 200 ≤ W) : sh_le (sh_seq mL (c1, s1, F1, W1) sh_u0) (c1, s1, F, W) := by
  refine ⟨Nat.le_refl _, Nat.le_refl _, ?_, ?_⟩
  · show max (F1 + 1) 8 ≤ F
    omega
  · show max (8 + (mL + 11) + W1) 200 ≤ W
    omega
/-- a call that throws, not caught here -/
theorem sh_Lk_tV {idx k2 a ci x : Nat} {fs : List (Nat ⊕ Value)} {as rest : List Value} {F1 W1 : Nat} (hi : sh_gI sh_G0 k pc = some (.invokevirtual idx, 3)) (hg : sh_gC sh_G0 (sh_On sh_G0 k) idx = some (0, k2)) (hd : st.drop (sh_P sh_G0 k2) = .ref (a + 1) :: rest) (hT : sh_DD m.T → m.T[a]? = some (.inr (ci, fs))) (hc : ((sh_cl sh_G0)[ci]?).map (fun q => q.1) = some (sh_Y sh_G0 k2).cls) (has : .ref (a + 1) :: (st.take (sh_P sh_G0 k2)).reverse = as) (hw : sh_wgt rest ≤ 8 ∧ sh_wgt as ≤ sh_L sh_G0 k2)
    (L1 : sh_Lk k2 0 (lv_args 0 as) [] m (.threw x) m2 F1 W1) (hf : (sh_Hd sh_G0 k).find? (sh_cov pc) = none) (hF : F1 + 1 ≤ F) (hW : 8 + (sh_L sh_G0 k2 + 11) + W1 ≤ W) (hF2 : 8 ≤ F) (hW2 : 200 ≤ W) (hx : sh_xc k2 = sh_xc k) : sh_Lk k pc lv st m (.threw x) m2 F W := by
  intro fm hfm hD
  obtain ⟨a1, a2, a6, c1, s1, a3, a4, a5⟩ := L1 fm hfm hD
  rw [hx] at a2
  exact ⟨a1, a2, a6, c1, s1, sh_To_le (sh_seq_bt hF hW hF2 hW2) (sh_wcallT hi rfl rfl (sh_entV hg hd (hT hD) hc has) hw a3 (sh_find3 hf)), a4, a5⟩
/-- a call that throws, caught here -/
theorem sh_Lk_tCV {idx k2 a ci x hpc : Nat} {q : Nat × Nat × Nat × Nat} {fs : List (Nat ⊕ Value)} {as rest : List Value} {m1 : sh_X} {F1 W1 : Nat} (hi : sh_gI sh_G0 k pc = some (.invokevirtual idx, 3)) (hg : sh_gC sh_G0 (sh_On sh_G0 k) idx = some (0, k2)) (hd : st.drop (sh_P sh_G0 k2) = .ref (a + 1) :: rest) (hT : sh_DD m.T → m.T[a]? = some (.inr (ci, fs))) (hc : ((sh_cl sh_G0)[ci]?).map (fun q => q.1) = some (sh_Y sh_G0 k2).cls) (has : .ref (a + 1) :: (st.take (sh_P sh_G0 k2)).reverse = as) (hw : sh_wgt rest ≤ 8 ∧ sh_wgt as ≤ sh_L sh_G0 k2)
    (L1 : sh_Lk k2 0 (lv_args 0 as) [] m (.threw x) m1 F1 W1) (hf : (sh_Hd sh_G0 k).find? (sh_cov pc) = some q) (hgh : sh_gH sh_G0 (sh_On sh_G0 k) q.2.2.2 = some (sh_xc k2)) (hpc0 : q.2.2.1 = hpc) (hF : F1 + 1 ≤ F) (hW : 8 + (sh_L sh_G0 k2 + 11) + W1 ≤ W) (kk : ∀ xe, sh_Lk k hpc lv [.ref xe] m1 o m2 F W) : sh_Lk k pc lv st m o m2 F W := by
  intro fm hfm hD
  obtain ⟨a1, a2, a6, c1, s1, a3, a4, a5⟩ := L1 fm hfm hD
  obtain ⟨b1, b2, b6, c2, s2, b3, b4, b5⟩ := kk x fm hfm a1
  refine ⟨b1, b2, fun a q h => b6 a q (a6 a q h), c1 + c2, s1 + s2, sh_To_le (sh_seq_bd hF hW) (sh_wcallC hi rfl rfl (sh_entV hg hd (hT hD) hc has) hw a3 ?_ b3), by omega, by omega⟩
  have hx := a2 x rfl
  unfold sh_find
  rw [hf]
  cases x with
  | zero =>
    have h0 := sh_s0 a1.st
    rw [show (0 - 1 : Nat) = 0 from rfl, h0] at hx
    have h9 := congrArg (fun q : Option sh_Tg => match q with
      | some (.inr (_, fs)) => fs.length
      | _ => 0) hx
    exact absurd (show (15 : Nat) = 0 from h9) (by decide)
  | succ y =>
    rw [Nat.add_sub_cancel] at hx
    dsimp only
    rw [sh_rep_get hx, hgh]
    show (if sh_xc k2 = sh_xc k2 then _ else _) = _
    rw [if_pos rfl, hpc0]
/-- sortOf -/
def sh_so (x : Int32) : Value := if x = 0 then .ref 14 else if x = 1 then .ref 19 else if x = 2 then .ref 24 else .null
theorem sh_T216 {T : List sh_Tg} {I : Nat → Nat → Int32} {J : Nat → Nat → Int64} {sc : sh_S} (hT : sh_St T) (x : Int32) : sh_To sh_G0 sc 216 0 [(0, .ref 1), (1, .int x)] [] (sh_rep T I J) (.returned (some (sh_so x))) (sh_rep T I J) (0, 0, 8, 200) := by
  refine sh_w (i := .iload_n 1) (len := 1) (pc2 := 1) (lv2 := [(0, .ref 1), (1, .int x)]) (st2 := [.int x]) (h2 := sh_rep T I J) rfl rfl rfl ?_
  unfold sh_so
  by_cases h0 : x = 0
  · subst h0
    refine sh_w (i := .tableswitch 42 0 2 #[27, 32, 37]) (len := 27) (pc2 := 28) (lv2 := [(0, .ref 1), (1, .int 0)]) (st2 := []) (h2 := sh_rep T I J) rfl rfl rfl ?_
    refine sh_w (i := .aload_n 0) (len := 1) (pc2 := 29) (lv2 := [(0, .ref 1), (1, .int 0)]) (st2 := [.ref 1]) (h2 := sh_rep T I J) rfl rfl rfl ?_
    refine sh_gR1 (len := 3) (x := .ref 14) (pc2 := 32) rfl rfl (sh_s0 hT) rfl rfl ?_
    exact sh_wret (i := .areturn) (len := 1) rfl rfl rfl
  · rw [if_neg h0]
    by_cases h1 : x = 1
    · subst h1
      refine sh_w (i := .tableswitch 42 0 2 #[27, 32, 37]) (len := 27) (pc2 := 33) (lv2 := [(0, .ref 1), (1, .int 1)]) (st2 := []) (h2 := sh_rep T I J) rfl rfl rfl ?_
      refine sh_w (i := .aload_n 0) (len := 1) (pc2 := 34) (lv2 := [(0, .ref 1), (1, .int 1)]) (st2 := [.ref 1]) (h2 := sh_rep T I J) rfl rfl rfl ?_
      refine sh_gR1 (len := 3) (x := .ref 19) (pc2 := 37) rfl rfl (sh_s0 hT) rfl rfl ?_
      exact sh_wret (i := .areturn) (len := 1) rfl rfl rfl
    · rw [if_neg h1]
      by_cases h2 : x = 2
      · subst h2
        refine sh_w (i := .tableswitch 42 0 2 #[27, 32, 37]) (len := 27) (pc2 := 38) (lv2 := [(0, .ref 1), (1, .int 2)]) (st2 := []) (h2 := sh_rep T I J) rfl rfl rfl ?_
        refine sh_w (i := .aload_n 0) (len := 1) (pc2 := 39) (lv2 := [(0, .ref 1), (1, .int 2)]) (st2 := [.ref 1]) (h2 := sh_rep T I J) rfl rfl rfl ?_
        refine sh_gR1 (len := 3) (x := .ref 24) (pc2 := 42) rfl rfl (sh_s0 hT) rfl rfl ?_
        exact sh_wret (i := .areturn) (len := 1) rfl rfl rfl
      · rw [if_neg h2]
        refine sh_w (i := .tableswitch 42 0 2 #[27, 32, 37]) (len := 27) (pc2 := 43) (lv2 := [(0, .ref 1), (1, .int x)]) (st2 := []) (h2 := sh_rep T I J) rfl rfl ?_ ?_
        · have hx : x.toInt < 0 ∨ 2 < x.toInt := by
            by_cases q : x.toInt < 0
            · exact Or.inl q
            · refine Or.inr ?_
              have e0 : x.toInt ≠ 0 := fun e => h0 (Int32.toInt_inj.mp e)
              have e1 : x.toInt ≠ 1 := fun e => h1 (Int32.toInt_inj.mp e)
              have e2 : x.toInt ≠ 2 := fun e => h2 (Int32.toInt_inj.mp e)
              omega
          show (if x.toInt < 0 ∨ 2 < x.toInt then _ else _) = _
          rw [if_pos hx]
          rfl
        refine sh_w (i := .aconst_null) (len := 1) (pc2 := 44) (lv2 := [(0, .ref 1), (1, .int x)]) (st2 := [.null]) (h2 := sh_rep T I J) rfl rfl rfl ?_
        exact sh_wret (i := .areturn) (len := 1) rfl rfl rfl
theorem sh_so_cat (x : Int32) : (sh_so x).category = 1 := by
  unfold sh_so
  split
  · rfl
  · split
    · rfl
    · split <;> rfl
theorem sh_Lk_so {idx pc2 : Nat} {x : Int32} {w : Value} {r : List Value} (hi : sh_gI sh_G0 k pc = some (.invokevirtual idx, 3)) (hg : sh_gC sh_G0 (sh_On sh_G0 k) idx = some (0, 216)) (hv : sh_so x = w) (hp : pc + 3 = pc2) (hr : sh_wgt r ≤ 8) (hF : 9 ≤ F) (hW : 221 ≤ W) (kk : sh_Lk k pc2 lv (w :: r) m o m2 F W) : sh_Lk k pc lv (.int x :: .ref 1 :: r) m o m2 F W := by
  subst hv
  intro fm hfm hD
  obtain ⟨b1, b2, b6, c2, s2, b3, b4, b5⟩ := kk fm hfm hD
  exact ⟨b1, b2, b6, 0 + c2, 0 + s2, sh_To_le (sh_seq_bd (F1 := 8) (W1 := 200) hF hW) (sh_cV (k2 := 216) (as := [.ref 1, .int x]) hi hg rfl (sh_s0 hD.st) rfl rfl ⟨hr, Nat.le_of_ble_eq_true rfl⟩ (sh_T216 hD.st x) rfl hp b3), by omega, by omega⟩
theorem sh_rb (hR : sh_R sh_G0 k = some .boolean) (b : Bool) : sh_ret sh_G0 k .ireturn [.int (sh_b2 b)] = some (some (.int (sh_b2 b))) := by
  unfold sh_ret
  rw [hR]
  cases b <;> rfl
theorem sh_rb1 {x : Int32} (hR : sh_R sh_G0 k = some .boolean) (c : x = 0 ∨ x = 1) : sh_ret sh_G0 k .ireturn [.int x] = some (some (.int (sh_b2 (decide (x = 1))))) := by
  unfold sh_ret
  rw [hR]
  rcases c with rfl | rfl <;> rfl
theorem sh_fb (b : Bool) : sh_fit .boolean (.int (sh_b2 b)) = true := by cases b <;> rfl
theorem sh_fb1 {x : Int32} (c : x = 0 ∨ x = 1) : sh_fit .boolean (.int x) = true := by rcases c with rfl | rfl <;> rfl
end Lk
section Rows3
variable {G : sh_G} {sc : sh_S} {k pc : Nat} {lv : sh_Ls} {r : List Value} {h : sh_H}
theorem sh_dv_idiv {x y : Int32} (c : ¬ y = 0) : sh_one G sc k .idiv pc lv (.int y :: .int x :: r) h = some (pc + 1, lv, .int (x / y) :: r, h, 0, 0) := if_neg c
theorem sh_dv_irem {x y : Int32} (c : ¬ y = 0) : sh_one G sc k .irem pc lv (.int y :: .int x :: r) h = some (pc + 1, lv, .int (x - x / y * y) :: r, h, 0, 0) := if_neg c
theorem sh_dv_ldiv {x y : Int64} (c : ¬ y = 0) : sh_one G sc k .ldiv pc lv (.long y :: .long x :: r) h = some (pc + 1, lv, .long (x / y) :: r, h, 0, 0) := if_neg c
theorem sh_dv_lrem {x y : Int64} (c : ¬ y = 0) : sh_one G sc k .lrem pc lv (.long y :: .long x :: r) h = some (pc + 1, lv, .long (x - x / y * y) :: r, h, 0, 0) := if_neg c
theorem sh_sw {i : Instr} {x a : Int32} {z : Option sh_N} (c : x = a) (e : sh_one G sc k i pc lv (.int a :: r) h = z) : sh_one G sc k i pc lv (.int x :: r) h = z := by rw [c]; exact e
theorem sh_ofI {x : Int32} {a : Int} (h : a = x.toInt) : x = Int32.ofInt a := by rw [h, Int32.ofInt_toInt]
theorem sh_off {x : Int32} {d : Int} : ∀ {ps : List (Int × Int)}, (∀ q ∈ ps, x ≠ Int32.ofInt q.1) → Op.lookupswitch.offset ps d x.toInt = d := by
  intro ps
  induction ps with
  | nil => intro _; rfl
  | cons q r ih =>
    intro hq
    obtain ⟨a, o⟩ := q
    have h1 : ¬ a = x.toInt := fun e => hq _ List.mem_cons_self (sh_ofI e)
    rw [Op.lookupswitch.offset_cons, if_neg h1]
    exact ih (fun q2 h2 => hq q2 (List.mem_cons_of_mem _ h2))
theorem sh_swl {x : Int32} {d : Int} {ps : Array (Int × Int)} {pc2 : Nat} (hs : (ps.toList.zip (ps.toList.drop 1)).all (fun (a, next) => a.1 < next.1) = true) (hq : ∀ q ∈ ps.toList, x ≠ Int32.ofInt q.1) (hp : sh_go pc d = some pc2) : sh_one G sc k (.lookupswitch d ps) pc lv (.int x :: r) h = some (pc2, lv, r, h, 0, 0) := by
  show (if (ps.toList.zip (ps.toList.drop 1)).all (fun (a, next) => a.1 < next.1) = true then sh_br true pc (Op.lookupswitch.offset ps.toList d x.toInt) lv r h else none) = _
  rw [if_pos hs, sh_off hq]
  unfold sh_br
  rw [hp]
  rfl
theorem sh_swt {x : Int32} {d lo hi : Int} {offs : Array Int} {pc2 : Nat} (ls : List Int) (hls : ∀ j : Int, lo ≤ j → j ≤ hi → j ∈ ls) (hq : ∀ j ∈ ls, x ≠ Int32.ofInt j) (hp : sh_go pc d = some pc2) : sh_one G sc k (.tableswitch d lo hi offs) pc lv (.int x :: r) h = some (pc2, lv, r, h, 0, 0) := by
  have hx : x.toInt < lo ∨ hi < x.toInt := by
    by_cases h1 : x.toInt < lo
    · exact Or.inl h1
    · by_cases h2 : hi < x.toInt
      · exact Or.inr h2
      · exact absurd (sh_ofI rfl) (hq _ (hls _ (by omega) (by omega)))
  show (if x.toInt < lo ∨ hi < x.toInt then sh_br true pc d lv r h else _) = _
  rw [if_pos hx]
  unfold sh_br
  rw [hp]
  rfl
theorem sh_fc {α : Type} {P : α → Prop} {a : α} {l : List α} (h1 : P a) (h2 : ∀ q ∈ l, P q) : ∀ q ∈ a :: l, P q := List.forall_mem_cons.mpr ⟨h1, h2⟩
theorem sh_fn {α : Type} {P : α → Prop} : ∀ q ∈ ([] : List α), P q := fun _ h => by cases h
theorem sh_Zeqt {b : Bool} (c : ¬ b = true) : Op.ifCond.holds .eq (sh_b2 b) = true := by cases b <;> simp_all <;> rfl
theorem sh_Zeqf {b : Bool} (c : b = true) : Op.ifCond.holds .eq (sh_b2 b) = false := by subst c; rfl
theorem sh_Znet {b : Bool} (c : b = true) : Op.ifCond.holds .ne (sh_b2 b) = true := by subst c; rfl
theorem sh_Znef {b : Bool} (c : ¬ b = true) : Op.ifCond.holds .ne (sh_b2 b) = false := by cases b <;> simp_all <;> rfl
theorem sh_cmp_lt {x y : Int64} (c : x < y) : lg_cmp x y = -1 := by
  unfold lg_cmp
  rw [if_neg (by simp only [gt_iff_lt, Int64.lt_iff_toInt_lt] at *; omega), if_neg (by rintro rfl; simp only [Int64.lt_iff_toInt_lt] at c; omega)]
theorem sh_cmp_gt {x y : Int64} (c : y < x) : lg_cmp x y = 1 := by
  unfold lg_cmp
  rw [if_pos c]
theorem sh_cmp_eq {x y : Int64} (c : x = y) : lg_cmp x y = 0 := by
  subst c
  unfold lg_cmp
  rw [if_neg (by simp only [gt_iff_lt, Int64.lt_iff_toInt_lt]; omega), if_pos rfl]
theorem sh_cmp3 (x y : Int64) : x < y ∨ x = y ∨ y < x := by
  simp only [Int64.lt_iff_toInt_lt, ← Int64.toInt_inj]
  omega
theorem sh_cmp_n {x y : Int64} (c : x < y) : ¬ y < x := by simp only [Int64.lt_iff_toInt_lt] at *; omega
theorem sh_cmp_ne {x y : Int64} (c : x < y) : ¬ x = y := by rintro rfl; simp only [Int64.lt_iff_toInt_lt] at c; omega
theorem sh_Cltt {x y : Int64} (c : x < y) : Op.ifCond.holds .lt (lg_cmp x y) = true := by rw [sh_cmp_lt c]; rfl
theorem sh_Cltf {x y : Int64} (c : ¬ x < y) : Op.ifCond.holds .lt (lg_cmp x y) = false := by
  rcases sh_cmp3 x y with h | h | h
  · exact absurd h c
  · rw [sh_cmp_eq h]; rfl
  · rw [sh_cmp_gt h]; rfl
theorem sh_Cget {x y : Int64} (c : ¬ x < y) : Op.ifCond.holds .ge (lg_cmp x y) = true := by
  rcases sh_cmp3 x y with h | h | h
  · exact absurd h c
  · rw [sh_cmp_eq h]; rfl
  · rw [sh_cmp_gt h]; rfl
theorem sh_Cgef {x y : Int64} (c : x < y) : Op.ifCond.holds .ge (lg_cmp x y) = false := by rw [sh_cmp_lt c]; rfl
theorem sh_Cgtt {x y : Int64} (c : y < x) : Op.ifCond.holds .gt (lg_cmp x y) = true := by rw [sh_cmp_gt c]; rfl
theorem sh_Cgtf {x y : Int64} (c : ¬ y < x) : Op.ifCond.holds .gt (lg_cmp x y) = false := by
  rcases sh_cmp3 x y with h | h | h
  · rw [sh_cmp_lt h]; rfl
  · rw [sh_cmp_eq h]; rfl
  · exact absurd h c
theorem sh_Clet {x y : Int64} (c : ¬ y < x) : Op.ifCond.holds .le (lg_cmp x y) = true := by
  rcases sh_cmp3 x y with h | h | h
  · rw [sh_cmp_lt h]; rfl
  · rw [sh_cmp_eq h]; rfl
  · exact absurd h c
theorem sh_Clef {x y : Int64} (c : y < x) : Op.ifCond.holds .le (lg_cmp x y) = false := by rw [sh_cmp_gt c]; rfl
theorem sh_Ceqt {x y : Int64} (c : x = y) : Op.ifCond.holds .eq (lg_cmp x y) = true := by rw [sh_cmp_eq c]; rfl
theorem sh_Ceqf {x y : Int64} (c : ¬ x = y) : Op.ifCond.holds .eq (lg_cmp x y) = false := by
  rcases sh_cmp3 x y with h | h | h
  · rw [sh_cmp_lt h]; rfl
  · exact absurd h c
  · rw [sh_cmp_gt h]; rfl
theorem sh_Cnet {x y : Int64} (c : ¬ x = y) : Op.ifCond.holds .ne (lg_cmp x y) = true := by
  rcases sh_cmp3 x y with h | h | h
  · rw [sh_cmp_lt h]; rfl
  · exact absurd h c
  · rw [sh_cmp_gt h]; rfl
theorem sh_Cnef {x y : Int64} (c : x = y) : Op.ifCond.holds .ne (lg_cmp x y) = false := by rw [sh_cmp_eq c]; rfl
end Rows3
/-- what a link wants of an answer: of a method that writes (that may throw), of one that reads alone -/
def sh_tV (o : Outcome) (m2 : sh_X) (z : Unit × sh_X) : Prop := o = .returned none ∧ m2 = z.2
def sh_tI (o : Outcome) (m2 : sh_X) (z : Int32 × sh_X) : Prop := o = .returned (some (.int z.1)) ∧ m2 = z.2
def sh_tZ (o : Outcome) (m2 : sh_X) (z : Bool × sh_X) : Prop := o = .returned (some (.int (sh_b2 z.1))) ∧ m2 = z.2
def sh_tJ (o : Outcome) (m2 : sh_X) (z : Int64 × sh_X) : Prop := o = .returned (some (.long z.1)) ∧ m2 = z.2
def sh_tVt (o : Outcome) (m2 : sh_X) (z : Option Unit × sh_X) : Prop := (o = match z.1 with
  | none => .threw z.2.T.length
  | some _ => .returned none) ∧ m2 = z.2
def sh_tIt (o : Outcome) (m2 : sh_X) (z : Option Int32 × sh_X) : Prop := (o = match z.1 with
  | none => .threw z.2.T.length
  | some x => .returned (some (.int x))) ∧ m2 = z.2
def sh_tJt (o : Outcome) (m2 : sh_X) (z : Option Int64 × sh_X) : Prop := (o = match z.1 with
  | none => .threw z.2.T.length
  | some x => .returned (some (.long x))) ∧ m2 = z.2
def sh_tVc (m : sh_X) (o : Outcome) (m2 : sh_X) (_ : Unit) : Prop := o = .returned none ∧ m2 = m
def sh_tIc (m : sh_X) (o : Outcome) (m2 : sh_X) (z : Int32) : Prop := o = .returned (some (.int z)) ∧ m2 = m
def sh_tZc (m : sh_X) (o : Outcome) (m2 : sh_X) (z : Bool) : Prop := o = .returned (some (.int (sh_b2 z))) ∧ m2 = m
def sh_tJc (m : sh_X) (o : Outcome) (m2 : sh_X) (z : Int64) : Prop := o = .returned (some (.long z)) ∧ m2 = m
