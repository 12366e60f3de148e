/-! gone on: the whole -/
theorem sh_ckC_at {o : Nat} {e : Nat × Nat × Nat × Nat} (hm : e ∈ sh_cT.getD o []) : o < 19 ∧ sh_ckC o e = true := by
  match o, hm with
  | 0, hm => exact ⟨by decide, List.all_eq_true.mp sh_ckC_0 e hm⟩
  | 1, hm => exact ⟨by decide, List.all_eq_true.mp sh_ckC_1 e hm⟩
  | 2, hm => exact ⟨by decide, List.all_eq_true.mp sh_ckC_2 e hm⟩
  | 3, hm => exact ⟨by decide, List.all_eq_true.mp sh_ckC_3 e hm⟩
  | 4, hm => exact ⟨by decide, List.all_eq_true.mp sh_ckC_4 e hm⟩
  | 5, hm => exact ⟨by decide, List.all_eq_true.mp sh_ckC_5 e hm⟩
  | 6, hm => exact ⟨by decide, List.all_eq_true.mp sh_ckC_6 e hm⟩
  | 7, hm => exact ⟨by decide, List.all_eq_true.mp sh_ckC_7 e hm⟩
  | 8, hm => exact ⟨by decide, List.all_eq_true.mp sh_ckC_8 e hm⟩
  | 9, hm => exact ⟨by decide, List.all_eq_true.mp sh_ckC_9 e hm⟩
  | 10, hm => exact ⟨by decide, List.all_eq_true.mp sh_ckC_10 e hm⟩
  | 11, hm => exact ⟨by decide, List.all_eq_true.mp sh_ckC_11 e hm⟩
  | 12, hm => exact ⟨by decide, List.all_eq_true.mp sh_ckC_12 e hm⟩
  | 13, hm => exact ⟨by decide, List.all_eq_true.mp sh_ckC_13 e hm⟩
  | 14, hm => exact ⟨by decide, List.all_eq_true.mp sh_ckC_14 e hm⟩
  | 15, hm => exact ⟨by decide, List.all_eq_true.mp sh_ckC_15 e hm⟩
  | 16, hm => exact ⟨by decide, List.all_eq_true.mp sh_ckC_16 e hm⟩
  | 17, hm => exact ⟨by decide, List.all_eq_true.mp sh_ckC_17 e hm⟩
  | 18, hm => exact ⟨by decide, List.all_eq_true.mp sh_ckC_18 e hm⟩
  | n + 19, hm => cases hm
set_option maxRecDepth 100000 in
theorem sh_obI : lw_tbl[231]? = some (.instanceMethod Lib.objectInit) := by decide +kernel
set_option maxRecDepth 100000 in
theorem sh_obC : lw_tbl[232]? = some (.code Lib.objectInit ⟨#[0xb1]⟩ 1 none) := by decide +kernel
theorem sh_ok7 (k idx k2 : Nat) (h : sh_gC sh_G0 (sh_On sh_G0 k) idx = some (3, k2)) : Cond.methodLink (sh_O sh_G0 k) idx Lib.objectInit ∈ sh_T sh_G0 ∧ Cond.instanceMethod Lib.objectInit ∈ sh_T sh_G0 ∧ Cond.code Lib.objectInit ⟨#[0xb1]⟩ 1 none ∈ sh_T sh_G0 := by
  obtain ⟨p, hm⟩ := sh_look_mem (t := sh_cT) h
  obtain ⟨ho, hc⟩ := sh_ckC_at hm
  rw [sh_own_k ho]
  unfold sh_ckC at hc
  split at hc
  · exact ⟨sh_memT (of_decide_eq_true hc) rfl, sh_memT sh_obI rfl, sh_memT sh_obC rfl⟩
  · cases hc
set_option maxRecDepth 100000 in
theorem sh_ob0 : lw_tbl[276]? = some (.arrayClass (sh_ty 0)) := by decide +kernel
set_option maxRecDepth 100000 in
theorem sh_ob1 : lw_tbl[275]? = some (.arrayClass (sh_ty 1)) := by decide +kernel
set_option maxRecDepth 100000 in
theorem sh_ob2 : lw_tbl[277]? = some (.arrayClass (sh_ty 2)) := by decide +kernel
set_option maxRecDepth 100000 in
theorem sh_ob3 : lw_tbl[2104]? = some (.arrayClass (sh_ty 3)) := by decide +kernel
set_option maxRecDepth 100000 in
theorem sh_obN : lw_tbl[715]? = some (.native arraycopyName) := by decide +kernel
set_option maxRecDepth 100000 in
theorem sh_obM : lw_tbl[714]? = some (.static arraycopyName) := by decide +kernel
set_option maxRecDepth 100000 in
theorem sh_obY : lw_tbl[214]? = some (.initialized "java/lang/System") := by decide +kernel
theorem sh_ok6 (t : Nat) (h : t < 4) : Cond.arrayClass (sh_ty t) ∈ sh_T sh_G0 := by
  match t, h with
  | 0, _ => exact sh_memT sh_ob0 rfl
  | 1, _ => exact sh_memT sh_ob1 rfl
  | 2, _ => exact sh_memT sh_ob2 rfl
  | 3, _ => exact sh_memT sh_ob3 rfl
theorem sh_ok10 (k idx k2 : Nat) (h : sh_gC sh_G0 (sh_On sh_G0 k) idx = some (8, k2)) : Cond.methodLink (sh_O sh_G0 k) idx arraycopyName ∈ sh_T sh_G0 ∧ Cond.native arraycopyName ∈ sh_T sh_G0 ∧ Cond.static arraycopyName ∈ sh_T sh_G0 ∧ Cond.initialized "java/lang/System" ∈ sh_T sh_G0 := by
  obtain ⟨p, hm⟩ := sh_look_mem (t := sh_cT) h
  obtain ⟨ho, hc⟩ := sh_ckC_at hm
  rw [sh_own_k ho]
  unfold sh_ckC at hc
  split at hc
  · exact ⟨sh_memT (of_decide_eq_true hc) rfl, sh_memT sh_obN rfl, sh_memT sh_obM rfl, sh_memT sh_obY rfl⟩
  · cases hc
theorem sh_ok0 : sh_ok sh_G0 := ⟨sh_ok1, sh_ok2, sh_ok3, sh_ok4, sh_ok5, sh_ok6, sh_ok7, sh_ok8, sh_ok9, sh_ok10⟩
def sh_ckH (o : Nat) (e : Nat × Nat × Nat) : Bool := match sh_cl0[e.2.2]? with
  | some q => decide (e.1 ≠ 0) && decide (lw_tbl[e.2.1]? = some (.classLink (sh_own.getD o "") e.1 q.1))
  | none => false
set_option maxRecDepth 100000 in
theorem sh_ckH_all : ((List.range sh_hT.length).all (fun o => (sh_hT.getD o []).all (sh_ckH o))) = true := by decide +kernel
def sh_exN : List String := ["java/lang/RuntimeException", "java/lang/Exception"]
def sh_ckX (o : Nat) (e : Nat × Nat × Nat × Nat) : Bool := match sh_cl0[e.2.2.1]?, sh_clP[e.2.2.1]? with
  | some q, some z => decide (q.2.2 = 0) && Bundle.fit q.1 && decide (lw_tbl[e.2.1]? = some (.classLink (sh_own.getD o "") e.1 q.1)) && decide (lw_tbl[z.2]? = some (.initialized q.1)) && (Bundle.ownAtoms0 (sh_own.getD o "") e.2.2.2 q.1 sh_exN).all (fun w => (decide (w ∈ lw_tbl) && sh_kw w) || decide (w ∈ sh_thW))
  | _, _ => false
set_option maxRecDepth 100000 in
theorem sh_ckX_all : ((List.range sh_xT.length).all (fun o => (sh_xT.getD o []).all (sh_ckX o))) = true := by decide +kernel
theorem sh_exF : ∀ n ∈ sh_exN, Bundle.fit n = true := by decide +kernel
theorem sh_okx (k idx ci ic : Nat) (h : sh_gX sh_G0 (sh_On sh_G0 k) idx = some (ci, ic)) : ∃ (C : String) (T : u_T) (names : List String), (sh_cl sh_G0)[ci]? = some (C, T, 0) ∧ names.length ≤ 2 ∧ Bundle.fit C = true ∧ (∀ n ∈ names, Bundle.fit n = true) ∧ Cond.classLink (sh_O sh_G0 k) idx C ∈ sh_T sh_G0 ∧ Cond.initialized C ∈ sh_T sh_G0 ∧ ∀ w ∈ Bundle.ownAtoms0 (sh_O sh_G0 k) ic C names, w ∈ sh_T sh_G0 ∨ w ∈ sh_thW := by
  obtain ⟨p, hm⟩ := sh_look_mem (t := sh_xT) h
  obtain ⟨ho, hc⟩ := sh_all_at sh_ckX_all hm
  rw [sh_own_k ho]
  unfold sh_ckX at hc
  dsimp only at hc
  split at hc
  · rename_i q z hq hz
    obtain ⟨C, T, N⟩ := q
    simp only [Bool.and_eq_true, decide_eq_true_eq] at hc
    obtain ⟨⟨⟨⟨c1, c2⟩, c3⟩, c4⟩, c5⟩ := hc
    subst c1
    refine ⟨C, T, sh_exN, hq, by decide, c2, sh_exF, sh_memT c3 rfl, sh_memT c4 rfl, fun w hw => ?_⟩
    have h9 := List.all_eq_true.mp c5 w hw
    simp only [Bool.or_eq_true, Bool.and_eq_true, decide_eq_true_eq] at h9
    rcases h9 with ⟨h9, h10⟩ | h9
    · exact Or.inl (List.mem_filter.mpr ⟨h9, h10⟩)
    · exact Or.inr h9
  · cases hc
theorem sh_okh (k ct cj : Nat) (h : sh_gH sh_G0 (sh_On sh_G0 k) ct = some cj) : ct ≠ 0 ∧ ∃ C T N, (sh_cl sh_G0)[cj]? = some (C, T, N) ∧ Cond.classLink (sh_O sh_G0 k) ct C ∈ sh_T sh_G0 := by
  obtain ⟨p, hm⟩ := sh_look_mem (t := sh_hT) h
  obtain ⟨ho, hc⟩ := sh_all_at sh_ckH_all hm
  rw [sh_own_k ho]
  unfold sh_ckH at hc
  dsimp only at hc
  split at hc
  · rename_i q hq
    obtain ⟨C, T, N⟩ := q
    simp only [Bool.and_eq_true, decide_eq_true_eq] at hc
    exact ⟨hc.1, C, T, N, hq, sh_memT hc.2 rfl⟩
  · cases hc
theorem sh_okc0 : sh_okc sh_G0 := by
  refine ⟨fun w hw => (List.mem_filter.mp hw).2, ?_, ?_, ?_, sh_okh, sh_okx, sh_okI⟩
  · intro k idx k2 kd h hkd
    obtain ⟨p, hm⟩ := sh_look_mem (t := sh_cT) h
    obtain ⟨ho, hc⟩ := sh_ckC_at hm
    rw [sh_own_k ho]
    unfold sh_ckC at hc
    split at hc
    · rcases hkd with rfl | rfl
      · simp at hc
        obtain ⟨⟨⟨⟨c1, c2⟩, c3⟩, c4⟩, c5⟩ := hc
        exact ⟨sh_okm0 k2 (by omega) c2, sh_memT c3 rfl, sh_memT c4 rfl, sh_memT c5 rfl⟩
      · simp at hc
        obtain ⟨⟨⟨⟨c1, c2⟩, c3⟩, c4⟩, c5⟩ := hc
        exact ⟨sh_okm0 k2 (by omega) c2, sh_memT c3 rfl, sh_memT c4 rfl, sh_memT c5 rfl⟩
    · cases hc
  · intro k idx kd k2 h hkd
    obtain ⟨p, hm⟩ := sh_look_mem (t := sh_cT) h
    obtain ⟨ho, hc⟩ := sh_ckC_at hm
    rw [sh_own_k ho]
    unfold sh_ckC at hc
    split at hc
    · rcases hkd with rfl | rfl
      · simp at hc
        obtain ⟨⟨⟨c1, c2⟩, c3⟩, c4⟩ := hc
        exact ⟨sh_okm0 k2 (by omega) c2, sh_memT c4 rfl, fun _ => sh_memT c3 rfl, fun h9 => absurd h9 (by decide)⟩
      · simp at hc
        obtain ⟨⟨⟨c1, c2⟩, c3⟩, c4⟩ := hc
        exact ⟨sh_okm0 k2 (by omega) c2, sh_memT c4 rfl, fun h9 => absurd h9 (by decide), fun _ => ⟨_, sh_memT c3 rfl⟩⟩
    · cases hc
  · intro k idx kd k2 h hkd
    obtain ⟨p, hm⟩ := sh_look_mem (t := sh_cT) h
    obtain ⟨ho, hc⟩ := sh_ckC_at hm
    rw [sh_own_k ho]
    unfold sh_ckC at hc
    split at hc
    · rcases hkd with rfl | rfl
      · simp at hc
        obtain ⟨⟨⟨⟨c1, c2⟩, c3⟩, c4⟩, ⟨c5, c6⟩, c7⟩ := hc
        exact ⟨sh_okm0 k2 (by omega) c2, sh_memT c4 rfl, c5, c6, c7, fun _ => sh_memT c3 rfl, fun h9 => absurd h9 (by decide)⟩
      · simp at hc
        obtain ⟨⟨⟨⟨c1, c2⟩, c3⟩, c4⟩, ⟨c5, c6⟩, c7⟩ := hc
        exact ⟨sh_okm0 k2 (by omega) c2, sh_memT c4 rfl, c5, c6, c7, fun h9 => absurd h9 (by decide), fun _ => ⟨_, sh_memT c3 rfl⟩⟩
    · cases hc
