/-! ROWS: branches, calls, throws; runs that read no script -/
section Rows2
variable {G : sh_G} {sc : sh_S} {k pc : Nat} {lv : sh_Ls} {st : List Value} {h h3 : sh_H} {o : Outcome} {v : sh_U} {T : List sh_Tg} {I : Nat → Nat → Int32} {J : Nat → Nat → Int64}
theorem sh_jc {c : Jvm.ClassFile.Cond} {off : Int} {x y : Int32} {r : List Value} {pc2 : Nat} (b : Bool) (hi : sh_gI G k pc = some (.if_icmp c off, 3)) (hb : Op.if_icmp.holds c x y = b) (hp : (sh_go pc off).map (fun t => if b then t else pc + 3) = some pc2)
    (kk : sh_To G sc k pc2 lv r h o h3 v) : sh_To G sc k pc lv (.int y :: .int x :: r) h o h3 v := by
  refine sh_w hi rfl (pc2 := pc2) (lv2 := lv) (st2 := r) (h2 := h) ?_ kk
  show sh_br (Op.if_icmp.holds c x y) pc off lv r h = _
  unfold sh_br
  cases hg : sh_go pc off with
  | none => rw [hg] at hp; cases hp
  | some t =>
    rw [hg] at hp
    cases hp
    rw [hb]
theorem sh_j0 {c : Jvm.ClassFile.Cond} {off : Int} {x : Int32} {r : List Value} {pc2 : Nat} (b : Bool) (hi : sh_gI G k pc = some (.ifCond c off, 3)) (hb : Op.ifCond.holds c x = b) (hp : (sh_go pc off).map (fun t => if b then t else pc + 3) = some pc2)
    (kk : sh_To G sc k pc2 lv r h o h3 v) : sh_To G sc k pc lv (.int x :: r) h o h3 v := by
  refine sh_w hi rfl (pc2 := pc2) (lv2 := lv) (st2 := r) (h2 := h) ?_ kk
  show sh_br (Op.ifCond.holds c x) pc off lv r h = _
  unfold sh_br
  cases hg : sh_go pc off with
  | none => rw [hg] at hp; cases hp
  | some t =>
    rw [hg] at hp
    cases hp
    rw [hb]
/-- what a virtual call enters -/
theorem sh_entV {idx k2 a : Nat} {ci : Nat} {fs : List (Nat ⊕ Value)} {as rest : List Value} (hg : sh_gC G (sh_On G k) idx = some (0, k2)) (hd : st.drop (sh_P G k2) = .ref (a + 1) :: rest) (hT : T[a]? = some (.inr (ci, fs))) (hc : ((sh_cl G)[ci]?).map (fun q => q.1) = some (sh_Y G k2).cls) (has : .ref (a + 1) :: (st.take (sh_P G k2)).reverse = as) :
    sh_ent G k (.invokevirtual idx) st (sh_rep T I J) = some (k2, as, rest) := by
  unfold sh_ent
  simp only [hg, hd, sh_rep_get hT, sh_cell, hc, has, if_true]
/-- a virtual call that returns -/
theorem sh_cV {idx k2 a pc2 : Nat} {ci : Nat} {fs : List (Nat ⊕ Value)} {as rest st2 : List Value} {r : Option Value} {h2 : sh_H} {v1 : sh_U} (hi : sh_gI G k pc = some (.invokevirtual idx, 3)) (hg : sh_gC G (sh_On G k) idx = some (0, k2)) (hd : st.drop (sh_P G k2) = .ref (a + 1) :: rest) (hT : T[a]? = some (.inr (ci, fs))) (hc : ((sh_cl G)[ci]?).map (fun q => q.1) = some (sh_Y G k2).cls) (has : .ref (a + 1) :: (st.take (sh_P G k2)).reverse = as) (hw : sh_wgt rest ≤ 8 ∧ sh_wgt as ≤ sh_L G k2)
    (hm : sh_To G sc k2 0 (lv_args 0 as) [] (sh_rep T I J) (.returned r) h2 v1) (hst : r.toList ++ rest = st2) (hp : pc + 3 = pc2) (kk : sh_To G sc k pc2 lv st2 h2 o h3 v) : sh_To G sc k pc lv st (sh_rep T I J) o h3 (sh_seq (sh_L G k2) v1 v) := by
  subst hp
  subst hst
  exact sh_wcall hi rfl rfl (sh_entV hg hd hT hc has) hw hm kk
/-- a static call that returns -/
theorem sh_cS {idx k2 kd pc2 : Nat} {as rest st2 : List Value} {r : Option Value} {h2 : sh_H} {v1 : sh_U} (hi : sh_gI G k pc = some (.invokestatic idx, 3)) (hg : sh_gC G (sh_On G k) idx = some (kd, k2)) (hkd : kd = 1 ∨ kd = 6) (hl : sh_P G k2 ≤ st.length) (hd : st.drop (sh_P G k2) = rest) (has : (st.take (sh_P G k2)).reverse = as) (hw : sh_wgt rest ≤ 8 ∧ sh_wgt as ≤ sh_L G k2)
    (hm : sh_To G sc k2 0 (lv_args 0 as) [] h (.returned r) h2 v1) (hst : r.toList ++ rest = st2) (hp : pc + 3 = pc2) (kk : sh_To G sc k pc2 lv st2 h2 o h3 v) : sh_To G sc k pc lv st h o h3 (sh_seq (sh_L G k2) v1 v) := by
  subst hp
  subst hst
  refine sh_wcall hi rfl rfl (rest := rest) (as := as) (k2 := k2) ?_ hw hm kk
  unfold sh_ent
  try dsimp only
  rw [hg]
  try dsimp only
  rw [if_pos ⟨hkd, hl⟩, hd, has]
/-- a constructor's call that returns -/
theorem sh_cN {idx k2 kd pc2 a : Nat} {as rest st2 : List Value} {r : Option Value} {h2 : sh_H} {v1 : sh_U} (hi : sh_gI G k pc = some (.invokespecial idx, 3)) (hg : sh_gC G (sh_On G k) idx = some (kd, k2)) (hkd : kd = 2 ∨ kd = 5) (hd : st.drop (sh_P G k2) = .ref a :: rest) (has : .ref a :: (st.take (sh_P G k2)).reverse = as) (hw : sh_wgt rest ≤ 8 ∧ sh_wgt as ≤ sh_L G k2)
    (hm : sh_To G sc k2 0 (lv_args 0 as) [] h (.returned r) h2 v1) (hst : r.toList ++ rest = st2) (hp : pc + 3 = pc2) (kk : sh_To G sc k pc2 lv st2 h2 o h3 v) : sh_To G sc k pc lv st h o h3 (sh_seq (sh_L G k2) v1 v) := by
  subst hp
  subst hst
  refine sh_wcall hi rfl rfl (rest := rest) (as := as) (k2 := k2) ?_ hw hm kk
  unfold sh_ent
  try dsimp only
  rw [hg]
  try dsimp only
  rw [if_pos hkd, hd]
  try dsimp only
  rw [has]
theorem sh_seq_le {mL : Nat} {u1 u2 v1 v2 : sh_U} (h1 : sh_le u1 v1) (h2 : sh_le u2 v2) : sh_le (sh_seq mL u1 u2) (sh_seq mL v1 v2) := by
  have a3 := h1.2.2.1
  have a4 := h1.2.2.2
  have b3 := h2.2.2.1
  have b4 := h2.2.2.2
  refine ⟨Nat.add_le_add h1.1 h2.1, Nat.add_le_add h1.2.1 h2.2.1, ?_, ?_⟩
  · show max (u1.2.2.1 + 1) u2.2.2.1 ≤ max (v1.2.2.1 + 1) v2.2.2.1
    omega
  · show max (8 + (mL + 11) + u1.2.2.2) u2.2.2.2 ≤ max (8 + (mL + 11) + v1.2.2.2) v2.2.2.2
    omega
/-- a call that throws, and it is caught here -/
theorem sh_wcallC {i : Instr} {len k2 x hpc : Nat} {as rest : List Value} {h2 : sh_H} {v1 : sh_U} (hi : sh_gI G k pc = some (i, len)) (hl : len = sh_len i len) (hr : sh_ret G k i st = none) (he : sh_ent G k i st h = some (k2, as, rest)) (hw : sh_wgt rest ≤ 8 ∧ sh_wgt as ≤ sh_L G k2)
    (hc : sh_To G sc k2 0 (lv_args 0 as) [] h (.threw x) h2 v1) (hf : sh_find G k pc x h2 = some (some hpc)) (kk : sh_To G sc k hpc lv [.ref x] h2 o h3 v) : sh_To G sc k pc lv st h o h3 (sh_seq (sh_L G k2) v1 v) := by
  obtain ⟨n1, u1, hr1, hu1⟩ := hc
  obtain ⟨n2, u2, hr2, hu2⟩ := kk
  refine ⟨max n1 n2 + 1, sh_seq (sh_L G k2) u1 u2, ?_, sh_seq_le hu1 hu2⟩
  show sh_step G sc (sh_run G sc (max n1 n2)) k pc lv st h = _
  unfold sh_step
  rw [hi]
  try dsimp only
  rw [if_pos hl, hr]
  try dsimp only
  rw [he]
  try dsimp only
  rw [if_pos hw, sh_run_mono (Nat.le_max_left n1 n2) hr1]
  unfold sh_aft
  try dsimp only
  rw [hf]
  try dsimp only
  rw [sh_run_mono (Nat.le_max_right n1 n2) hr2]
  rfl
/-- a call that throws, and it is not caught here -/
theorem sh_wcallT {i : Instr} {len k2 x : Nat} {as rest : List Value} {h2 : sh_H} {v1 : sh_U} (hi : sh_gI G k pc = some (i, len)) (hl : len = sh_len i len) (hr : sh_ret G k i st = none) (he : sh_ent G k i st h = some (k2, as, rest)) (hw : sh_wgt rest ≤ 8 ∧ sh_wgt as ≤ sh_L G k2)
    (hc : sh_To G sc k2 0 (lv_args 0 as) [] h (.threw x) h2 v1) (hf : sh_find G k pc x h2 = some none) : sh_To G sc k pc lv st h (.threw x) h2 (sh_seq (sh_L G k2) v1 sh_u0) := by
  obtain ⟨n1, u1, hr1, hu1⟩ := hc
  refine ⟨n1 + 1, sh_seq (sh_L G k2) u1 sh_u0, ?_, sh_seq_le hu1 ⟨Nat.le_refl _, Nat.le_refl _, Nat.le_refl _, Nat.le_refl _⟩⟩
  show sh_step G sc (sh_run G sc n1) k pc lv st h = _
  unfold sh_step
  rw [hi]
  try dsimp only
  rw [if_pos hl, hr]
  try dsimp only
  rw [he]
  try dsimp only
  rw [if_pos hw, hr1]
  unfold sh_aft
  try dsimp only
  rw [hf]
/-- 'throw new E()', not caught here -/
theorem sh_wthr {idx ci a b len : Nat} (hi : sh_gI G k pc = some (.new idx, len)) (hl : len = sh_len (.new idx) len) (htn : sh_tn G k (.new idx) pc = some (ci, a, b)) (hsz : h.length < 1000000) (hw : sh_wgt st ≤ 100) (hf : (sh_Hd G k).find? (sh_cov (pc + 7)) = none) :
    sh_To G sc k pc lv st h (.threw (h.length + 1)) (h ++ [.inr (ci, [])]) (1, 6, 8, 200) := by
  refine ⟨1, (1, 6, 8, 200), ?_, Nat.le_refl _, Nat.le_refl _, Nat.le_refl _, Nat.le_refl _⟩
  show sh_step G sc (sh_run G sc 0) k pc lv st h = _
  unfold sh_step
  rw [hi]
  try dsimp only
  rw [if_pos hl]
  have h1 : sh_ret G k (.new idx) st = none := by
    unfold sh_ret
    split <;> first | rfl | (rename_i h _; cases h)
  have h2 : sh_ent G k (.new idx) st h = none := rfl
  rw [h1]
  try dsimp only
  rw [h2]
  try dsimp only
  rw [htn]
  try dsimp only
  rw [if_pos ⟨hsz, hw⟩]
  unfold sh_find
  rw [hf]
/-- a run that reads no script is the run with any script -/
theorem sh_one_none {sc0 : sh_S} (hn : sc0.1 = none) (hn2 : sc0.2 = sc.2 ∨ sh_isR sc0.2 = false) {i : Instr} {r : sh_N} (h1 : sh_one G sc0 k i pc lv st h = some r) : sh_one G sc k i pc lv st h = some r := by
  cases i
  case iaload =>
    unfold sh_one at h1 ⊢
    dsimp only at h1 ⊢
    rw [hn] at h1
    split at h1
    · cases h1
    · exact h1
  case arraylength =>
    have h1 : sh_alt (sh_al0 sc0 pc lv st h) (sh_alK G pc lv st h) = some r := h1
    show sh_alt (sh_al0 sc pc lv st h) (sh_alK G pc lv st h) = some r
    unfold sh_al0 at h1 ⊢
    rw [hn] at h1
    split at h1
    · rename_i r0 _
      have h9 : sh_alK G pc lv (.ref 0 :: r0) h = some r := h1
      unfold sh_alK sh_isT at h9
      simp at h9
    · exact h1
    · exact h1
  case getstatic idx =>
    unfold sh_one at h1 ⊢
    dsimp only at h1 ⊢
    split at h1
    · rcases hn2 with h9 | h9
      · rw [← h9]
        exact h1
      · rw [h9] at h1
        cases h1
    · exact h1
    · cases h1
  all_goals exact h1
theorem sh_run_none {sc0 : sh_S} (hn : sc0.1 = none) (hn2 : sc0.2 = sc.2 ∨ sh_isR sc0.2 = false) : ∀ (n k pc : Nat) (lv : sh_Ls) (st : List Value) (h : sh_H) (z : sh_Z), sh_run G sc0 n k pc lv st h = some z → sh_run G sc n k pc lv st h = some z := by
  intro n
  induction n with
  | zero => intro k pc lv st h z hz; cases hz
  | succ n ih =>
    intro k pc lv st h z hz
    have hz : sh_step G sc0 (sh_run G sc0 n) k pc lv st h = some z := hz
    have h2 : sh_step G sc0 (sh_run G sc n) k pc lv st h = some z := sh_step_mono ih hz
    show sh_step G sc (sh_run G sc n) k pc lv st h = some z
    unfold sh_step at h2 ⊢
    split at h2
    · cases h2
    · split at h2
      · rename_i hlen
        rw [if_pos hlen]
        split at h2
        · exact h2
        · split at h2
          · exact h2
          · split at h2
            · exact h2
            · split at h2
              · exact h2
              · rename_i hna
                split at h2
                · rename_i pc2 lv2 st2 h9 dc ds h1
                  rw [sh_one_none hn hn2 h1]
                  exact h2
                · cases h2
      · cases h2
end Rows2
