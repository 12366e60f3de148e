/-! WALKS of the abstract machine, row by row, over this claim's tables -/
def sh_simple : Instr → Bool
  | .ireturn => false
  | .lreturn => false
  | .areturn => false
  | .return_ => false
  | .athrow => false
  | .invokevirtual _ => false
  | .invokestatic _ => false
  | .invokespecial _ => false
  | .new _ => false
  | _ => true
section Walk
variable {G : sh_G} {sc : sh_S} {k pc : Nat} {lv : sh_Ls} {st : List Value} {h h3 : sh_H} {o : Outcome} {v : sh_U}
theorem sh_ret_simple {i : Instr} (hs : sh_simple i = true) : sh_ret G k i st = none := by
  unfold sh_ret
  split <;> first | rfl | cases hs
theorem sh_ent_simple {i : Instr} (hs : sh_simple i = true) : sh_ent G k i st h = none := by
  unfold sh_ent
  split <;> first | rfl | cases hs
theorem sh_tn_simple {i : Instr} (hs : sh_simple i = true) : sh_tn G k i pc = none := by
  unfold sh_tn
  split <;> first | rfl | cases hs
theorem sh_step_simple {i : Instr} {len pc2 : Nat} {lv2 : sh_Ls} {st2 : List Value} {h2 : sh_H} {dc ds : Nat} (hi : sh_gI G k pc = some (i, len)) (hl : len = sh_len i len) (hs : sh_simple i = true) (h1 : sh_one G sc k i pc lv st h = some (pc2, lv2, st2, h2, dc, ds))
    (run : Nat → Nat → sh_Ls → List Value → sh_H → Option sh_Z) : sh_step G sc run k pc lv st h = sh_more dc ds (run k pc2 lv2 st2 h2) := by
  unfold sh_step
  rw [hi]
  dsimp only
  rw [if_pos hl, sh_ret_simple hs]
  dsimp only
  rw [sh_ent_simple hs]
  dsimp only
  rw [sh_tn_simple hs]
  dsimp only
  split
  · cases hs
  · rw [h1]
theorem sh_To_step {pc2 : Nat} {lv2 : sh_Ls} {st2 : List Value} {h2 : sh_H} {dc ds : Nat} (hs : ∀ run, sh_step G sc run k pc lv st h = sh_more dc ds (run k pc2 lv2 st2 h2)) (kk : sh_To G sc k pc2 lv2 st2 h2 o h3 v) : sh_To G sc k pc lv st h o h3 (dc + v.1, ds + v.2.1, v.2.2) := by
  obtain ⟨n, u, hr, hu⟩ := kk
  refine ⟨n + 1, (dc + u.1, ds + u.2.1, u.2.2), ?_, Nat.add_le_add_left hu.1 _, Nat.add_le_add_left hu.2.1 _, hu.2.2⟩
  show sh_step G sc (sh_run G sc n) k pc lv st h = _
  rw [hs, hr]
  rfl
theorem sh_To_le {v2 : sh_U} (hv : sh_le v v2) (kk : sh_To G sc k pc lv st h o h3 v) : sh_To G sc k pc lv st h o h3 v2 := by
  obtain ⟨n, u, hr, hu⟩ := kk
  exact ⟨n, u, hr, Nat.le_trans hu.1 hv.1, Nat.le_trans hu.2.1 hv.2.1, Nat.le_trans hu.2.2.1 hv.2.2.1, Nat.le_trans hu.2.2.2 hv.2.2.2⟩
/-- a row of the walk that makes nothing -/
theorem sh_w {i : Instr} {len pc2 : Nat} {lv2 : sh_Ls} {st2 : List Value} {h2 : sh_H} (hi : sh_gI G k pc = some (i, len)) (hs : (sh_simple i && decide (len = sh_len i len)) = true) (h1 : sh_one G sc k i pc lv st h = some (pc2, lv2, st2, h2, 0, 0)) (kk : sh_To G sc k pc2 lv2 st2 h2 o h3 v) : sh_To G sc k pc lv st h o h3 v := by
  rw [Bool.and_eq_true, decide_eq_true_eq] at hs
  have h2 := sh_To_step (sh_step_simple hi hs.2 hs.1 h1) kk
  rwa [Nat.zero_add, Nat.zero_add] at h2
theorem sh_wnx {i : Instr} {len pc2 : Nat} {lv2 : sh_Ls} {st2 : List Value} {h2 : sh_H} {dc ds : Nat} (hi : sh_gI G k pc = some (i, len)) (hs : (sh_simple i && decide (len = sh_len i len)) = true) (h1 : sh_one G sc k i pc lv st h = some (pc2, lv2, st2, h2, dc, ds)) (kk : sh_To G sc k pc2 lv2 st2 h2 o h3 v) : sh_To G sc k pc lv st h o h3 (dc + v.1, ds + v.2.1, v.2.2) := by
  rw [Bool.and_eq_true, decide_eq_true_eq] at hs
  exact sh_To_step (sh_step_simple hi hs.2 hs.1 h1) kk
/-- the end -/
theorem sh_wret {i : Instr} {len : Nat} {r : Option Value} (hi : sh_gI G k pc = some (i, len)) (hl : len = sh_len i len) (hr : sh_ret G k i st = some r) : sh_To G sc k pc lv st h (.returned r) h (0, 0, 8, 200) := by
  refine ⟨1, sh_u0, ?_, Nat.le_refl _, Nat.le_refl _, Nat.le_refl _, Nat.le_refl _⟩
  show sh_step G sc (sh_run G sc 0) k pc lv st h = _
  unfold sh_step
  rw [hi]
  dsimp only
  rw [if_pos hl, hr]
/-- a call that returns -/
theorem sh_wcall {i : Instr} {len k2 : Nat} {as rest : List Value} {r : Option Value} {h2 : sh_H} {v1 : sh_U} (hi : sh_gI G k pc = some (i, len)) (hl : len = sh_len i len) (hr : sh_ret G k i st = none) (he : sh_ent G k i st h = some (k2, as, rest)) (hw : sh_wgt rest ≤ 8 ∧ sh_wgt as ≤ sh_L G k2)
    (hc : sh_To G sc k2 0 (lv_args 0 as) [] h (.returned r) h2 v1) (kk : sh_To G sc k (pc + 3) lv (r.toList ++ rest) h2 o h3 v) : sh_To G sc k pc lv st h o h3 (sh_seq (sh_L G k2) v1 v) := by
  obtain ⟨n1, u1, hr1, hu1⟩ := hc
  obtain ⟨n2, u2, hr2, hu2⟩ := kk
  refine ⟨max n1 n2 + 1, sh_seq (sh_L G k2) u1 u2, ?_, Nat.add_le_add hu1.1 hu2.1, Nat.add_le_add hu1.2.1 hu2.2.1, ?_, ?_⟩
  · show sh_step G sc (sh_run G sc (max n1 n2)) k pc lv st h = _
    unfold sh_step
    rw [hi]
    dsimp only
    rw [if_pos hl, hr]
    dsimp only
    rw [he]
    dsimp only
    rw [if_pos hw, sh_run_mono (Nat.le_max_left n1 n2) hr1]
    show sh_then (sh_L G k2) u1 (sh_run G sc (max n1 n2) k (pc + 3) lv (r.toList ++ rest) h2) = _
    rw [sh_run_mono (Nat.le_max_right n1 n2) hr2]
    rfl
  · have q1 := hu1.2.2.1
    have q2 := hu2.2.2.1
    show max (u1.2.2.1 + 1) u2.2.2.1 ≤ max (v1.2.2.1 + 1) v.2.2.1
    omega
  · have q1 := hu1.2.2.2
    have q2 := hu2.2.2.2
    show max (8 + (sh_L G k2 + 11) + u1.2.2.2) u2.2.2.2 ≤ max (8 + (sh_L G k2 + 11) + v1.2.2.2) v.2.2.2
    omega
end Walk
