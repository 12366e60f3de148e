/-! RULES for runs of the abstract machine: more fuel does no harm; what a run uses is bounded -/
section Rules
variable {G : sh_G} {sc : sh_S}
theorem sh_aft_mono {run1 run2 : Nat → sh_Ls → List Value → sh_H → Option sh_Z} (hr : ∀ pc lv st h z, run1 pc lv st h = some z → run2 pc lv st h = some z) {k k2 pc : Nat} {lv : sh_Ls} {rest : List Value} {q1 q2 : Option sh_Z} (hq : ∀ z, q1 = some z → q2 = some z) {z : sh_Z} (h : sh_aft G run1 k k2 pc lv rest q1 = some z) : sh_aft G run2 k k2 pc lv rest q2 = some z := by
  cases q1 with
  | none => cases h
  | some q =>
    rw [hq q rfl]
    obtain ⟨o, h2, u1⟩ := q
    cases o with
    | returned v =>
      have h1 : sh_then (sh_L G k2) u1 (run1 (pc + 3) lv (v.toList ++ rest) h2) = some z := h
      obtain ⟨o3, h3, u3, e1, e2⟩ := sh_then_some h1
      show sh_then (sh_L G k2) u1 (run2 (pc + 3) lv (v.toList ++ rest) h2) = some z
      rw [hr _ _ _ _ _ e1, e2]
      rfl
    | threw x =>
      unfold sh_aft at h ⊢
      cases hf : sh_find G k pc x h2 with
      | none => simp only [hf] at h; cases h
      | some w =>
        cases w with
        | none => simp only [hf] at h ⊢; exact h
        | some hpc =>
          simp only [hf] at h ⊢
          obtain ⟨o3, h3, u3, e1, e2⟩ := sh_then_some h
          rw [hr _ _ _ _ _ e1, e2]
          rfl
theorem sh_step_mono {run1 run2 : Nat → Nat → sh_Ls → List Value → sh_H → Option sh_Z} (hr : ∀ k pc lv st h z, run1 k pc lv st h = some z → run2 k pc lv st h = some z) {k pc : Nat} {lv : sh_Ls} {st : List Value} {h : sh_H} {z : sh_Z} (hz : sh_step G sc run1 k pc lv st h = some z) : sh_step G sc run2 k pc lv st h = some z := by
  unfold sh_step at hz ⊢
  cases hd : sh_gI G k pc with
  | none => simp only [hd] at hz; cases hz
  | some q =>
    obtain ⟨i, len⟩ := q
    simp only [hd] at hz ⊢
    by_cases hl : len = sh_len i len
    · rw [if_pos hl] at hz ⊢
      cases hv : sh_ret G k i st with
      | some v => simp only [hv] at hz ⊢; exact hz
      | none =>
        simp only [hv] at hz ⊢
        cases he : sh_ent G k i st h with
        | some q =>
          obtain ⟨k2, as, rest⟩ := q
          simp only [he] at hz ⊢
          by_cases hw : sh_wgt rest ≤ 8 ∧ sh_wgt as ≤ sh_L G k2
          · rw [if_pos hw] at hz ⊢
            exact sh_aft_mono (fun pc lv st h z => hr k pc lv st h z) (fun z => hr k2 0 _ _ h z) hz
          · rw [if_neg hw] at hz
            cases hz
        | none =>
          simp only [he] at hz ⊢
          cases htn : sh_tn G k i pc with
          | some q =>
            obtain ⟨ci, idx, ic⟩ := q
            simp only [htn] at hz ⊢
            by_cases hw : h.length < 1000000 ∧ sh_wgt st ≤ 100
            · rw [if_pos hw] at hz ⊢
              cases hf : sh_find G k (pc + 7) (h.length + 1) (h ++ [.inr (ci, [])]) with
              | none => simp only [hf] at hz; cases hz
              | some w =>
                cases w with
                | none => simp only [hf] at hz ⊢; exact hz
                | some hpc =>
                  simp only [hf] at hz ⊢
                  obtain ⟨o3, h3, u3, e1, e2⟩ := sh_more_some hz
                  rw [hr _ _ _ _ _ _ e1, e2]
                  rfl
            · rw [if_neg hw] at hz
              cases hz
          | none =>
          simp only [htn] at hz ⊢
          split at hz
          · rename_i x r0 _ _
            split at hz
            · exact hz
            · exact hr _ _ _ _ _ _ hz
            · cases hz
          · rename_i hna
            split at hz
            · rename_i pc2 lv2 st2 h2 dc ds h1
              obtain ⟨o3, h3, u3, e1, e2⟩ := sh_more_some hz
              rw [hr _ _ _ _ _ _ e1, e2]
              rfl
            · cases hz
    · rw [if_neg hl] at hz
      cases hz
theorem sh_run_mono1 : ∀ (n k pc : Nat) (lv : sh_Ls) (st : List Value) (h : sh_H) (z : sh_Z), sh_run G sc n k pc lv st h = some z → sh_run G sc (n + 1) k pc lv st h = some z := by
  intro n
  induction n with
  | zero => intro k pc lv st h z hz; cases hz
  | succ n ih =>
    intro k pc lv st h z hz
    exact sh_step_mono ih hz
theorem sh_run_mono {n n2 : Nat} (hn : n ≤ n2) {k pc : Nat} {lv : sh_Ls} {st : List Value} {h : sh_H} {z : sh_Z} (hz : sh_run G sc n k pc lv st h = some z) : sh_run G sc n2 k pc lv st h = some z := by
  obtain ⟨d, rfl⟩ := Nat.exists_eq_add_of_le hn
  induction d with
  | zero => exact hz
  | succ d ih => exact sh_run_mono1 _ _ _ _ _ _ _ (ih (by omega))
/-- what a run uses, at most -/
def sh_le (u v : sh_U) : Prop := u.1 ≤ v.1 ∧ u.2.1 ≤ v.2.1 ∧ u.2.2.1 ≤ v.2.2.1 ∧ u.2.2.2 ≤ v.2.2.2
/-- from here the machine comes to the end o with the heap h2, and uses at most v -/
def sh_To (G : sh_G) (sc : sh_S) (k pc : Nat) (lv : sh_Ls) (st : List Value) (h : sh_H) (o : Outcome) (h2 : sh_H) (v : sh_U) : Prop := ∃ n u, sh_run G sc n k pc lv st h = some (o, h2, u) ∧ sh_le u v
end Rules
