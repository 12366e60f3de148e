/-! gone on -/
theorem sh_code_kw (G : sh_G) (k : Nat) : sh_kw (sh_code G k) = true := by
  unfold sh_code
  split <;> rfl
def sh_ckM (k : Nat) : Bool := match sh_mP[k]? with
  | some z => decide (lw_tbl[z.2.1]? = some (.initialized (sh_Y sh_G0 k).cls)) && plainFor (sh_Y sh_G0 k) && decide ((sh_Y sh_G0 k).cls ≠ "java/lang/invoke/MethodHandle" ∧ (sh_Y sh_G0 k).cls ≠ "java/lang/invoke/VarHandle") && decide ((parseMethodDescriptor (sh_Y sh_G0 k).desc).map (fun d => d.parameters.length) = some (sh_P sh_G0 k)) && decide (sh_O sh_G0 k = (sh_Y sh_G0 k).cls)
  | none => false
set_option maxRecDepth 100000 in
theorem sh_ckM_0 : ((List.range 16).all (fun k => sh_ckM (k + 1))) = true := by decide +kernel
set_option maxRecDepth 100000 in
theorem sh_ckM_1 : ((List.range 16).all (fun k => sh_ckM (k + 17))) = true := by decide +kernel
set_option maxRecDepth 100000 in
theorem sh_ckM_2 : ((List.range 16).all (fun k => sh_ckM (k + 33))) = true := by decide +kernel
set_option maxRecDepth 100000 in
theorem sh_ckM_3 : ((List.range 16).all (fun k => sh_ckM (k + 49))) = true := by decide +kernel
set_option maxRecDepth 100000 in
theorem sh_ckM_4 : ((List.range 16).all (fun k => sh_ckM (k + 65))) = true := by decide +kernel
set_option maxRecDepth 100000 in
theorem sh_ckM_5 : ((List.range 16).all (fun k => sh_ckM (k + 81))) = true := by decide +kernel
set_option maxRecDepth 100000 in
theorem sh_ckM_6 : ((List.range 16).all (fun k => sh_ckM (k + 97))) = true := by decide +kernel
set_option maxRecDepth 100000 in
theorem sh_ckM_7 : ((List.range 16).all (fun k => sh_ckM (k + 113))) = true := by decide +kernel
set_option maxRecDepth 100000 in
theorem sh_ckM_8 : ((List.range 16).all (fun k => sh_ckM (k + 129))) = true := by decide +kernel
set_option maxRecDepth 100000 in
theorem sh_ckM_9 : ((List.range 16).all (fun k => sh_ckM (k + 145))) = true := by decide +kernel
set_option maxRecDepth 100000 in
theorem sh_ckM_10 : ((List.range 16).all (fun k => sh_ckM (k + 161))) = true := by decide +kernel
set_option maxRecDepth 100000 in
theorem sh_ckM_11 : ((List.range 16).all (fun k => sh_ckM (k + 177))) = true := by decide +kernel
set_option maxRecDepth 100000 in
theorem sh_ckM_12 : ((List.range 16).all (fun k => sh_ckM (k + 193))) = true := by decide +kernel
set_option maxRecDepth 100000 in
theorem sh_ckM_13 : ((List.range 16).all (fun k => sh_ckM (k + 209))) = true := by decide +kernel
set_option maxRecDepth 100000 in
theorem sh_ckM_14 : ((List.range 16).all (fun k => sh_ckM (k + 225))) = true := by decide +kernel
set_option maxRecDepth 100000 in
theorem sh_ckM_15 : ((List.range 16).all (fun k => sh_ckM (k + 241))) = true := by decide +kernel
set_option maxRecDepth 100000 in
theorem sh_ckM_16 : ((List.range 16).all (fun k => sh_ckM (k + 257))) = true := by decide +kernel
set_option maxRecDepth 100000 in
theorem sh_ckM_17 : ((List.range 16).all (fun k => sh_ckM (k + 273))) = true := by decide +kernel
set_option maxRecDepth 100000 in
theorem sh_ckM_18 : ((List.range 16).all (fun k => sh_ckM (k + 289))) = true := by decide +kernel
set_option maxRecDepth 100000 in
theorem sh_ckM_19 : ((List.range 16).all (fun k => sh_ckM (k + 305))) = true := by decide +kernel
set_option maxRecDepth 100000 in
theorem sh_ckM_20 : ((List.range 16).all (fun k => sh_ckM (k + 321))) = true := by decide +kernel
set_option maxRecDepth 100000 in
theorem sh_ckM_21 : ((List.range 16).all (fun k => sh_ckM (k + 337))) = true := by decide +kernel
theorem sh_ckM_at (k : Nat) (h1 : 1 ≤ k) (h2 : k < 353) : sh_ckM k = true := by
  rcases Nat.lt_or_ge k 17 with h | h
  · have h3 := List.all_eq_true.mp sh_ckM_0 (k - 1) (List.mem_range.mpr (by omega))
    rw [show k - 1 + 1 = k by omega] at h3
    exact h3
  rcases Nat.lt_or_ge k 33 with h | h
  · have h3 := List.all_eq_true.mp sh_ckM_1 (k - 17) (List.mem_range.mpr (by omega))
    rw [show k - 17 + 17 = k by omega] at h3
    exact h3
  rcases Nat.lt_or_ge k 49 with h | h
  · have h3 := List.all_eq_true.mp sh_ckM_2 (k - 33) (List.mem_range.mpr (by omega))
    rw [show k - 33 + 33 = k by omega] at h3
    exact h3
  rcases Nat.lt_or_ge k 65 with h | h
  · have h3 := List.all_eq_true.mp sh_ckM_3 (k - 49) (List.mem_range.mpr (by omega))
    rw [show k - 49 + 49 = k by omega] at h3
    exact h3
  rcases Nat.lt_or_ge k 81 with h | h
  · have h3 := List.all_eq_true.mp sh_ckM_4 (k - 65) (List.mem_range.mpr (by omega))
    rw [show k - 65 + 65 = k by omega] at h3
    exact h3
  rcases Nat.lt_or_ge k 97 with h | h
  · have h3 := List.all_eq_true.mp sh_ckM_5 (k - 81) (List.mem_range.mpr (by omega))
    rw [show k - 81 + 81 = k by omega] at h3
    exact h3
  rcases Nat.lt_or_ge k 113 with h | h
  · have h3 := List.all_eq_true.mp sh_ckM_6 (k - 97) (List.mem_range.mpr (by omega))
    rw [show k - 97 + 97 = k by omega] at h3
    exact h3
  rcases Nat.lt_or_ge k 129 with h | h
  · have h3 := List.all_eq_true.mp sh_ckM_7 (k - 113) (List.mem_range.mpr (by omega))
    rw [show k - 113 + 113 = k by omega] at h3
    exact h3
  rcases Nat.lt_or_ge k 145 with h | h
  · have h3 := List.all_eq_true.mp sh_ckM_8 (k - 129) (List.mem_range.mpr (by omega))
    rw [show k - 129 + 129 = k by omega] at h3
    exact h3
  rcases Nat.lt_or_ge k 161 with h | h
  · have h3 := List.all_eq_true.mp sh_ckM_9 (k - 145) (List.mem_range.mpr (by omega))
    rw [show k - 145 + 145 = k by omega] at h3
    exact h3
  rcases Nat.lt_or_ge k 177 with h | h
  · have h3 := List.all_eq_true.mp sh_ckM_10 (k - 161) (List.mem_range.mpr (by omega))
    rw [show k - 161 + 161 = k by omega] at h3
    exact h3
  rcases Nat.lt_or_ge k 193 with h | h
  · have h3 := List.all_eq_true.mp sh_ckM_11 (k - 177) (List.mem_range.mpr (by omega))
    rw [show k - 177 + 177 = k by omega] at h3
    exact h3
  rcases Nat.lt_or_ge k 209 with h | h
  · have h3 := List.all_eq_true.mp sh_ckM_12 (k - 193) (List.mem_range.mpr (by omega))
    rw [show k - 193 + 193 = k by omega] at h3
    exact h3
  rcases Nat.lt_or_ge k 225 with h | h
  · have h3 := List.all_eq_true.mp sh_ckM_13 (k - 209) (List.mem_range.mpr (by omega))
    rw [show k - 209 + 209 = k by omega] at h3
    exact h3
  rcases Nat.lt_or_ge k 241 with h | h
  · have h3 := List.all_eq_true.mp sh_ckM_14 (k - 225) (List.mem_range.mpr (by omega))
    rw [show k - 225 + 225 = k by omega] at h3
    exact h3
  rcases Nat.lt_or_ge k 257 with h | h
  · have h3 := List.all_eq_true.mp sh_ckM_15 (k - 241) (List.mem_range.mpr (by omega))
    rw [show k - 241 + 241 = k by omega] at h3
    exact h3
  rcases Nat.lt_or_ge k 273 with h | h
  · have h3 := List.all_eq_true.mp sh_ckM_16 (k - 257) (List.mem_range.mpr (by omega))
    rw [show k - 257 + 257 = k by omega] at h3
    exact h3
  rcases Nat.lt_or_ge k 289 with h | h
  · have h3 := List.all_eq_true.mp sh_ckM_17 (k - 273) (List.mem_range.mpr (by omega))
    rw [show k - 273 + 273 = k by omega] at h3
    exact h3
  rcases Nat.lt_or_ge k 305 with h | h
  · have h3 := List.all_eq_true.mp sh_ckM_18 (k - 289) (List.mem_range.mpr (by omega))
    rw [show k - 289 + 289 = k by omega] at h3
    exact h3
  rcases Nat.lt_or_ge k 321 with h | h
  · have h3 := List.all_eq_true.mp sh_ckM_19 (k - 305) (List.mem_range.mpr (by omega))
    rw [show k - 305 + 305 = k by omega] at h3
    exact h3
  rcases Nat.lt_or_ge k 337 with h | h
  · have h3 := List.all_eq_true.mp sh_ckM_20 (k - 321) (List.mem_range.mpr (by omega))
    rw [show k - 321 + 321 = k by omega] at h3
    exact h3
  have h3 := List.all_eq_true.mp sh_ckM_21 (k - 337) (List.mem_range.mpr (by omega))
  rw [show k - 337 + 337 = k by omega] at h3
  exact h3
theorem sh_okm0 (k : Nat) (h1 : 1 ≤ k) (h2 : k < 353) : sh_okm sh_G0 k := by
  have hc := sh_ckM_at k h1 h2
  unfold sh_ckM at hc
  split at hc
  · simp only [Bool.and_eq_true, decide_eq_true_eq] at hc
    obtain ⟨⟨⟨⟨c3, c4⟩, c5⟩, c6⟩, c7⟩ := hc
    exact ⟨List.mem_filter.mpr ⟨sh_cwA k h1 h2, sh_code_kw _ k⟩, sh_memT c3 rfl, c4, c5, c6, c7⟩
  · cases hc
