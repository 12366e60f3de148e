/-! SMALL CALLS: give -/
theorem sj_235 {x k w : Nat} {v : Int64} {m : sh_X} (h : sf_228 x (Int32.ofNat k) m = some true) (hk : k < 256) (hw : m.I (x + 2) k = Int32.ofNat w) (w6 : w ≤ 64) : sf_235 x (Int32.ofNat k) v m = some ((), (m.T, m.I, sh_u2 m.J (x + 3) k (if w = 64 then v else v &&& (((1 : Int64) <<< (Int32.toInt64 (Int32.ofNat w) &&& 63)) - (1 : Int64))), m.s)) := by
  have o : sh_okb (Int32.ofNat k) 256 = true := sh_okn' hk (by omega)
  unfold sf_235 sf_235_40
  rw [h, sh_bc_some, if_pos rfl, if_pos o, sh_nIc (by omega), hw, if_pos o, if_pos o, if_pos o]
  by_cases q : w = 64
  · rw [if_pos q, if_neg (show ¬ Int32.ofNat w < 64 from fun r => by have := (sh_nIlt (b := 64) (by omega) (by omega)).mp r; omega)]
  · rw [if_neg q, if_pos (show Int32.ofNat w < 64 from (sh_nIlt (b := 64) (by omega) (by omega)).mpr (by omega))]
theorem sj_give {n : Nat → Nat} {W : Nat → Nat → Nat} {f : Nat → Nat → Nat → Nat} {x1 x2 x3 x4 : Int32} {mc mm : sh_X} (tl : mc.T.length < 1000000) (h13 : mc.I 0 13 = mm.I 66 4) (h012 : mm.I 66 4 = 0 ∨ (0 < mm.I 66 4 ∧ ¬ mm.I 66 4 = 0 ∧ sj_E n W f mc mm)) :
    (∃ (X k : Nat) (v : Int64), X < 2 ∧ ¬ mm.I 66 4 = 0 ∧ k < n X ∧ sf_238 x1 x2 x3 x4 mc = some (0, (mc.T, mc.I, sh_u2 mc.J (16 + 5 * X) k v, mc.s)) ∧ sf_336 x1 x2 x3 x4 mm = some ((), (mm.T, sh_u2 mm.I 66 0 0, sh_u2 mm.J 103 (256 * X + k) v, mm.s))) ∨ (sf_238 x1 x2 x3 x4 mc = some (1, sj_nx mc) ∧ sf_336 x1 x2 x3 x4 mm = some ((), (mm.T, sh_u2 mm.I 66 0 1, mm.J, mm.s))) := by
  obtain ⟨y, hy⟩ : ∃ y : Int64, ((Int32.toInt64 x3) <<< (Int32.toInt64 32 &&& 63)) ||| ((Int32.toInt64 x4) &&& (4294967295 : Int64)) = y := ⟨_, rfl⟩
  have no : sf_239 x1 x2 x3 x4 mc = some (none, sj_nx mc) → sf_238 x1 x2 x3 x4 mc = some (1, sj_nx mc) := fun h => by
    unfold sf_238
    rw [h]
    rfl
  have n41 : sf_239_41 mc = some (none, sj_nx mc) := by
    unfold sf_239_41
    rw [if_pos tl]
    rfl
  have m19 : sf_336_19 x1 x2 x3 x4 mm = some ((), (mm.T, sh_u2 mm.I 66 0 1, mm.J, mm.s)) := by
    unfold sf_336_19 sf_336_20
    rw [if_pos (show sh_b2 true = 1 from rfl)]
    rfl
  have mno : (¬ x1 < 2 ∨ sf_335 x1 x2 mm = some false) → sf_336 x1 x2 x3 x4 mm = some ((), (mm.T, sh_u2 mm.I 66 0 1, mm.J, mm.s)) := fun h => by
    unfold sf_336
    by_cases q : x1 < 2
    · rw [if_pos q, h.resolve_left (fun r => r q), sh_bc_some, if_neg (by decide), m19]
    · rw [if_neg q, m19]
  by_cases hs : mm.I 66 4 = 0
  · refine Or.inr ⟨no ?_, mno (Or.inr (sj_335o (Or.inl hs)))⟩
    unfold sf_239 sf_239_9
    rw [h13, if_pos hs, if_pos hs, if_pos hs, if_pos hs, n41]
    by_cases q0 : x1 = 0
    · rw [if_pos q0, if_pos q0]
    · rw [if_neg q0, if_neg q0]
      by_cases q1 : x1 = 1
      · rw [if_pos q1, if_pos q1]
      · rw [if_neg q1]
  · obtain ⟨p0, _, E⟩ := h012.resolve_left hs
    have h0 : ¬ mc.I 0 13 = 0 := by rw [h13]; exact hs
    have main : ∀ X, X < 2 → x1 = Int32.ofNat X → (∀ b, sf_228 (13 + 5 * X) x2 mc = some b → sf_239 x1 x2 x3 x4 mc = if b = true then (sh_bn (sf_235 (13 + 5 * X) x2 y mc) fun _ m12 => some ((some (), m12))) else sf_239_41 mc) → (∃ (X k : Nat) (v : Int64), X < 2 ∧ ¬ mm.I 66 4 = 0 ∧ k < n X ∧ sf_238 x1 x2 x3 x4 mc = some (0, (mc.T, mc.I, sh_u2 mc.J (16 + 5 * X) k v, mc.s)) ∧ sf_336 x1 x2 x3 x4 mm = some ((), (mm.T, sh_u2 mm.I 66 0 0, sh_u2 mm.J 103 (256 * X + k) v, mm.s))) ∨ (sf_238 x1 x2 x3 x4 mc = some (1, sj_nx mc) ∧ sf_336 x1 x2 x3 x4 mm = some ((), (mm.T, sh_u2 mm.I 66 0 1, mm.J, mm.s))) := fun X hX e h => by
      obtain ⟨Ev, e99, _, e101⟩ := E X (by omega)
      have n1 := Ev.n1
      have lt2 : x1 < 2 := by rw [e]; exact (sh_nIlt (b := 2) (by omega) (by omega)).mpr hX
      rcases sj_228 (x := 13 + 5 * X) (x2 := x2) Ev.am n1 with ⟨k, hk, ek, c⟩ | ⟨c, d⟩
      · have w6 := Ev.w1 k hk
        have h := h true c
        rw [if_pos rfl, ek, sj_235 (by rw [← ek]; exact c) (by omega) (Ev.wi k hk) w6, sh_bn_some, ← ek, show 13 + 5 * X + 3 = 16 + 5 * X by omega] at h
        refine Or.inl ⟨X, k, if W X k = 64 then y else y &&& (((1 : Int64) <<< (Int32.toInt64 (Int32.ofNat (W X k)) &&& 63)) - (1 : Int64)), hX, hs, hk, ?_, ?_⟩
        · unfold sf_238
          rw [h]
          rfl
        · have ix : 256 * Int32.ofNat X + Int32.ofNat k = Int32.ofNat (256 * X + k) := (congrArg (· + Int32.ofNat k) (sh_nImul (a := 256) (b := X))).trans sh_nIadd
          have o5 : sh_okb (Int32.ofNat (256 * X + k)) 512 = true := sh_okn' (by omega) (by omega)
          unfold sf_336 sf_336_20 sf_336_93
          rw [if_pos lt2, hy, e, ek, sj_335 p0 (by omega) e99, decide_eq_true (show ¬ Int32.ofNat k < 0 ∧ Int32.ofNat k < Int32.ofNat (n X) from ⟨sh_nI0 (by omega), (sh_nIlt (by omega) (by omega)).mpr hk⟩), sh_bc_some, if_pos rfl, if_neg (show ¬ sh_b2 false = 1 by decide), ix, if_pos (sh_okn' (by omega) (by omega)), sh_nIc (by omega), e101 k hk, if_pos o5, if_pos o5]
          by_cases q : W X k = 64
          · rw [if_pos q, if_pos (show Int32.ofNat (W X k) = 64 by rw [q]; rfl)]
            rfl
          · rw [if_neg q, if_neg (show ¬ Int32.ofNat (W X k) = 64 from fun r => q ((sh_nIeq (b := 64) (by omega) (by omega)).mp r))]
            rfl
      · refine Or.inr ⟨no ?_, mno (Or.inr ?_)⟩
        · rw [h false c, if_neg (by decide), n41]
        · rw [e, sj_335 p0 (by omega) e99, decide_eq_false (fun q => d.elim q.1 (fun r => r q.2))]
    by_cases q0 : x1 = 0
    · refine main 0 (by omega) q0 (fun b hb => ?_)
      unfold sf_239 sf_239_9
      rw [if_pos q0, if_pos q0, if_neg h0, show sf_228 13 x2 mc = some b from hb, sh_bc_some, hy]
    · by_cases q1 : x1 = 1
      · refine main 1 (by omega) q1 (fun b hb => ?_)
        unfold sf_239 sf_239_9
        rw [if_neg q0, if_neg q0, if_pos q1, if_pos q1, if_neg h0, show sf_228 18 x2 mc = some b from hb, sh_bc_some, hy]
      · refine Or.inr ⟨no ?_, ?_⟩
        · unfold sf_239
          rw [if_neg q0, if_neg q1, if_neg h0, n41]
        · by_cases q2 : x1 = 2
          · exact mno (Or.inl (by rw [q2]; decide))
          · exact mno (Or.inr (sj_335o (Or.inr ⟨q0, q1, q2⟩)))
