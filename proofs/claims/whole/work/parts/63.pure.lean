/-! what is told -/
theorem sh_shl1 : ∀ i j : Fin 64, ((1 : Int64) <<< (Int32.toInt64 (Int32.ofNat i.1) &&& 63)).toBitVec.getLsbD j.1 = decide (j.1 = i.1) := by decide +kernel
theorem sh_shl0 : ∀ i : Fin 64, (0 : Int64) <<< (Int32.toInt64 (Int32.ofNat i.1) &&& 63) = 0 := by decide +kernel
theorem sh_mk : ∀ W j : Fin 64, (((1 : Int64) <<< (Int32.toInt64 (Int32.ofNat W.1) &&& 63)) - (1 : Int64)).toBitVec.getLsbD j.1 = decide (j.1 < W.1) := by decide +kernel
theorem sh_or_bit (x : Int64) (v : Bool) {i j : Nat} (hi : i < 64) (hj : j < 64) : (x ||| ((if v = true then (1 : Int64) else 0) <<< (Int32.toInt64 (Int32.ofNat i) &&& 63))).toBitVec.getLsbD j = (x.toBitVec.getLsbD j || (v && decide (j = i))) := by
  rw [Int64.toBitVec_or, BitVec.getLsbD_or]
  cases v
  · rw [if_neg (by decide), sh_shl0 ⟨i, hi⟩]
    show (_ || (0#64).getLsbD j) = _
    rw [BitVec.getLsbD_zero]
    rfl
  · rw [if_pos rfl, sh_shl1 ⟨i, hi⟩ ⟨j, hj⟩, Bool.true_and]
theorem sh_and_mask (x : Int64) {W j : Nat} (hW : W < 64) (hj : j < 64) : (x &&& (((1 : Int64) <<< (Int32.toInt64 (Int32.ofNat W) &&& 63)) - (1 : Int64))).toBitVec.getLsbD j = (x.toBitVec.getLsbD j && decide (j < W)) := by
  rw [Int64.toBitVec_and, BitVec.getLsbD_and, sh_mk ⟨W, hW⟩ ⟨j, hj⟩]
/-- Elements.fill -/
theorem sh_235 {x n k : Nat} {W : Nat → Nat} {f : Nat → Nat → Nat} {c : Int64} {m : sh_X} (h : sh_Ev x n W f m) (hk : k < n) : ∃ d, sf_235 x (Int32.ofNat k) c m = some ((), (m.T, m.I, sh_u2 m.J (x + 3) k d, m.s)) ∧ ∀ j, j < 64 → d.toBitVec.getLsbD j = (c.toBitVec.getLsbD j && decide (j < W k)) := by
  have n1 := h.n1
  have w1 := h.w1 k hk
  have o1 : sh_okb (Int32.ofNat k) 256 = true := (sh_okn (by omega)).mpr (by omega)
  have c64 : (Int32.ofNat (W k) < 64) ↔ W k < 64 := sh_nIlt (b := 64) (by omega) (by omega)
  unfold sf_235 sf_235_40
  rw [sh_228 h hk, sh_bc_some, if_pos rfl, if_pos o1, sh_nIc (by omega), h.wi k hk]
  by_cases hw : W k < 64
  · rw [if_pos (c64.mpr hw), if_pos o1, if_pos o1]
    exact ⟨_, rfl, fun j hj => sh_and_mask c hw hj⟩
  · rw [if_neg (fun q => hw (c64.mp q)), if_pos o1]
    refine ⟨c, rfl, fun j hj => ?_⟩
    rw [show decide (j < W k) = true from decide_eq_true (by omega), Bool.and_true]
theorem sh_tellb (o z : Int64) (v : Bool) (ho : sh_b0 o = true) : (z ^^^ (z ^^^ sh_bo o v)) &&& (1 : Int64) = if v = true then 1 else 0 := by
  rw [← Int64.xor_assoc, Int64.xor_self, Int64.zero_xor, sh_an1, sh_b0_bo o v ho]
/-- the bits of the output k -/
theorem sh_234r {gs : sh_gL} {a b n k : Nat} {o : Int64} {p : Nat → Bool} {W : Nat → Nat} {f : Nat → Nat → Nat} {m : sh_X} (h : sh_Yz gs a b m) (hE : sh_Ev 23 n W f m) (hk : k < n) (ho0 : sh_b0 o = true) (hf : ∀ i, i < W k → f k i < gs.length) (hl : ∀ w, w < gs.length → sh_lb a b o m w (sh_va p gs w)) :
    ∃ d, sf_234_15 (Int32.ofNat k) 0 0 m = some (.inl (Int32.ofNat k + 1, (m.T, m.I, sh_u2 m.J 26 k d, m.s))) ∧ ∀ j, j < 64 → d.toBitVec.getLsbD j = (decide (j < W k) && sh_va p gs (f k j)) := by
  have n1 := hE.n1
  have w1 := hE.w1 k hk
  have hlen := h.g.len
  unfold sf_234_15
  obtain ⟨⟨x, c, m2⟩, ⟨q1, q2, q3⟩, q6⟩ := sh_loop (f := fun q => sf_234_15s (Int32.ofNat k) q.1 q.2.1 q.2.2) (n := W k) (i := 0) (s := (0, 0, m))
    (fun i s => s.2.1 = Int32.ofNat i ∧ s.2.2 = m ∧ ∀ j, j < 64 → s.1.toBitVec.getLsbD j = (decide (j < i) && sh_va p gs (f k j))) (by
      rintro i ⟨x, c, m2⟩ hi ⟨r1, r2, r3⟩
      have r1 : c = Int32.ofNat i := r1
      subst r1
      have r2 : m2 = m := r2
      subst r2
      have r3 : ∀ j, j < 64 → x.toBitVec.getLsbD j = (decide (j < i) && sh_va p gs (f k j)) := r3
      have hlt := (sh_nIlt (a := i) (b := W k) (by omega) (by omega)).mpr hi
      have hw := hf i hi
      have o1 : sh_okb (Int32.ofNat (f k i)) (sh_ln m2.T a) = true := (sh_okn (by omega)).mpr (by have := h.la; omega)
      have o2 : sh_okb (Int32.ofNat (f k i)) (sh_ln m2.T b) = true := (sh_okn (by omega)).mpr (by have := h.lb; omega)
      have o3 : sh_okb (Int32.ofNat k) 256 = true := (sh_okn (by omega)).mpr (by omega)
      have hlb : m2.J b (f k i) = m2.J a (f k i) ^^^ sh_bo o (sh_va p gs (f k i)) := hl _ hw
      refine ⟨(x ||| ((if sh_va p gs (f k i) = true then (1 : Int64) else 0) <<< (Int32.toInt64 (Int32.ofNat i) &&& 63)), Int32.ofNat i + 1, m2), ?_, sh_nI1, rfl, fun j hj => ?_⟩
      · show sf_234_15s (Int32.ofNat k) x (Int32.ofNat i) m2 = _
        unfold sf_234_15s sf_234_67
        rw [if_pos o3, sh_nIc (by omega), show m2.I 25 k = Int32.ofNat (W k) from hE.wi k hk, if_pos hlt, sh_227 hE hk hi, sh_bc_some, sh_225 h (by omega), sh_bc_some, if_pos (decide_eq_true hw), h.ra, h.rb, if_pos o1, if_pos o2, sh_nIc (by omega), hlb, sh_tellb _ _ _ ho0]
      · show (x ||| _).toBitVec.getLsbD j = _
        rw [sh_or_bit x _ (by omega) hj, r3 j hj]
        by_cases hji : j = i
        · subst hji; simp
        · have e1 : decide (j < i + 1) = decide (j < i) := by
            by_cases q : j < i
            · simp [q]; omega
            · simp [q]; omega
          rw [e1]; simp [hji]) (Nat.zero_le _) ⟨rfl, rfl, fun j hj => by
            show (0#64).getLsbD j = _
            rw [BitVec.getLsbD_zero]; simp⟩
  have q1 : c = Int32.ofNat (W k) := q1
  subst q1
  have q2 : m2 = m := q2
  subst q2
  obtain ⟨d, d1, d2⟩ := sh_235 (c := x) hE hk
  refine ⟨d, q6 _ ?_, fun j hj => ?_⟩
  · show sf_234_15s (Int32.ofNat k) x (Int32.ofNat (W k)) m2 = _
    unfold sf_234_15s
    rw [if_pos ((sh_okn (by omega)).mpr (by omega)), sh_nIc (by omega), show m2.I 25 k = Int32.ofNat (W k) from hE.wi k hk, if_neg (sh_nlt0 _), d1]
    rfl
  · have q3 : ∀ j, j < 64 → x.toBitVec.getLsbD j = (decide (j < W k) && sh_va p gs (f k j)) := q3
    rw [d2 j hj, q3 j hj]
    cases decide (j < W k) <;> simp
/-- Garbling.tell -/
theorem sh_234 {gs : sh_gL} {a b n : Nat} {o : Int64} {p : Nat → Bool} {W : Nat → Nat} {f : Nat → Nat → Nat} {m : sh_X} (h : sh_Yz gs a b m) (hE : sh_Ev 23 n W f m) (ho0 : sh_b0 o = true) (hf : ∀ k, k < n → ∀ i, i < W k → f k i < gs.length) (hl : ∀ w, w < gs.length → sh_lb a b o m w (sh_va p gs w)) :
    ∃ m2, sf_234 m = some ((), m2) ∧ m2.T = m.T ∧ m2.I = m.I ∧ m2.s = m.s ∧ (∀ c, c ≠ 26 → m2.J c = m.J c) ∧ ∀ k, k < n → ∀ j, j < 64 → (m2.J 26 k).toBitVec.getLsbD j = (decide (j < W k) && sh_va p gs (f k j)) := by
  have n1 := hE.n1
  have h26 : a ≠ 26 ∧ b ≠ 26 := by have := h.fa; have := h.fb; omega
  unfold sf_234 sf_234_2
  obtain ⟨⟨c, m2⟩, ⟨q1, q2, q3, q4, q5, q7⟩, q6⟩ := sh_loop (f := fun q => sf_234_2s q.1 q.2) (n := n) (i := 0) (s := (0, m))
    (fun i s => s.1 = Int32.ofNat i ∧ s.2.T = m.T ∧ s.2.I = m.I ∧ s.2.s = m.s ∧ (∀ c, c ≠ 26 → s.2.J c = m.J c) ∧ ∀ k, k < i → ∀ j, j < 64 → (s.2.J 26 k).toBitVec.getLsbD j = (decide (j < W k) && sh_va p gs (f k j))) (by
      rintro k ⟨c, m2⟩ hk ⟨r1, r2, r3, r4, r5, r6⟩
      have r1 : c = Int32.ofNat k := r1
      subst r1
      have r2 : m2.T = m.T := r2
      have r3 : m2.I = m.I := r3
      have r5 : ∀ c, c ≠ 26 → m2.J c = m.J c := r5
      have r6 : ∀ k2, k2 < k → ∀ j, j < 64 → (m2.J 26 k2).toBitVec.getLsbD j = (decide (j < W k2) && sh_va p gs (f k2 j)) := r6
      have e2 : sh_Ev 23 n W f m2 := hE.same r3
      obtain ⟨d, d1, d2⟩ := sh_234r (o := o) (h.same r2 r3) e2 hk ho0 (hf k hk) (fun w hw => by
        show m2.J b w = m2.J a w ^^^ _
        rw [r5 a h26.1, r5 b h26.2]
        exact hl w hw)
      refine ⟨(Int32.ofNat k + 1, (m2.T, m2.I, sh_u2 m2.J 26 k d, m2.s)), ?_, sh_nI1, r2, r3, r4, fun c hc => (sh_u2_cell hc).trans (r5 c hc), fun k2 hk2 j hj => ?_⟩
      · show sf_234_2s (Int32.ofNat k) m2 = _
        unfold sf_234_2s
        rw [e2.am, if_pos ((sh_nIlt (by omega) (by omega)).mpr hk), d1]
      · show (sh_u2 m2.J 26 k d 26 k2).toBitVec.getLsbD j = _
        by_cases hkk : k2 = k
        · subst hkk; rw [sh_u2_same]; exact d2 j hj
        · rw [sh_u2_idx hkk]; exact r6 k2 (by omega) j hj) (Nat.zero_le _) ⟨rfl, rfl, rfl, rfl, fun _ _ => rfl, fun k hk => absurd hk (by omega)⟩
  have q1 : c = Int32.ofNat n := q1
  subst q1
  refine ⟨m2, q6 _ ?_, q2, q3, q4, q5, q7⟩
  show sf_234_2s (Int32.ofNat n) m2 = _
  unfold sf_234_2s
  rw [(hE.same q3).am, if_neg (sh_nlt0 n)]
