/-! THE START: the heap behind both constructors (and the array out), by the kernel's own run; printed by gen18.py -/
def sh_hOf : Option sh_Z → sh_H
  | some (_, h, _) => h
  | none => []
def sh_uOf : Option sh_Z → sh_U
  | some (_, _, u) => u
  | none => (0, 0, 0, 0)
def sh_isN : Option sh_Z → Bool
  | some (.returned none, _, _) => true
  | _ => false
theorem sh_isN_eq {r : Option sh_Z} (h : sh_isN r = true) : r = some (.returned none, sh_hOf r, sh_uOf r) := by
  unfold sh_isN at h
  split at h
  · rfl
  · cases h
def sh_isV (x : Int32) : Option sh_Z → Bool
  | some (.returned (some (.int y)), _, _) => decide (y = x)
  | _ => false
theorem sh_isV_eq {x : Int32} {r : Option sh_Z} (h : sh_isV x r = true) : r = some (.returned (some (.int x)), sh_hOf r, sh_uOf r) := by
  unfold sh_isV at h
  split at h
  · rw [of_decide_eq_true h]
    rfl
  · cases h
def sh_uB (u v : sh_U) : Bool := decide (u.1 ≤ v.1) && decide (u.2.1 ≤ v.2.1) && decide (u.2.2.1 ≤ v.2.2.1) && decide (u.2.2.2 ≤ v.2.2.2)
theorem sh_uB_le {u v : sh_U} (h : sh_uB u v = true) : sh_le u v := by
  unfold sh_uB at h
  simp only [Bool.and_eq_true, decide_eq_true_eq] at h
  exact ⟨h.1.1.1, h.1.1.2, h.1.2, h.2⟩
/-- a heap has these tags -/
def sh_sh1 : Value → Nat ⊕ Value → Bool
  | .int _, .inl 0 => true
  | .long _, .inl 1 => true
  | v, .inr w => decide (v = w)
  | _, _ => false
def sh_shs : List Value → List (Nat ⊕ Value) → Bool
  | [], [] => true
  | v :: r, t :: s => sh_sh1 v t && sh_shs r s
  | _, _ => false
def sh_shc : sh_E → sh_Tg → Bool
  | .inl (t, n, .inl _), .inl (t2, n2) => decide (t = t2) && decide (n = n2) && decide (t ≠ 2)
  | .inl (t, n, .inr (.inl _)), .inl (t2, n2) => decide (t = 2) && decide (t2 = 2) && decide (n = n2)
  | .inr (ci, fs), .inr (cj, ss) => decide (ci = cj) && sh_shs fs ss
  | _, _ => false
def sh_shp : sh_H → List sh_Tg → Bool
  | [], [] => true
  | e :: r, t :: s => sh_shc e t && sh_shp r s
  | _, _ => false
def sh_Iof (h : sh_H) (a i : Nat) : Int32 := match h[a]? with
  | some (.inl (_, _, .inl f)) => f i
  | some (.inr (_, fs)) => (match fs[i]? with
    | some (.int x) => x
    | _ => 0)
  | _ => 0
def sh_Jof (h : sh_H) (a i : Nat) : Int64 := match h[a]? with
  | some (.inl (_, _, .inr (.inl f))) => f i
  | some (.inr (_, fs)) => (match fs[i]? with
    | some (.long x) => x
    | _ => 0)
  | _ => 0
theorem sh_shp_at : ∀ (h : sh_H) (T : List sh_Tg), sh_shp h T = true → h.length = T.length ∧ ∀ (i : Nat) (e : sh_E), h[i]? = some e → ∃ t, T[i]? = some t ∧ sh_shc e t = true := by
  intro h
  induction h with
  | nil =>
    intro T hT
    cases T with
    | nil => exact ⟨rfl, fun i e h => by cases h⟩
    | cons t s => cases hT
  | cons e r ih =>
    intro T hT
    cases T with
    | nil => cases hT
    | cons t s =>
      have hT : (sh_shc e t && sh_shp r s) = true := hT
      rw [Bool.and_eq_true] at hT
      obtain ⟨h1, h2⟩ := ih s hT.2
      refine ⟨congrArg (· + 1) h1, fun i e2 hi => ?_⟩
      cases i with
      | zero => cases hi; exact ⟨t, rfl, hT.1⟩
      | succ i => exact h2 i e2 hi
theorem sh_sh1_ok {v : Value} {t : Nat ⊕ Value} (h : sh_sh1 v t = true) : (∃ x, v = .int x ∧ t = .inl 0) ∨ (∃ x, v = .long x ∧ t = .inl 1) ∨ t = .inr v := by
  unfold sh_sh1 at h
  split at h
  · exact Or.inl ⟨_, rfl, rfl⟩
  · exact Or.inr (Or.inl ⟨_, rfl, rfl⟩)
  · exact Or.inr (Or.inr (by rw [of_decide_eq_true h]))
  · cases h
theorem sh_shs_at : ∀ (h : List Value) (T : List (Nat ⊕ Value)), sh_shs h T = true → h.length = T.length ∧ ∀ (i : Nat) (e : Value), h[i]? = some e → ∃ t, T[i]? = some t ∧ sh_sh1 e t = true := by
  intro h
  induction h with
  | nil =>
    intro T hT
    cases T with
    | nil => exact ⟨rfl, fun i e h => by cases h⟩
    | cons t s => cases hT
  | cons e r ih =>
    intro T hT
    cases T with
    | nil => cases hT
    | cons t s =>
      have hT : (sh_sh1 e t && sh_shs r s) = true := hT
      rw [Bool.and_eq_true] at hT
      obtain ⟨h1, h2⟩ := ih s hT.2
      refine ⟨congrArg (· + 1) h1, fun i e2 hi => ?_⟩
      cases i with
      | zero => cases hi; exact ⟨t, rfl, hT.1⟩
      | succ i => exact h2 i e2 hi
theorem sh_shp_rep {h : sh_H} {T : List sh_Tg} (hs : sh_shp h T = true) : h = sh_rep T (sh_Iof h) (sh_Jof h) := by
  obtain ⟨hl, ha⟩ := sh_shp_at h T hs
  apply List.ext_getElem?
  intro i
  cases hi : h[i]? with
  | none =>
    have h1 : h.length ≤ i := List.getElem?_eq_none_iff.mp hi
    exact (List.getElem?_eq_none (by rw [sh_rep_len]; omega)).symm
  | some e =>
    obtain ⟨t, ht, hc⟩ := ha i e hi
    rw [sh_rep_get ht]
    congr 1
    unfold sh_shc at hc
    split at hc
    · rename_i t0 n0 f t2 n2
      simp only [Bool.and_eq_true, decide_eq_true_eq] at hc
      obtain ⟨⟨rfl, rfl⟩, h2⟩ := hc
      rw [sh_cellI h2]
      congr 4
      funext j
      simp only [sh_Iof, hi]
    · rename_i t0 n0 f t2 n2
      simp only [Bool.and_eq_true, decide_eq_true_eq] at hc
      obtain ⟨⟨rfl, rfl⟩, rfl⟩ := hc
      show _ = Sum.inl (2, n0, Sum.inr (Sum.inl (sh_Jof h i)))
      congr 5
      funext j
      simp only [sh_Jof, hi]
    · rename_i ci fs cj ss
      simp only [Bool.and_eq_true, decide_eq_true_eq] at hc
      obtain ⟨rfl, hss⟩ := hc
      obtain ⟨hlen, hat⟩ := sh_shs_at fs ss hss
      show _ = Sum.inr (ci, sh_slots (sh_Iof h i) (sh_Jof h i) 0 ss)
      congr 2
      apply List.ext_getElem?
      intro f
      rw [sh_slots_get, Nat.zero_add]
      cases hf : fs[f]? with
      | none =>
        have h1 : fs.length ≤ f := List.getElem?_eq_none_iff.mp hf
        rw [List.getElem?_eq_none (by omega)]
        rfl
      | some v =>
        obtain ⟨t9, hq, h9⟩ := hat f v hf
        rcases sh_sh1_ok h9 with ⟨x, rfl, rfl⟩ | ⟨x, rfl, rfl⟩ | rfl
        · rw [hq]
          show _ = some (Value.int (sh_Iof h i f))
          simp only [sh_Iof, hi, hf]
        · rw [hq]
          show _ = some (Value.long (sh_Jof h i f))
          simp only [sh_Jof, hi, hf]
        · rw [hq]
          rfl
    · cases hc
def sh_T0 : List sh_Tg := [.inr (0, [.inr (.ref 2), .inr (.ref 3), .inr (.ref 40), .inr (.ref 42), .inr (.ref 59), .inr (.ref 62), .inr (.ref 10), .inr (.ref 14), .inr (.ref 19), .inr (.ref 24), .inl 0, .inl 0, .inl 0, .inl 0, .inl 0]), .inl (1, 4000), .inr (1, [.inr (.ref 4), .inr (.ref 5), .inr (.ref 6), .inr (.ref 7), .inr (.ref 8), .inr (.ref 9), .inl 0, .inl 0, .inl 0, .inl 0, .inl 0]), .inl (0, 4001), .inl (0, 4001), .inl (2, 4001), .inl (0, 2001), .inl (0, 2001), .inl (1, 0), .inr (2, [.inr (.ref 11), .inr (.ref 12), .inr (.ref 13), .inl 0]), .inl (1, 4096), .inl (0, 4096), .inl (0, 4096), .inr (3, [.inr (.ref 15), .inr (.ref 16), .inr (.ref 17), .inr (.ref 18), .inl 0, .inl 0]), .inl (0, 256), .inl (0, 256), .inl (2, 256), .inl (0, 1000), .inr (3, [.inr (.ref 20), .inr (.ref 21), .inr (.ref 22), .inr (.ref 23), .inl 0, .inl 0]), .inl (0, 256), .inl (0, 256), .inl (2, 256), .inl (0, 1000), .inr (3, [.inr (.ref 25), .inr (.ref 26), .inr (.ref 27), .inr (.ref 28), .inl 0, .inl 0]), .inl (0, 256), .inl (0, 256), .inl (2, 256), .inl (0, 1000), .inr (4, [.inr (.ref 30), .inr (.ref 31), .inr (.ref 32), .inr (.ref 33), .inr (.ref 34), .inr (.ref 35), .inr (.ref 36), .inr (.ref 37), .inr (.ref 38), .inr (.ref 39), .inl 0, .inl 0, .inl 0]), .inl (0, 256), .inl (0, 256), .inl (0, 256), .inl (0, 256), .inl (0, 256), .inl (0, 2048), .inl (0, 2048), .inl (0, 6000), .inl (0, 6000), .inl (0, 6000), .inr (5, [.inr (.ref 3), .inr (.ref 29), .inr (.ref 41), .inl 0, .inl 0]), .inl (0, 512), .inr (6, [.inr (.ref 3), .inr (.ref 29), .inr (.ref 10), .inr (.ref 14), .inr (.ref 19), .inr (.ref 24), .inr (.ref 45), .inr (.ref 49), .inr (.ref 54), .inr (.ref 43), .inr (.ref 44), .inl 0, .inl 0, .inl 0, .inl 0, .inl 0, .inl 0, .inl 0, .inl 0]), .inl (0, 1024), .inl (0, 1024), .inr (7, [.inr (.ref 10), .inr (.ref 46), .inr (.ref 47), .inr (.ref 48), .inl 0]), .inl (0, 8192), .inl (0, 65), .inl (0, 64), .inr (8, [.inr (.ref 50), .inr (.ref 51), .inr (.ref 52), .inr (.ref 53), .inl 0]), .inl (0, 2048), .inl (0, 2048), .inl (2, 2048), .inl (0, 2048), .inr (9, [.inr (.ref 55), .inr (.ref 56), .inr (.ref 57), .inr (.ref 58), .inl 0, .inl 0]), .inl (0, 1024), .inl (0, 1024), .inl (0, 1024), .inl (2, 1024), .inr (10, [.inr (.ref 10), .inr (.ref 14), .inr (.ref 19), .inr (.ref 24), .inr (.ref 60), .inr (.ref 61), .inl 0, .inl 0, .inl 0, .inl 0, .inl 0, .inl 0]), .inl (0, 4000), .inl (1, 0), .inr (11, [.inr (.ref 10), .inr (.ref 63), .inr (.ref 64), .inr (.ref 65), .inr (.ref 66), .inl 1]), .inl (2, 2), .inl (2, 4), .inl (2, 0), .inl (2, 0), .inr (12, [.inl 0, .inr (.ref 68), .inl 0, .inl 0, .inl 0, .inl 0, .inl 0, .inl 0, .inr (.ref 69), .inr (.ref 70), .inr (.ref 71), .inl 0, .inr (.ref 72), .inr (.ref 73), .inr (.ref 74), .inr (.ref 75), .inr (.ref 76), .inr (.ref 77), .inr (.ref 78), .inr (.ref 79), .inl 0, .inl 0, .inr (.ref 80), .inr (.ref 81), .inr (.ref 82), .inr (.ref 83), .inr (.ref 84), .inr (.ref 85), .inr (.ref 86), .inr (.ref 87), .inr (.ref 88), .inl 0, .inr (.ref 89), .inr (.ref 90), .inr (.ref 91), .inr (.ref 92), .inl 0, .inl 0, .inl 0, .inl 0, .inr (.ref 93), .inl 0, .inl 0, .inl 0, .inl 0, .inl 0, .inl 1, .inr (.ref 94), .inr (.ref 95), .inr (.ref 96), .inr (.ref 97), .inr (.ref 98), .inr (.ref 99), .inl 0, .inl 0, .inl 0, .inl 0, .inl 0, .inl 0, .inl 0, .inr (.ref 100), .inr (.ref 101), .inr (.ref 102), .inr (.ref 103), .inr (.ref 104), .inr (.ref 105), .inr (.ref 106), .inr (.ref 107), .inr (.ref 108), .inr (.ref 109), .inr (.ref 110), .inr (.ref 111), .inr (.ref 112), .inl 0, .inr (.ref 113), .inr (.ref 114), .inr (.ref 115), .inr (.ref 116), .inr (.ref 117), .inl 0, .inl 0, .inr (.ref 118), .inr (.ref 119), .inr (.ref 120), .inr (.ref 121), .inl 0, .inl 0, .inl 0, .inr (.ref 122), .inr (.ref 123), .inr (.ref 124), .inl 0, .inl 0, .inl 0]), .inl (1, 4000), .inl (0, 4002), .inl (0, 4002), .inl (0, 4002), .inl (1, 4000), .inl (0, 9000), .inl (0, 9000), .inl (0, 9000), .inl (0, 9000), .inl (0, 9000), .inl (0, 9000), .inl (0, 9000), .inl (0, 600), .inl (0, 600), .inl (0, 4800), .inl (0, 4800), .inl (0, 4800), .inl (0, 600), .inl (0, 600), .inl (0, 600), .inl (0, 600), .inl (0, 1400), .inl (0, 1400), .inl (0, 1400), .inl (0, 1400), .inl (2, 80000), .inl (0, 3000), .inl (0, 3000), .inl (0, 3000), .inl (0, 3000), .inl (0, 3000), .inl (2, 3000), .inl (0, 3), .inl (0, 768), .inl (0, 768), .inl (0, 3), .inl (2, 512), .inl (2, 256), .inl (0, 9000), .inl (0, 9000), .inl (0, 9000), .inl (0, 9000), .inl (0, 9000), .inl (0, 9000), .inl (2, 9000), .inl (0, 2000), .inl (0, 2000), .inl (0, 2000), .inl (2, 2000), .inl (0, 2000), .inl (0, 2000), .inl (0, 2000), .inl (0, 2000), .inl (0, 2000), .inl (0, 3), .inl (3, 4000), .inl (3, 4000), .inl (2, 1)]
def sh_rA : Option sh_Z := sh_run sh_G0 sh_sc0 400 1 0 [(0, .ref 1)] [] [.inr (0, [.null, .null, .null, .null, .null, .null, .null, .null, .null, .null, .int 0, .int 0, .int 0, .int 0, .int 0])]
def sh_rB : Option sh_Z := sh_run sh_G0 sh_sc0 400 242 0 [(0, .ref 67)] [] (sh_hOf sh_rA ++ [.inr (12, [.int 0, .null, .int 0, .int 0, .int 0, .int 0, .int 0, .int 0, .null, .null, .null, .int 0, .null, .null, .null, .null, .null, .null, .null, .null, .int 0, .int 0, .null, .null, .null, .null, .null, .null, .null, .null, .null, .int 0, .null, .null, .null, .null, .int 0, .int 0, .int 0, .int 0, .null, .int 0, .int 0, .int 0, .int 0, .int 0, .long 0, .null, .null, .null, .null, .null, .null, .int 0, .int 0, .int 0, .int 0, .int 0, .int 0, .int 0, .null, .null, .null, .null, .null, .null, .null, .null, .null, .null, .null, .null, .null, .int 0, .null, .null, .null, .null, .null, .int 0, .int 0, .null, .null, .null, .null, .int 0, .int 0, .int 0, .null, .null, .null, .int 0, .int 0, .int 0])])
def sh_hX : sh_H := sh_hOf sh_rB ++ [.inl (2, sh_new0 2 1)]
def sh_IX : Nat → Nat → Int32 := sh_Iof sh_hX
def sh_JX : Nat → Nat → Int64 := sh_Jof sh_hX
set_option maxRecDepth 100000 in
theorem sh_rA_ok : (sh_isN sh_rA && decide ((sh_hOf sh_rA).length = 66) && sh_uB (sh_uOf sh_rA) (70, 100000, 20, 400)) = true := by decide +kernel
set_option maxRecDepth 100000 in
theorem sh_rB_ok : (sh_isN sh_rB && decide ((sh_hOf sh_rB).length = 124) && sh_uB (sh_uOf sh_rB) (70, 400000, 20, 400)) = true := by decide +kernel
set_option maxRecDepth 100000 in
theorem sh_hX_ok : (sh_shp sh_hX sh_T0 && (List.range 15).all (fun f => decide (sh_IX 0 f = if f = 12 then -1 else 0)) && (List.range 94).all (fun f => decide (sh_IX 66 f = if f = 7 then -1 else 0))) = true := by decide +kernel
theorem sh_hX_rep : sh_hX = sh_rep sh_T0 sh_IX sh_JX := sh_shp_rep (by have h := sh_hX_ok; simp only [Bool.and_eq_true] at h; exact h.1.1)
/-- the cells whose tags never change: all but those of Words, Gates, CircuitReader, Garbling themselves -/
def sh_ST (a : Nat) : Option sh_Tg := if a = 2 ∨ a = 9 ∨ a = 58 ∨ a = 61 then none else sh_T0[a]?
def sh_St (T : List sh_Tg) : Prop := ∀ (a : Nat) (t : sh_Tg), sh_ST a = some t → T[a]? = some t
theorem sh_St0 : sh_St sh_T0 := by
  intro a t h
  unfold sh_ST at h
  split at h
  · cases h
  · exact h
theorem sh_s0 {T : List sh_Tg} (h : sh_St T) : T[0]? = some (.inr (0, [.inr (.ref 2), .inr (.ref 3), .inr (.ref 40), .inr (.ref 42), .inr (.ref 59), .inr (.ref 62), .inr (.ref 10), .inr (.ref 14), .inr (.ref 19), .inr (.ref 24), .inl 0, .inl 0, .inl 0, .inl 0, .inl 0])) := h 0 _ rfl
theorem sh_s1 {T : List sh_Tg} (h : sh_St T) : T[1]? = some (.inl (1, 4000)) := h 1 _ rfl
theorem sh_s3 {T : List sh_Tg} (h : sh_St T) : T[3]? = some (.inl (0, 4001)) := h 3 _ rfl
theorem sh_s4 {T : List sh_Tg} (h : sh_St T) : T[4]? = some (.inl (0, 4001)) := h 4 _ rfl
theorem sh_s5 {T : List sh_Tg} (h : sh_St T) : T[5]? = some (.inl (2, 4001)) := h 5 _ rfl
theorem sh_s6 {T : List sh_Tg} (h : sh_St T) : T[6]? = some (.inl (0, 2001)) := h 6 _ rfl
theorem sh_s7 {T : List sh_Tg} (h : sh_St T) : T[7]? = some (.inl (0, 2001)) := h 7 _ rfl
theorem sh_s8 {T : List sh_Tg} (h : sh_St T) : T[8]? = some (.inl (1, 0)) := h 8 _ rfl
theorem sh_s10 {T : List sh_Tg} (h : sh_St T) : T[10]? = some (.inl (1, 4096)) := h 10 _ rfl
theorem sh_s11 {T : List sh_Tg} (h : sh_St T) : T[11]? = some (.inl (0, 4096)) := h 11 _ rfl
theorem sh_s12 {T : List sh_Tg} (h : sh_St T) : T[12]? = some (.inl (0, 4096)) := h 12 _ rfl
theorem sh_s13 {T : List sh_Tg} (h : sh_St T) : T[13]? = some (.inr (3, [.inr (.ref 15), .inr (.ref 16), .inr (.ref 17), .inr (.ref 18), .inl 0, .inl 0])) := h 13 _ rfl
theorem sh_s14 {T : List sh_Tg} (h : sh_St T) : T[14]? = some (.inl (0, 256)) := h 14 _ rfl
theorem sh_s15 {T : List sh_Tg} (h : sh_St T) : T[15]? = some (.inl (0, 256)) := h 15 _ rfl
theorem sh_s16 {T : List sh_Tg} (h : sh_St T) : T[16]? = some (.inl (2, 256)) := h 16 _ rfl
theorem sh_s17 {T : List sh_Tg} (h : sh_St T) : T[17]? = some (.inl (0, 1000)) := h 17 _ rfl
theorem sh_s18 {T : List sh_Tg} (h : sh_St T) : T[18]? = some (.inr (3, [.inr (.ref 20), .inr (.ref 21), .inr (.ref 22), .inr (.ref 23), .inl 0, .inl 0])) := h 18 _ rfl
theorem sh_s19 {T : List sh_Tg} (h : sh_St T) : T[19]? = some (.inl (0, 256)) := h 19 _ rfl
theorem sh_s20 {T : List sh_Tg} (h : sh_St T) : T[20]? = some (.inl (0, 256)) := h 20 _ rfl
theorem sh_s21 {T : List sh_Tg} (h : sh_St T) : T[21]? = some (.inl (2, 256)) := h 21 _ rfl
theorem sh_s22 {T : List sh_Tg} (h : sh_St T) : T[22]? = some (.inl (0, 1000)) := h 22 _ rfl
theorem sh_s23 {T : List sh_Tg} (h : sh_St T) : T[23]? = some (.inr (3, [.inr (.ref 25), .inr (.ref 26), .inr (.ref 27), .inr (.ref 28), .inl 0, .inl 0])) := h 23 _ rfl
theorem sh_s24 {T : List sh_Tg} (h : sh_St T) : T[24]? = some (.inl (0, 256)) := h 24 _ rfl
theorem sh_s25 {T : List sh_Tg} (h : sh_St T) : T[25]? = some (.inl (0, 256)) := h 25 _ rfl
theorem sh_s26 {T : List sh_Tg} (h : sh_St T) : T[26]? = some (.inl (2, 256)) := h 26 _ rfl
theorem sh_s27 {T : List sh_Tg} (h : sh_St T) : T[27]? = some (.inl (0, 1000)) := h 27 _ rfl
theorem sh_s28 {T : List sh_Tg} (h : sh_St T) : T[28]? = some (.inr (4, [.inr (.ref 30), .inr (.ref 31), .inr (.ref 32), .inr (.ref 33), .inr (.ref 34), .inr (.ref 35), .inr (.ref 36), .inr (.ref 37), .inr (.ref 38), .inr (.ref 39), .inl 0, .inl 0, .inl 0])) := h 28 _ rfl
theorem sh_s29 {T : List sh_Tg} (h : sh_St T) : T[29]? = some (.inl (0, 256)) := h 29 _ rfl
theorem sh_s30 {T : List sh_Tg} (h : sh_St T) : T[30]? = some (.inl (0, 256)) := h 30 _ rfl
theorem sh_s31 {T : List sh_Tg} (h : sh_St T) : T[31]? = some (.inl (0, 256)) := h 31 _ rfl
theorem sh_s32 {T : List sh_Tg} (h : sh_St T) : T[32]? = some (.inl (0, 256)) := h 32 _ rfl
theorem sh_s33 {T : List sh_Tg} (h : sh_St T) : T[33]? = some (.inl (0, 256)) := h 33 _ rfl
theorem sh_s34 {T : List sh_Tg} (h : sh_St T) : T[34]? = some (.inl (0, 2048)) := h 34 _ rfl
theorem sh_s35 {T : List sh_Tg} (h : sh_St T) : T[35]? = some (.inl (0, 2048)) := h 35 _ rfl
theorem sh_s36 {T : List sh_Tg} (h : sh_St T) : T[36]? = some (.inl (0, 6000)) := h 36 _ rfl
theorem sh_s37 {T : List sh_Tg} (h : sh_St T) : T[37]? = some (.inl (0, 6000)) := h 37 _ rfl
theorem sh_s38 {T : List sh_Tg} (h : sh_St T) : T[38]? = some (.inl (0, 6000)) := h 38 _ rfl
theorem sh_s39 {T : List sh_Tg} (h : sh_St T) : T[39]? = some (.inr (5, [.inr (.ref 3), .inr (.ref 29), .inr (.ref 41), .inl 0, .inl 0])) := h 39 _ rfl
theorem sh_s40 {T : List sh_Tg} (h : sh_St T) : T[40]? = some (.inl (0, 512)) := h 40 _ rfl
theorem sh_s41 {T : List sh_Tg} (h : sh_St T) : T[41]? = some (.inr (6, [.inr (.ref 3), .inr (.ref 29), .inr (.ref 10), .inr (.ref 14), .inr (.ref 19), .inr (.ref 24), .inr (.ref 45), .inr (.ref 49), .inr (.ref 54), .inr (.ref 43), .inr (.ref 44), .inl 0, .inl 0, .inl 0, .inl 0, .inl 0, .inl 0, .inl 0, .inl 0])) := h 41 _ rfl
theorem sh_s42 {T : List sh_Tg} (h : sh_St T) : T[42]? = some (.inl (0, 1024)) := h 42 _ rfl
theorem sh_s43 {T : List sh_Tg} (h : sh_St T) : T[43]? = some (.inl (0, 1024)) := h 43 _ rfl
theorem sh_s44 {T : List sh_Tg} (h : sh_St T) : T[44]? = some (.inr (7, [.inr (.ref 10), .inr (.ref 46), .inr (.ref 47), .inr (.ref 48), .inl 0])) := h 44 _ rfl
theorem sh_s45 {T : List sh_Tg} (h : sh_St T) : T[45]? = some (.inl (0, 8192)) := h 45 _ rfl
theorem sh_s46 {T : List sh_Tg} (h : sh_St T) : T[46]? = some (.inl (0, 65)) := h 46 _ rfl
theorem sh_s47 {T : List sh_Tg} (h : sh_St T) : T[47]? = some (.inl (0, 64)) := h 47 _ rfl
theorem sh_s48 {T : List sh_Tg} (h : sh_St T) : T[48]? = some (.inr (8, [.inr (.ref 50), .inr (.ref 51), .inr (.ref 52), .inr (.ref 53), .inl 0])) := h 48 _ rfl
theorem sh_s49 {T : List sh_Tg} (h : sh_St T) : T[49]? = some (.inl (0, 2048)) := h 49 _ rfl
theorem sh_s50 {T : List sh_Tg} (h : sh_St T) : T[50]? = some (.inl (0, 2048)) := h 50 _ rfl
theorem sh_s51 {T : List sh_Tg} (h : sh_St T) : T[51]? = some (.inl (2, 2048)) := h 51 _ rfl
theorem sh_s52 {T : List sh_Tg} (h : sh_St T) : T[52]? = some (.inl (0, 2048)) := h 52 _ rfl
theorem sh_s53 {T : List sh_Tg} (h : sh_St T) : T[53]? = some (.inr (9, [.inr (.ref 55), .inr (.ref 56), .inr (.ref 57), .inr (.ref 58), .inl 0, .inl 0])) := h 53 _ rfl
theorem sh_s54 {T : List sh_Tg} (h : sh_St T) : T[54]? = some (.inl (0, 1024)) := h 54 _ rfl
theorem sh_s55 {T : List sh_Tg} (h : sh_St T) : T[55]? = some (.inl (0, 1024)) := h 55 _ rfl
theorem sh_s56 {T : List sh_Tg} (h : sh_St T) : T[56]? = some (.inl (0, 1024)) := h 56 _ rfl
theorem sh_s57 {T : List sh_Tg} (h : sh_St T) : T[57]? = some (.inl (2, 1024)) := h 57 _ rfl
theorem sh_s59 {T : List sh_Tg} (h : sh_St T) : T[59]? = some (.inl (0, 4000)) := h 59 _ rfl
theorem sh_s60 {T : List sh_Tg} (h : sh_St T) : T[60]? = some (.inl (1, 0)) := h 60 _ rfl
theorem sh_s62 {T : List sh_Tg} (h : sh_St T) : T[62]? = some (.inl (2, 2)) := h 62 _ rfl
theorem sh_s63 {T : List sh_Tg} (h : sh_St T) : T[63]? = some (.inl (2, 4)) := h 63 _ rfl
theorem sh_s64 {T : List sh_Tg} (h : sh_St T) : T[64]? = some (.inl (2, 0)) := h 64 _ rfl
theorem sh_s65 {T : List sh_Tg} (h : sh_St T) : T[65]? = some (.inl (2, 0)) := h 65 _ rfl
theorem sh_s66 {T : List sh_Tg} (h : sh_St T) : T[66]? = some (.inr (12, [.inl 0, .inr (.ref 68), .inl 0, .inl 0, .inl 0, .inl 0, .inl 0, .inl 0, .inr (.ref 69), .inr (.ref 70), .inr (.ref 71), .inl 0, .inr (.ref 72), .inr (.ref 73), .inr (.ref 74), .inr (.ref 75), .inr (.ref 76), .inr (.ref 77), .inr (.ref 78), .inr (.ref 79), .inl 0, .inl 0, .inr (.ref 80), .inr (.ref 81), .inr (.ref 82), .inr (.ref 83), .inr (.ref 84), .inr (.ref 85), .inr (.ref 86), .inr (.ref 87), .inr (.ref 88), .inl 0, .inr (.ref 89), .inr (.ref 90), .inr (.ref 91), .inr (.ref 92), .inl 0, .inl 0, .inl 0, .inl 0, .inr (.ref 93), .inl 0, .inl 0, .inl 0, .inl 0, .inl 0, .inl 1, .inr (.ref 94), .inr (.ref 95), .inr (.ref 96), .inr (.ref 97), .inr (.ref 98), .inr (.ref 99), .inl 0, .inl 0, .inl 0, .inl 0, .inl 0, .inl 0, .inl 0, .inr (.ref 100), .inr (.ref 101), .inr (.ref 102), .inr (.ref 103), .inr (.ref 104), .inr (.ref 105), .inr (.ref 106), .inr (.ref 107), .inr (.ref 108), .inr (.ref 109), .inr (.ref 110), .inr (.ref 111), .inr (.ref 112), .inl 0, .inr (.ref 113), .inr (.ref 114), .inr (.ref 115), .inr (.ref 116), .inr (.ref 117), .inl 0, .inl 0, .inr (.ref 118), .inr (.ref 119), .inr (.ref 120), .inr (.ref 121), .inl 0, .inl 0, .inl 0, .inr (.ref 122), .inr (.ref 123), .inr (.ref 124), .inl 0, .inl 0, .inl 0])) := h 66 _ rfl
theorem sh_s67 {T : List sh_Tg} (h : sh_St T) : T[67]? = some (.inl (1, 4000)) := h 67 _ rfl
theorem sh_s68 {T : List sh_Tg} (h : sh_St T) : T[68]? = some (.inl (0, 4002)) := h 68 _ rfl
theorem sh_s69 {T : List sh_Tg} (h : sh_St T) : T[69]? = some (.inl (0, 4002)) := h 69 _ rfl
theorem sh_s70 {T : List sh_Tg} (h : sh_St T) : T[70]? = some (.inl (0, 4002)) := h 70 _ rfl
theorem sh_s71 {T : List sh_Tg} (h : sh_St T) : T[71]? = some (.inl (1, 4000)) := h 71 _ rfl
theorem sh_s72 {T : List sh_Tg} (h : sh_St T) : T[72]? = some (.inl (0, 9000)) := h 72 _ rfl
theorem sh_s73 {T : List sh_Tg} (h : sh_St T) : T[73]? = some (.inl (0, 9000)) := h 73 _ rfl
theorem sh_s74 {T : List sh_Tg} (h : sh_St T) : T[74]? = some (.inl (0, 9000)) := h 74 _ rfl
theorem sh_s75 {T : List sh_Tg} (h : sh_St T) : T[75]? = some (.inl (0, 9000)) := h 75 _ rfl
theorem sh_s76 {T : List sh_Tg} (h : sh_St T) : T[76]? = some (.inl (0, 9000)) := h 76 _ rfl
theorem sh_s77 {T : List sh_Tg} (h : sh_St T) : T[77]? = some (.inl (0, 9000)) := h 77 _ rfl
theorem sh_s78 {T : List sh_Tg} (h : sh_St T) : T[78]? = some (.inl (0, 9000)) := h 78 _ rfl
theorem sh_s79 {T : List sh_Tg} (h : sh_St T) : T[79]? = some (.inl (0, 600)) := h 79 _ rfl
theorem sh_s80 {T : List sh_Tg} (h : sh_St T) : T[80]? = some (.inl (0, 600)) := h 80 _ rfl
theorem sh_s81 {T : List sh_Tg} (h : sh_St T) : T[81]? = some (.inl (0, 4800)) := h 81 _ rfl
theorem sh_s82 {T : List sh_Tg} (h : sh_St T) : T[82]? = some (.inl (0, 4800)) := h 82 _ rfl
theorem sh_s83 {T : List sh_Tg} (h : sh_St T) : T[83]? = some (.inl (0, 4800)) := h 83 _ rfl
theorem sh_s84 {T : List sh_Tg} (h : sh_St T) : T[84]? = some (.inl (0, 600)) := h 84 _ rfl
theorem sh_s85 {T : List sh_Tg} (h : sh_St T) : T[85]? = some (.inl (0, 600)) := h 85 _ rfl
theorem sh_s86 {T : List sh_Tg} (h : sh_St T) : T[86]? = some (.inl (0, 600)) := h 86 _ rfl
theorem sh_s87 {T : List sh_Tg} (h : sh_St T) : T[87]? = some (.inl (0, 600)) := h 87 _ rfl
theorem sh_s88 {T : List sh_Tg} (h : sh_St T) : T[88]? = some (.inl (0, 1400)) := h 88 _ rfl
theorem sh_s89 {T : List sh_Tg} (h : sh_St T) : T[89]? = some (.inl (0, 1400)) := h 89 _ rfl
theorem sh_s90 {T : List sh_Tg} (h : sh_St T) : T[90]? = some (.inl (0, 1400)) := h 90 _ rfl
theorem sh_s91 {T : List sh_Tg} (h : sh_St T) : T[91]? = some (.inl (0, 1400)) := h 91 _ rfl
theorem sh_s92 {T : List sh_Tg} (h : sh_St T) : T[92]? = some (.inl (2, 80000)) := h 92 _ rfl
theorem sh_s93 {T : List sh_Tg} (h : sh_St T) : T[93]? = some (.inl (0, 3000)) := h 93 _ rfl
theorem sh_s94 {T : List sh_Tg} (h : sh_St T) : T[94]? = some (.inl (0, 3000)) := h 94 _ rfl
theorem sh_s95 {T : List sh_Tg} (h : sh_St T) : T[95]? = some (.inl (0, 3000)) := h 95 _ rfl
theorem sh_s96 {T : List sh_Tg} (h : sh_St T) : T[96]? = some (.inl (0, 3000)) := h 96 _ rfl
theorem sh_s97 {T : List sh_Tg} (h : sh_St T) : T[97]? = some (.inl (0, 3000)) := h 97 _ rfl
theorem sh_s98 {T : List sh_Tg} (h : sh_St T) : T[98]? = some (.inl (2, 3000)) := h 98 _ rfl
theorem sh_s99 {T : List sh_Tg} (h : sh_St T) : T[99]? = some (.inl (0, 3)) := h 99 _ rfl
theorem sh_s100 {T : List sh_Tg} (h : sh_St T) : T[100]? = some (.inl (0, 768)) := h 100 _ rfl
theorem sh_s101 {T : List sh_Tg} (h : sh_St T) : T[101]? = some (.inl (0, 768)) := h 101 _ rfl
theorem sh_s102 {T : List sh_Tg} (h : sh_St T) : T[102]? = some (.inl (0, 3)) := h 102 _ rfl
theorem sh_s103 {T : List sh_Tg} (h : sh_St T) : T[103]? = some (.inl (2, 512)) := h 103 _ rfl
theorem sh_s104 {T : List sh_Tg} (h : sh_St T) : T[104]? = some (.inl (2, 256)) := h 104 _ rfl
theorem sh_s105 {T : List sh_Tg} (h : sh_St T) : T[105]? = some (.inl (0, 9000)) := h 105 _ rfl
theorem sh_s106 {T : List sh_Tg} (h : sh_St T) : T[106]? = some (.inl (0, 9000)) := h 106 _ rfl
theorem sh_s107 {T : List sh_Tg} (h : sh_St T) : T[107]? = some (.inl (0, 9000)) := h 107 _ rfl
theorem sh_s108 {T : List sh_Tg} (h : sh_St T) : T[108]? = some (.inl (0, 9000)) := h 108 _ rfl
theorem sh_s109 {T : List sh_Tg} (h : sh_St T) : T[109]? = some (.inl (0, 9000)) := h 109 _ rfl
theorem sh_s110 {T : List sh_Tg} (h : sh_St T) : T[110]? = some (.inl (0, 9000)) := h 110 _ rfl
theorem sh_s111 {T : List sh_Tg} (h : sh_St T) : T[111]? = some (.inl (2, 9000)) := h 111 _ rfl
theorem sh_s112 {T : List sh_Tg} (h : sh_St T) : T[112]? = some (.inl (0, 2000)) := h 112 _ rfl
theorem sh_s113 {T : List sh_Tg} (h : sh_St T) : T[113]? = some (.inl (0, 2000)) := h 113 _ rfl
theorem sh_s114 {T : List sh_Tg} (h : sh_St T) : T[114]? = some (.inl (0, 2000)) := h 114 _ rfl
theorem sh_s115 {T : List sh_Tg} (h : sh_St T) : T[115]? = some (.inl (2, 2000)) := h 115 _ rfl
theorem sh_s116 {T : List sh_Tg} (h : sh_St T) : T[116]? = some (.inl (0, 2000)) := h 116 _ rfl
theorem sh_s117 {T : List sh_Tg} (h : sh_St T) : T[117]? = some (.inl (0, 2000)) := h 117 _ rfl
theorem sh_s118 {T : List sh_Tg} (h : sh_St T) : T[118]? = some (.inl (0, 2000)) := h 118 _ rfl
theorem sh_s119 {T : List sh_Tg} (h : sh_St T) : T[119]? = some (.inl (0, 2000)) := h 119 _ rfl
theorem sh_s120 {T : List sh_Tg} (h : sh_St T) : T[120]? = some (.inl (0, 2000)) := h 120 _ rfl
theorem sh_s121 {T : List sh_Tg} (h : sh_St T) : T[121]? = some (.inl (0, 3)) := h 121 _ rfl
theorem sh_s122 {T : List sh_Tg} (h : sh_St T) : T[122]? = some (.inl (3, 4000)) := h 122 _ rfl
theorem sh_s123 {T : List sh_Tg} (h : sh_St T) : T[123]? = some (.inl (3, 4000)) := h 123 _ rfl
theorem sh_s124 {T : List sh_Tg} (h : sh_St T) : T[124]? = some (.inl (2, 1)) := h 124 _ rfl
