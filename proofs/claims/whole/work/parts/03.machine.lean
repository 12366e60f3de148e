/-! THE ABSTRACT MACHINE: a small machine over numbered cells, and that the JVM does what it does.
   A reference '.ref 0' is the law's script, '.ref (k + 1)' the cell with the number k of the heap h: it stands at the address base + k. -/
abbrev sh_E : Type := (Nat × vp_A) ⊕ (Nat × List Value)
abbrev sh_H : Type := List sh_E
abbrev sh_Ls : Type := List (Nat × Value)
abbrev sh_N : Type := Nat × sh_Ls × List Value × sh_H × Nat × Nat
/-- a method: its name, code, locals, answer's type, owner (name, number), how many parameters, handlers (from, to, at, class in the pool) -/
abbrev sh_M : Type := MethodName × ByteArray × Nat × Option FieldType × (String × Nat) × Nat × List (Nat × Nat × Nat × Nat)
/-- the tables: classes; words; methods; by the owner's number and the number in its pool: fields (class, slot, type, final), classes (number, slots, their first contents), constants, calls (kind, method), handlers' classes, exceptions to be thrown (class, constructor's place in the pool), texts; the methods' instructions -/
abbrev sh_G : Type := List vw_C × List Cond × (Nat → sh_M) × (Nat → Nat → Option (Nat × Nat × FieldType × Bool)) × (Nat → Nat → Option (Nat × Nat × List Value)) × (Nat → Nat → Option Value) × (Nat → Nat → Option (Nat × Nat)) × (Nat → Nat → Option Nat) × (Nat → Nat → Option (Nat × Nat)) × (Nat → Nat → Option Nat) × (Nat → Nat → Option (Instr × Nat)) × (Nat → Nat → Option Nat) × (Nat → Nat → Option Value) × (Nat → List Int32)
/-- the script: how many ints, and which ('none': a run that doesn't read it); what Preconditions' formatter is: null or a reference -/
abbrev sh_S : Type := Option (Nat × (Nat → Int32)) × Value
abbrev sh_sc0 : sh_S := (none, .int 0)
abbrev sh_cl (G : sh_G) : List vw_C := G.1
abbrev sh_T (G : sh_G) : List Cond := G.2.1
abbrev sh_M0 (G : sh_G) (k : Nat) : sh_M := G.2.2.1 k
abbrev sh_Y (G : sh_G) (k : Nat) : MethodName := (G.2.2.1 k).1
abbrev sh_B (G : sh_G) (k : Nat) : ByteArray := (G.2.2.1 k).2.1
abbrev sh_L (G : sh_G) (k : Nat) : Nat := (G.2.2.1 k).2.2.1
abbrev sh_R (G : sh_G) (k : Nat) : Option FieldType := (G.2.2.1 k).2.2.2.1
abbrev sh_O (G : sh_G) (k : Nat) : String := (G.2.2.1 k).2.2.2.2.1.1
abbrev sh_On (G : sh_G) (k : Nat) : Nat := (G.2.2.1 k).2.2.2.2.1.2
abbrev sh_P (G : sh_G) (k : Nat) : Nat := (G.2.2.1 k).2.2.2.2.2.1
abbrev sh_Hd (G : sh_G) (k : Nat) : List (Nat × Nat × Nat × Nat) := (G.2.2.1 k).2.2.2.2.2.2
abbrev sh_gF (G : sh_G) : Nat → Nat → Option (Nat × Nat × FieldType × Bool) := G.2.2.2.1
abbrev sh_gN (G : sh_G) : Nat → Nat → Option (Nat × Nat × List Value) := G.2.2.2.2.1
abbrev sh_gK (G : sh_G) : Nat → Nat → Option Value := G.2.2.2.2.2.1
abbrev sh_gC (G : sh_G) : Nat → Nat → Option (Nat × Nat) := G.2.2.2.2.2.2.1
abbrev sh_gH (G : sh_G) : Nat → Nat → Option Nat := G.2.2.2.2.2.2.2.1
abbrev sh_gX (G : sh_G) : Nat → Nat → Option (Nat × Nat) := G.2.2.2.2.2.2.2.2.1
abbrev sh_gS (G : sh_G) : Nat → Nat → Option Nat := G.2.2.2.2.2.2.2.2.2.1
abbrev sh_gI (G : sh_G) : Nat → Nat → Option (Instr × Nat) := G.2.2.2.2.2.2.2.2.2.2.1
/-- texts: links to String's fields (0 value, 1 coder), two statics, the bytes of each text -/
abbrev sh_gT (G : sh_G) : Nat → Nat → Option Nat := G.2.2.2.2.2.2.2.2.2.2.2.1
abbrev sh_gZ (G : sh_G) : Nat → Nat → Option Value := G.2.2.2.2.2.2.2.2.2.2.2.2.1
abbrev sh_gB (G : sh_G) : Nat → List Int32 := G.2.2.2.2.2.2.2.2.2.2.2.2.2
def sh_v (ad : Nat → Nat) : Value → Value
  | .ref k => .ref (ad k)
  | v => v
def sh_e (dT : Nat → ClassId) (ad : Nat → Nat) : sh_E → va_E
  | .inl a => .inl (dT a.1, a.2)
  | .inr o => .inr (o.1, o.2.map (sh_v ad))
def sh_ws (dT : Nat → ClassId) (ad : Nat → Nat) (h : sh_H) : va_W := h.mapIdx (fun k e => (ad (k + 1), sh_e dT ad e))
def sh_lv (ad : Nat → Nat) (lv : sh_Ls) : sh_Ls := lv.map (fun q => (q.1, sh_v ad q.2))
theorem sh_v_cat (ad : Nat → Nat) (v : Value) : (sh_v ad v).category = v.category := by cases v <;> rfl
theorem sh_v_int (ad : Nat → Nat) (x : Int32) : sh_v ad (.int x) = .int x := rfl
theorem sh_v_long (ad : Nat → Nat) (x : Int64) : sh_v ad (.long x) = .long x := rfl
theorem sh_v_ref (ad : Nat → Nat) (k : Nat) : sh_v ad (.ref k) = .ref (ad k) := rfl
theorem sh_v_null (ad : Nat → Nat) : sh_v ad .null = .null := rfl
theorem sh_ws_at {dT : Nat → ClassId} {ad : Nat → Nat} {h : sh_H} {k : Nat} {e : sh_E} (hk : h[k]? = some e) : (sh_ws dT ad h)[k]? = some (ad (k + 1), sh_e dT ad e) := by
  unfold sh_ws
  rw [List.getElem?_mapIdx, hk]
  rfl
theorem sh_ws_inv {dT : Nat → ClassId} {ad : Nat → Nat} {h : sh_H} {k : Nat} {q : Nat × va_E} (hk : (sh_ws dT ad h)[k]? = some q) : ∃ e, h[k]? = some e ∧ q = (ad (k + 1), sh_e dT ad e) := by
  unfold sh_ws at hk
  rw [List.getElem?_mapIdx] at hk
  cases he : h[k]? with
  | none => rw [he] at hk; cases hk
  | some e => rw [he] at hk; exact ⟨e, rfl, (Option.some.inj hk).symm⟩
theorem sh_ws_set {dT : Nat → ClassId} {ad : Nat → Nat} {h : sh_H} {k : Nat} {e : sh_E} : (sh_ws dT ad h).set k (ad (k + 1), sh_e dT ad e) = sh_ws dT ad (h.set k e) := by
  apply List.ext_getElem?
  intro i
  by_cases hik : k = i
  · subst hik
    by_cases hl : k < h.length
    · rw [List.getElem?_set_self (by unfold sh_ws; rw [List.length_mapIdx]; exact hl), sh_ws_at (e := e) (by rw [List.getElem?_set_self hl])]
    · rw [List.getElem?_eq_none (by rw [List.length_set]; unfold sh_ws; rw [List.length_mapIdx]; omega), List.getElem?_eq_none (by unfold sh_ws; rw [List.length_mapIdx, List.length_set]; omega)]
  · rw [List.getElem?_set_ne hik]
    unfold sh_ws
    rw [List.getElem?_mapIdx, List.getElem?_mapIdx, List.getElem?_set_ne hik]
theorem sh_ws_push {dT : Nat → ClassId} {ad : Nat → Nat} {h : sh_H} {e : sh_E} : sh_ws dT ad (h ++ [e]) = sh_ws dT ad h ++ [(ad (h.length + 1), sh_e dT ad e)] := by
  unfold sh_ws
  rw [List.mapIdx_append]
  simp
theorem sh_lv_mem {ad : Nat → Nat} {lv : sh_Ls} {i : Nat} {v : Value} (h : lv.lookup i = some v) : (i, sh_v ad v) ∈ sh_lv ad lv := by
  induction lv with
  | nil => cases h
  | cons q r ih =>
    obtain ⟨j, w⟩ := q
    rw [List.lookup_cons] at h
    by_cases hj : (i == j) = true
    · rw [hj] at h
      have hij : i = j := by simpa using hj
      subst hij
      cases h
      exact List.mem_cons_self
    · have hj' : (i == j) = false := by simpa using hj
      rw [hj'] at h
      exact List.mem_cons_of_mem _ (ih h)
def sh_st1 (i : Nat) (v : Value) (lv : sh_Ls) : sh_Ls := (i, v) :: lv.filter (fun q => !(q.1 == i) && !(q.1 + 1 == i && q.2.category == 2))
def sh_st2 (i : Nat) (v : Value) (lv : sh_Ls) : sh_Ls := (i, v) :: lv.filter (fun q => !(q.1 == i) && (!(q.1 == i + 1) && !(q.1 + 1 == i && q.2.category == 2)))
theorem sh_lv_st1 (ad : Nat → Nat) (i : Nat) (v : Value) (lv : sh_Ls) : (i, sh_v ad v) :: (sh_lv ad lv).filter (fun q => !(q.1 == i) && !(q.1 + 1 == i && q.2.category == 2)) = sh_lv ad (sh_st1 i v lv) := by
  unfold sh_st1 sh_lv
  rw [List.map_cons, List.filter_map]
  congr 2
  apply List.filter_congr
  intro q _
  simp only [Function.comp, sh_v_cat]
theorem sh_lv_st2 (ad : Nat → Nat) (i : Nat) (v : Value) (lv : sh_Ls) : (i, sh_v ad v) :: (sh_lv ad lv).filter (fun q => !(q.1 == i) && (!(q.1 == i + 1) && !(q.1 + 1 == i && q.2.category == 2))) = sh_lv ad (sh_st2 i v lv) := by
  unfold sh_st2 sh_lv
  rw [List.map_cons, List.filter_map]
  congr 2
  apply List.filter_congr
  intro q _
  simp only [Function.comp, sh_v_cat]
/-- the world: the heap behind base is h, what was there before base is as it was -/
def sh_W (G : sh_G) (D : va_G) (dT : Nat → ClassId) (ad : Nat → Nat) (base : Nat) (H0 : Heap) (h : sh_H) (H : Heap) : Prop :=
  H.size = base + h.length ∧ h.length ≤ 1000000 ∧ (∀ q, q < base → H[q]? = H0[q]?) ∧ va_P D (sh_cl G) (sh_ws dT ad h) H
theorem sh_D {dT : Nat → ClassId} {ad : Nat → Nat} {base : Nat} {h : sh_H} (had : ∀ k, k < 1000000 → ad (k + 1) = base + k) (hl : h.length ≤ 1000000) : va_D (fun q => base ≤ q) (sh_ws dT ad h) := by
  refine ⟨fun i j p q hp hq hpq => ?_, fun k q hq => ?_⟩
  · obtain ⟨e1, h1, rfl⟩ := sh_ws_inv hp
    obtain ⟨e2, h2, rfl⟩ := sh_ws_inv hq
    have l1 := (List.getElem?_eq_some_iff.mp h1).1
    have l2 := (List.getElem?_eq_some_iff.mp h2).1
    have e3 : ad (i + 1) = ad (j + 1) := hpq
    rw [had i (by omega), had j (by omega)] at e3
    omega
  · obtain ⟨e1, h1, rfl⟩ := sh_ws_inv hq
    have l1 := (List.getElem?_eq_some_iff.mp h1).1
    show base ≤ ad (k + 1)
    rw [had k (by omega)]
    omega
/-- the types of arrays by number: 0 int, 1 byte, 2 long, 3 boolean -/
def sh_ty : Nat → FieldType
  | 0 => .int
  | 1 => .byte
  | 2 => .long
  | _ => .boolean
def sh_tys (dT : Nat → ClassId) : List (ClassId × FieldType) := [(dT 0, .int), (dT 1, .byte), (dT 2, .long), (dT 3, .boolean)]
def sh_tyOf : ArrayType → Option Nat
  | .int => some 0
  | .byte => some 1
  | .long => some 2
  | .boolean => some 3
  | _ => none
def sh_new0 : Nat → Nat → vp_A
  | 2, n => (n, .inr (.inl (fun _ => 0)))
  | _, n => (n, .inl (fun _ => 0))
def sh_len : Instr → Nat → Nat
  | .bipush _, _ => 2
  | .sipush _, _ => 3
  | .iload _, _ => 2
  | .lload _, _ => 2
  | .aload _, _ => 2
  | .istore _, _ => 2
  | .lstore _, _ => 2
  | .astore _, _ => 2
  | .iinc _ _, _ => 3
  | .ldc _, _ => 2
  | .ldc2_w _, _ => 3
  | .ldc_w _, _ => 3
  | .ifCond _ _, _ => 3
  | .if_icmp _ _, _ => 3
  | .ifnull _, _ => 3
  | .ifnonnull _, _ => 3
  | .goto _, _ => 3
  | .getfield _, _ => 3
  | .putfield _, _ => 3
  | .getstatic _, _ => 3
  | .new _, _ => 3
  | .newarray _, _ => 2
  | .lookupswitch _ _, n => n
  | .tableswitch _ _ _ _, n => n
  | .invokevirtual _, _ => 3
  | .invokespecial _, _ => 3
  | .invokestatic _, _ => 3
  | _, _ => 1
def sh_go (pc : Nat) (off : Int) : Option Nat := if 0 ≤ (pc : Int) + off then some ((pc : Int) + off).toNat else none
theorem sh_go_ok {pc : Nat} {off : Int} {t : Nat} (h : sh_go pc off = some t) : (pc : Int) + off = (t : Int) := by
  unfold sh_go at h
  split at h
  · rename_i h0
    cases h
    exact (Int.toNat_of_nonneg h0).symm
  · cases h
def sh_br (b : Bool) (pc : Nat) (off : Int) (lv : sh_Ls) (st : List Value) (h : sh_H) : Option sh_N := match sh_go pc off with
  | none => none
  | some t => some (if b then t else pc + 3, lv, st, h, 0, 0)
def sh_i2 (f : Int32 → Int32 → Int32) (pc : Nat) (lv : sh_Ls) (st : List Value) (h : sh_H) : Option sh_N := match st with
  | .int y :: .int x :: r => some (pc + 1, lv, .int (f x y) :: r, h, 0, 0)
  | _ => none
def sh_l2 (f : Int64 → Int64 → Int64) (pc : Nat) (lv : sh_Ls) (st : List Value) (h : sh_H) : Option sh_N := match st with
  | .long y :: .long x :: r => some (pc + 1, lv, .long (f x y) :: r, h, 0, 0)
  | _ => none
def sh_lsh (f : Int64 → Int32 → Int64) (pc : Nat) (lv : sh_Ls) (st : List Value) (h : sh_H) : Option sh_N := match st with
  | .int y :: .long x :: r => some (pc + 1, lv, .long (f x y) :: r, h, 0, 0)
  | _ => none
def sh_i1 (f : Int32 → Int32) (pc : Nat) (lv : sh_Ls) (st : List Value) (h : sh_H) : Option sh_N := match st with
  | .int x :: r => some (pc + 1, lv, .int (f x) :: r, h, 0, 0)
  | _ => none
def sh_ld (want : Value → Bool) (i n pc : Nat) (lv : sh_Ls) (st : List Value) (h : sh_H) : Option sh_N := match lv.lookup i with
  | some v => if want v then some (pc + n, lv, v :: st, h, 0, 0) else none
  | none => none
def sh_isI : Value → Bool
  | .int _ => true
  | _ => false
def sh_isL : Value → Bool
  | .long _ => true
  | _ => false
def sh_isR : Value → Bool
  | .ref _ => true
  | .null => true
  | _ => false
def sh_sto1 (want : Value → Bool) (i n nL pc : Nat) (lv : sh_Ls) (st : List Value) (h : sh_H) : Option sh_N := match st with
  | v :: r => if want v = true ∧ i < nL then some (pc + n, sh_st1 i v lv, r, h, 0, 0) else none
  | _ => none
def sh_sto2 (want : Value → Bool) (i n nL pc : Nat) (lv : sh_Ls) (st : List Value) (h : sh_H) : Option sh_N := match st with
  | v :: r => if want v = true ∧ i + 1 < nL then some (pc + n, sh_st2 i v lv, r, h, 0, 0) else none
  | _ => none
/-- an element of an array of ints (or bytes, chars, booleans) of the kinds ts -/
def sh_ald (ts : List Nat) (pc : Nat) (lv : sh_Ls) (st : List Value) (h : sh_H) : Option sh_N := match st with
  | .int i :: .ref (a + 1) :: r => match h[a]? with
    | some (.inl (t, n, .inl f)) => if decide (t ∈ ts) && !(decide (i < 0) || decide (n ≤ i.toNatClampNeg)) then some (pc + 1, lv, .int (f i.toNatClampNeg) :: r, h, 0, 0) else none
    | _ => none
  | _ => none
def sh_lald (pc : Nat) (lv : sh_Ls) (st : List Value) (h : sh_H) : Option sh_N := match st with
  | .int i :: .ref (a + 1) :: r => match h[a]? with
    | some (.inl (t, n, .inr (.inl f))) => if decide (t = 2) && !(decide (i < 0) || decide (n ≤ i.toNatClampNeg)) then some (pc + 1, lv, .long (f i.toNatClampNeg) :: r, h, 0, 0) else none
    | _ => none
  | _ => none
def sh_ast (t0 : Nat) (nar : Int32 → Int32) (pc : Nat) (lv : sh_Ls) (st : List Value) (h : sh_H) : Option sh_N := match st with
  | .int x :: .int i :: .ref (a + 1) :: r => match h[a]? with
    | some (.inl (t, n, .inl f)) => if decide (t = t0) && !(decide (i < 0) || decide (n ≤ i.toNatClampNeg)) then some (pc + 1, lv, r, h.set a (.inl (t, n, .inl (upd f i.toNatClampNeg (nar x)))), 0, 0) else none
    | _ => none
  | _ => none
def sh_last (pc : Nat) (lv : sh_Ls) (st : List Value) (h : sh_H) : Option sh_N := match st with
  | .long x :: .int i :: .ref (a + 1) :: r => match h[a]? with
    | some (.inl (t, n, .inr (.inl f))) => if decide (t = 2) && !(decide (i < 0) || decide (n ≤ i.toNatClampNeg)) then some (pc + 1, lv, r, h.set a (.inl (t, n, .inr (.inl (vp_updL f i.toNatClampNeg x)))), 0, 0) else none
    | _ => none
  | _ => none
def sh_bast (pc : Nat) (lv : sh_Ls) (st : List Value) (h : sh_H) : Option sh_N := match sh_ast 1 (vp_nar .byte) pc lv st h with
  | some r => some r
  | none => sh_ast 3 (vp_nar .boolean) pc lv st h
def sh_fit : FieldType → Value → Bool
  | .int, .int _ => true
  | .long, .long _ => true
  | .object _, .ref _ => true
  | .object _, .null => true
  | .array _, .ref _ => true
  | .array _, .null => true
  | .boolean, .int x => x == 0 || x == 1
  | _, _ => false
theorem sh_fit_ok {ty : FieldType} {v : Value} (ad : Nat → Nat) (h : sh_fit ty v = true) : narrow ty (sh_v ad v) = sh_v ad v ∧ fits ty (sh_v ad v) = true := by
  cases ty <;> cases v <;> first | exact Bool.noConfusion (show false = true from h) | exact ⟨rfl, rfl⟩ | skip
  rename_i x
  have hx : x = 0 ∨ x = 1 := by simpa [sh_fit] using h
  show narrow .boolean (.int x) = .int x ∧ fits .boolean (.int x) = true
  rcases hx with rfl | rfl <;> exact ⟨by decide, by decide⟩
def sh_get (G : sh_G) (k idx pc : Nat) (lv : sh_Ls) (st : List Value) (h : sh_H) : Option sh_N := match st with
  | .ref (a + 1) :: r => match sh_gF G (sh_On G k) idx, h[a]? with
    | some (ci, f, _, _), some (.inr (cj, fs)) => if ci = cj then match fs[f]? with
      | some v => some (pc + 3, lv, v :: r, h, 0, 0)
      | none => none else none
    | _, _ => none
  | _ => none
def sh_put (G : sh_G) (k idx pc : Nat) (lv : sh_Ls) (st : List Value) (h : sh_H) : Option sh_N := match st with
  | v :: .ref (a + 1) :: r => match sh_gF G (sh_On G k) idx, h[a]? with
    | some (ci, f, ty, fin), some (.inr (cj, fs)) => if ci = cj ∧ f < fs.length ∧ sh_fit ty v = true ∧ (fin = true → (sh_Y G k).name = "<init>" ∧ ((sh_cl G)[ci]?).map (fun q => q.1) = some (sh_O G k)) then some (pc + 3, lv, r, h.set a (.inr (cj, fs.set f v)), 0, 0) else none
    | _, _ => none
  | _ => none
/-- a text, the bytes of a text: '.ref (1000001 + j)', '.ref (2000001 + j)' -/
def sh_isT (G : sh_G) (b q : Nat) : Bool := decide (b ≤ q) && decide (sh_gB G (q - b) ≠ [])
def sh_getK (G : sh_G) (k idx pc : Nat) (lv : sh_Ls) (st : List Value) (h : sh_H) : Option sh_N := match st with
  | .ref q :: r => if sh_isT G 1000001 q = true then match sh_gT G (sh_On G k) idx with
    | some 0 => some (pc + 3, lv, .ref (2000001 + (q - 1000001)) :: r, h, 0, 0)
    | some (_ + 1) => some (pc + 3, lv, .int 0 :: r, h, 0, 0)
    | none => none else none
  | _ => none
def sh_alK (G : sh_G) (pc : Nat) (lv : sh_Ls) (st : List Value) (h : sh_H) : Option sh_N := match st with
  | .ref q :: r => if sh_isT G 2000001 q = true then some (pc + 1, lv, .int (Int32.ofNat (sh_gB G (q - 2000001)).length) :: r, h, 0, 0) else none
  | _ => none
def sh_baK (G : sh_G) (pc : Nat) (lv : sh_Ls) (st : List Value) (h : sh_H) : Option sh_N := match st with
  | .int i :: .ref q :: r => if sh_isT G 2000001 q = true ∧ ¬ (i < 0 ∨ (sh_gB G (q - 2000001)).length ≤ i.toNatClampNeg) then some (pc + 1, lv, .int ((sh_gB G (q - 2000001)).getD i.toNatClampNeg 0) :: r, h, 0, 0) else none
  | _ => none
def sh_al0 (sc : sh_S) (pc : Nat) (lv : sh_Ls) (st : List Value) (h : sh_H) : Option sh_N := match st with
  | .ref 0 :: r => match sc.1 with
    | some (L, _) => some (pc + 1, lv, .int (Int32.ofNat L) :: r, h, 0, 0)
    | none => none
  | .ref (a + 1) :: r => match h[a]? with
    | some (.inl (t, n, _)) => if t < 4 then some (pc + 1, lv, .int (Int32.ofNat n) :: r, h, 0, 0) else none
    | _ => none
  | _ => none
/-- System.arraycopy between two arrays of ints (bytes, booleans) -/
def sh_cpK (pc : Nat) (lv : sh_Ls) (st : List Value) (h : sh_H) : Option sh_N := match st with
  | .int n :: .int dp :: .ref (b + 1) :: .int sp :: .ref (a + 1) :: r => match h[a]?, h[b]? with
    | some (.inl (t, n0, .inl f)), some (.inl (t2, n1, .inl g)) => if t = t2 ∧ (t = 0 ∨ t = 1 ∨ t = 3) ∧ ¬ sp < 0 ∧ ¬ dp < 0 ∧ ¬ n < 0 ∧ sp.toNatClampNeg + n.toNatClampNeg ≤ n0 ∧ dp.toNatClampNeg + n.toNatClampNeg ≤ n1 ∧ (List.range n.toNatClampNeg).all (fun i => fits (sh_ty t) (.int (f (sp.toNatClampNeg + i)))) = true ∧ (r.map fun v => v.category).sum ≤ 100 then some (pc + 3, lv, r, h.set b (.inl (t2, n1, .inl (va_cpy f g sp.toNatClampNeg dp.toNatClampNeg n.toNatClampNeg))), 0, 0) else none
    | _, _ => none
  | _ => none
def sh_alt (x y : Option sh_N) : Option sh_N := match x with
  | some r => some r
  | none => y
def sh_wgt (vs : List Value) : Nat := (vs.map fun v => v.category).sum
def sh_one (G : sh_G) (sc : sh_S) (k : Nat) (i : Instr) (pc : Nat) (lv : sh_Ls) (st : List Value) (h : sh_H) : Option sh_N := match i with
  | .iconst n => some (pc + 1, lv, .int (Int32.ofInt n) :: st, h, 0, 0)
  | .bipush n => some (pc + 2, lv, .int (Int8.ofInt n).toInt32 :: st, h, 0, 0)
  | .sipush n => some (pc + 3, lv, .int (Int16.ofInt n).toInt32 :: st, h, 0, 0)
  | .lconst n => some (pc + 1, lv, .long (Int64.ofNat (n : Nat)) :: st, h, 0, 0)
  | .aconst_null => some (pc + 1, lv, .null :: st, h, 0, 0)
  | .iload_n n => sh_ld sh_isI n 1 pc lv st h
  | .iload n => sh_ld sh_isI n 2 pc lv st h
  | .lload_n n => sh_ld sh_isL n 1 pc lv st h
  | .lload n => sh_ld sh_isL n 2 pc lv st h
  | .aload_n n => sh_ld sh_isR n 1 pc lv st h
  | .aload n => sh_ld sh_isR n 2 pc lv st h
  | .istore_n n => sh_sto1 sh_isI n 1 (sh_L G k) pc lv st h
  | .istore n => sh_sto1 sh_isI n 2 (sh_L G k) pc lv st h
  | .lstore_n n => sh_sto2 sh_isL n 1 (sh_L G k) pc lv st h
  | .lstore n => sh_sto2 sh_isL n 2 (sh_L G k) pc lv st h
  | .astore_n n => sh_sto1 sh_isR n 1 (sh_L G k) pc lv st h
  | .astore n => sh_sto1 sh_isR n 2 (sh_L G k) pc lv st h
  | .iinc j n => match lv.lookup j with
    | some (.int x) => if j < sh_L G k then some (pc + 3, sh_st1 j (.int (x + Int32.ofInt n)) lv, st, h, 0, 0) else none
    | _ => none
  | .iadd => sh_i2 (fun x y => x + y) pc lv st h
  | .isub => sh_i2 (fun x y => x - y) pc lv st h
  | .imul => sh_i2 (fun x y => x * y) pc lv st h
  | .iand => sh_i2 (fun x y => x &&& y) pc lv st h
  | .ior => sh_i2 (fun x y => x ||| y) pc lv st h
  | .ixor => sh_i2 (fun x y => x ^^^ y) pc lv st h
  | .ishl => sh_i2 (fun x y => x <<< (y &&& 31)) pc lv st h
  | .ishr => sh_i2 (fun x y => x >>> (y &&& 31)) pc lv st h
  | .iushr => sh_i2 (fun x y => (x.toUInt32 >>> (y.toUInt32 &&& Int32.toUInt32 31)).toInt32) pc lv st h
  | .idiv => match st with
    | .int y :: .int x :: r => if y = 0 then none else some (pc + 1, lv, .int (x / y) :: r, h, 0, 0)
    | _ => none
  | .irem => match st with
    | .int y :: .int x :: r => if y = 0 then none else some (pc + 1, lv, .int (x - x / y * y) :: r, h, 0, 0)
    | _ => none
  | .ldiv => match st with
    | .long y :: .long x :: r => if y = 0 then none else some (pc + 1, lv, .long (x / y) :: r, h, 0, 0)
    | _ => none
  | .lrem => match st with
    | .long y :: .long x :: r => if y = 0 then none else some (pc + 1, lv, .long (x - x / y * y) :: r, h, 0, 0)
    | _ => none
  | .ineg => sh_i1 (fun x => -x) pc lv st h
  | .i2b => sh_i1 (fun x => x.toInt8.toInt32) pc lv st h
  | .i2s => sh_i1 (fun x => x.toInt16.toInt32) pc lv st h
  | .i2c => sh_i1 (fun x => (x.toUInt32 % 65536).toInt32) pc lv st h
  | .ladd => sh_l2 (fun x y => x + y) pc lv st h
  | .lsub => sh_l2 (fun x y => x - y) pc lv st h
  | .lmul => sh_l2 (fun x y => x * y) pc lv st h
  | .land => sh_l2 (fun x y => x &&& y) pc lv st h
  | .lor => sh_l2 (fun x y => x ||| y) pc lv st h
  | .lxor => sh_l2 (fun x y => x ^^^ y) pc lv st h
  | .lshl => sh_lsh (fun x y => x <<< (y.toInt64 &&& 63)) pc lv st h
  | .lshr => sh_lsh (fun x y => x >>> (y.toInt64 &&& 63)) pc lv st h
  | .lushr => sh_lsh (fun x y => (x.toUInt64 >>> (y.toInt64.toUInt64 &&& Int64.toUInt64 63)).toInt64) pc lv st h
  | .lneg => match st with
    | .long x :: r => some (pc + 1, lv, .long (-x) :: r, h, 0, 0)
    | _ => none
  | .i2l => match st with
    | .int x :: r => some (pc + 1, lv, .long x.toInt64 :: r, h, 0, 0)
    | _ => none
  | .l2i => match st with
    | .long x :: r => some (pc + 1, lv, .int x.toInt32 :: r, h, 0, 0)
    | _ => none
  | .lcmp => match st with
    | .long y :: .long x :: r => some (pc + 1, lv, .int (lg_cmp x y) :: r, h, 0, 0)
    | _ => none
  | .dup => match st with
    | v :: r => if v.category = 1 then some (pc + 1, lv, v :: v :: r, h, 0, 0) else none
    | _ => none
  | .pop => match st with
    | v :: r => if v.category = 1 then some (pc + 1, lv, r, h, 0, 0) else none
    | _ => none
  | .dup_x1 => match st with
    | v :: w :: r => if v.category = 1 ∧ w.category = 1 then some (pc + 1, lv, v :: w :: v :: r, h, 0, 0) else none
    | _ => none
  | .dup_x2 => match st with
    | v :: w :: z :: r => if v.category = 1 ∧ w.category = 1 ∧ z.category = 1 then some (pc + 1, lv, v :: w :: z :: v :: r, h, 0, 0) else none
    | _ => none
  | .dup2 => match st with
    | v :: w :: r => if v.category = 1 ∧ w.category = 1 then some (pc + 1, lv, v :: w :: v :: w :: r, h, 0, 0) else none
    | _ => none
  | .ifCond c off => match st with
    | .int x :: r => sh_br (Op.ifCond.holds c x) pc off lv r h
    | _ => none
  | .if_icmp c off => match st with
    | .int y :: .int x :: r => sh_br (Op.if_icmp.holds c x y) pc off lv r h
    | _ => none
  | .ifnull off => match st with
    | .ref _ :: r => some (pc + 3, lv, r, h, 0, 0)
    | .null :: r => sh_br true pc off lv r h
    | _ => none
  | .ifnonnull off => match st with
    | .ref _ :: r => sh_br true pc off lv r h
    | .null :: r => some (pc + 3, lv, r, h, 0, 0)
    | _ => none
  | .goto off => sh_br true pc off lv st h
  | .tableswitch d lo hi offs => match st with
    | .int x :: r => if x.toInt < lo ∨ hi < x.toInt then sh_br true pc d lv r h else match offs[(x.toInt - lo).toNat]? with
      | some o => sh_br true pc o lv r h
      | none => none
    | _ => none
  | .lookupswitch d ps => match st with
    | .int x :: r => if (ps.toList.zip (ps.toList.drop 1)).all (fun (a, next) => a.1 < next.1) = true then sh_br true pc (Op.lookupswitch.offset ps.toList d x.toInt) lv r h else none
    | _ => none
  | .getfield idx => sh_alt (sh_get G k idx pc lv st h) (sh_getK G k idx pc lv st h)
  | .putfield idx => sh_put G k idx pc lv st h
  | .iaload => match st with
    | .int i :: .ref 0 :: r => match sc.1 with
      | some (L, xs) => if !(decide (i < 0) || decide (L ≤ i.toNatClampNeg)) then some (pc + 1, lv, .int (xs i.toNatClampNeg) :: r, h, 0, 0) else none
      | none => none
    | _ => sh_ald [0] pc lv st h
  | .baload => sh_alt (sh_ald [1, 3] pc lv st h) (sh_baK G pc lv st h)
  | .laload => sh_lald pc lv st h
  | .iastore => sh_ast 0 (fun x => x) pc lv st h
  | .bastore => sh_bast pc lv st h
  | .lastore => sh_last pc lv st h
  | .arraylength => sh_alt (sh_al0 sc pc lv st h) (sh_alK G pc lv st h)
  | .getstatic idx => match sh_gZ G (sh_On G k) idx with
    | some (.ref _) => if sh_isR sc.2 = true then some (pc + 3, lv, sc.2 :: st, h, 0, 0) else none
    | some v => some (pc + 3, lv, v :: st, h, 0, 0)
    | none => none
  | .newarray at0 => match st with
    | .int n :: r => match sh_tyOf at0 with
      | some t => if ¬ n < 0 ∧ n.toNatClampNeg ≤ 1000000 ∧ h.length < 1000000 then some (pc + 2, lv, .ref (h.length + 1) :: r, h ++ [.inl (t, sh_new0 t n.toNatClampNeg)], 1, n.toNatClampNeg) else none
      | none => none
    | _ => none
  | .new idx => match sh_gN G (sh_On G k) idx with
    | some (ci, n, fs) => if h.length < 1000000 then some (pc + 3, lv, .ref (h.length + 1) :: st, h ++ [.inr (ci, fs)], 1, n) else none
    | none => none
  | .ldc idx => match sh_gK G (sh_On G k) idx with
    | some (.int x) => some (pc + 2, lv, .int x :: st, h, 0, 0)
    | _ => match sh_gS G (sh_On G k) idx with
      | some j => some (pc + 2, lv, .ref (1000001 + j) :: st, h, 0, 0)
      | none => none
  | .ldc_w idx => match sh_gK G (sh_On G k) idx with
    | some (.int x) => some (pc + 3, lv, .int x :: st, h, 0, 0)
    | _ => match sh_gS G (sh_On G k) idx with
      | some j => some (pc + 3, lv, .ref (1000001 + j) :: st, h, 0, 0)
      | none => none
  | .invokestatic idx => match sh_gC G (sh_On G k) idx with
    | some (8, _) => sh_cpK pc lv st h
    | _ => none
  | .invokespecial idx => match sh_gC G (sh_On G k) idx, st with
    | some (3, _), .ref _ :: r => if sh_wgt r ≤ 100 then some (pc + 3, lv, r, h, 0, 0) else none
    | _, _ => none
  | .ldc2_w idx => match sh_gK G (sh_On G k) idx with
    | some (.long x) => some (pc + 3, lv, .long x :: st, h, 0, 0)
    | _ => none
  | _ => none
