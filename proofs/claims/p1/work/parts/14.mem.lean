/-! MEMORY: the machine's heap as tags (what each cell is) and two functions: the ints of a cell (fields, elements), the longs of a cell -/
/-- a cell's tag: an array (its type, its length), or an object (its class, its slots: 0 an int, 1 a long, or the reference that stands there) -/
abbrev sh_Tg : Type := (Nat × Nat) ⊕ (Nat × List (Nat ⊕ Value))
def sh_sv (x : Int32) (y : Int64) : Nat ⊕ Value → Value
  | .inl 0 => .int x
  | .inl (_ + 1) => .long y
  | .inr v => v
def sh_slots (I : Nat → Int32) (J : Nat → Int64) : Nat → List (Nat ⊕ Value) → List Value
  | _, [] => []
  | f, .inl 0 :: r => .int (I f) :: sh_slots I J (f + 1) r
  | f, .inl (_ + 1) :: r => .long (J f) :: sh_slots I J (f + 1) r
  | f, .inr v :: r => v :: sh_slots I J (f + 1) r
def sh_cell (I : Nat → Nat → Int32) (J : Nat → Nat → Int64) (a : Nat) : sh_Tg → sh_E
  | .inl (2, n) => .inl (2, n, .inr (.inl (J a)))
  | .inl (t, n) => .inl (t, n, .inl (I a))
  | .inr (ci, fs) => .inr (ci, sh_slots (I a) (J a) 0 fs)
def sh_repF (I : Nat → Nat → Int32) (J : Nat → Nat → Int64) : Nat → List sh_Tg → sh_H
  | _, [] => []
  | a, t :: r => sh_cell I J a t :: sh_repF I J (a + 1) r
def sh_rep (T : List sh_Tg) (I : Nat → Nat → Int32) (J : Nat → Nat → Int64) : sh_H := sh_repF I J 0 T
def sh_u2 {α : Type} (I : Nat → Nat → α) (a i : Nat) (x : α) : Nat → Nat → α := fun b j => if b = a then (if j = i then x else I b j) else I b j
section Mem
variable {I : Nat → Nat → Int32} {J : Nat → Nat → Int64} {T : List sh_Tg}
theorem sh_repF_get (T : List sh_Tg) : ∀ (b a : Nat), (sh_repF I J b T)[a]? = (T[a]?).map (sh_cell I J (b + a)) := by
  induction T with
  | nil => intro b a; rfl
  | cons t r ih =>
    intro b a
    cases a with
    | zero => rfl
    | succ a =>
      show (sh_repF I J (b + 1) r)[a]? = (r[a]?).map _
      rw [ih, show b + 1 + a = b + (a + 1) by omega]
theorem sh_rep_get {a : Nat} {t : sh_Tg} (h : T[a]? = some t) : (sh_rep T I J)[a]? = some (sh_cell I J a t) := by
  unfold sh_rep
  rw [sh_repF_get, h, Nat.zero_add]
  rfl
theorem sh_repF_len (T : List sh_Tg) : ∀ b : Nat, (sh_repF I J b T).length = T.length := by
  induction T with
  | nil => intro b; rfl
  | cons t r ih => intro b; show (sh_repF I J (b + 1) r).length + 1 = _; rw [ih]; rfl
theorem sh_rep_len : (sh_rep T I J).length = T.length := sh_repF_len T 0
theorem sh_repF_app (T U : List sh_Tg) : ∀ b : Nat, sh_repF I J b (T ++ U) = sh_repF I J b T ++ sh_repF I J (b + T.length) U := by
  induction T with
  | nil => intro b; rfl
  | cons t r ih =>
    intro b
    show sh_cell I J b t :: sh_repF I J (b + 1) (r ++ U) = _
    rw [ih, show b + 1 + r.length = b + (t :: r).length by simp; omega]
    rfl
theorem sh_rep_push (t : sh_Tg) : sh_rep T I J ++ [sh_cell I J T.length t] = sh_rep (T ++ [t]) I J := by
  unfold sh_rep
  rw [sh_repF_app, Nat.zero_add]
  rfl
/-- a cell is set, and the other cells are as they were -/
theorem sh_rep_set {a : Nat} {t t2 : sh_Tg} {I2 : Nat → Nat → Int32} {J2 : Nat → Nat → Int64} {e : sh_E} (h : T[a]? = some t) (he : e = sh_cell I2 J2 a t2) (hI : ∀ b, b ≠ a → I2 b = I b) (hJ : ∀ b, b ≠ a → J2 b = J b) : (sh_rep T I J).set a e = sh_rep (T.set a t2) I2 J2 := by
  have hal : a < T.length := (List.getElem?_eq_some_iff.mp h).1
  apply List.ext_getElem?
  intro i
  by_cases hia : a = i
  · subst hia
    rw [List.getElem?_set_self (by rw [sh_rep_len]; exact hal), sh_rep_get (t := t2) (List.getElem?_set_self hal), he]
  · rw [List.getElem?_set_ne hia]
    unfold sh_rep
    rw [sh_repF_get, sh_repF_get, List.getElem?_set_ne hia]
    congr 1
    funext t9
    have e1 := hI (0 + i) (by omega)
    have e2 := hJ (0 + i) (by omega)
    unfold sh_cell
    rw [e1, e2]
theorem sh_set_id {a : Nat} {t : sh_Tg} (h : T[a]? = some t) : T.set a t = T := by
  apply List.ext_getElem?
  intro i
  by_cases hia : a = i
  · subst hia
    rw [List.getElem?_set_self ((List.getElem?_eq_some_iff.mp h).1), h]
  · rw [List.getElem?_set_ne hia]
theorem sh_slots_get {I : Nat → Int32} {J : Nat → Int64} (fs : List (Nat ⊕ Value)) : ∀ (b f : Nat), (sh_slots I J b fs)[f]? = (fs[f]?).map (sh_sv (I (b + f)) (J (b + f))) := by
  induction fs with
  | nil => intro b f; rfl
  | cons s r ih =>
    intro b f
    cases f with
    | zero => rcases s with (_ | n) | v <;> rfl
    | succ f =>
      have h1 : (sh_slots I J b (s :: r))[f + 1]? = (sh_slots I J (b + 1) r)[f]? := by rcases s with (_ | n) | v <;> rfl
      rw [h1, ih, show b + 1 + f = b + (f + 1) by omega]
      rfl
theorem sh_slots_len {I : Nat → Int32} {J : Nat → Int64} (fs : List (Nat ⊕ Value)) : ∀ b : Nat, (sh_slots I J b fs).length = fs.length := by
  induction fs with
  | nil => intro b; rfl
  | cons s r ih => intro b; rcases s with (_ | n) | v <;> exact congrArg (· + 1) (ih (b + 1))
theorem sh_slots_set {s2 : Nat ⊕ Value} {I I2 : Nat → Int32} {J J2 : Nat → Int64} {fs fs2 : List (Nat ⊕ Value)} {f : Nat} {v : Value} (hf : f < fs.length) (hl : fs2 = fs.set f s2) (hv : v = sh_sv (I2 f) (J2 f) s2) (hI : ∀ g, g ≠ f → I2 g = I g) (hJ : ∀ g, g ≠ f → J2 g = J g) : (sh_slots I J 0 fs).set f v = sh_slots I2 J2 0 fs2 := by
  apply List.ext_getElem?
  intro i
  by_cases hif : f = i
  · subst hif
    rw [List.getElem?_set_self (by rw [sh_slots_len]; exact hf), sh_slots_get, hl, List.getElem?_set_self hf, hv, Nat.zero_add]
    rfl
  · rw [List.getElem?_set_ne hif, sh_slots_get, sh_slots_get, hl, List.getElem?_set_ne hif, Nat.zero_add, hI i (fun h => hif h.symm), hJ i (fun h => hif h.symm)]
theorem sh_u2_same {α : Type} {I : Nat → Nat → α} {a i : Nat} {x : α} : sh_u2 I a i x a i = x := by unfold sh_u2; rw [if_pos rfl, if_pos rfl]
theorem sh_u2_cell {α : Type} {I : Nat → Nat → α} {a i b : Nat} {x : α} (h : b ≠ a) : sh_u2 I a i x b = I b := by funext j; unfold sh_u2; rw [if_neg h]
theorem sh_u2_idx {α : Type} {I : Nat → Nat → α} {a i j : Nat} {x : α} (h : j ≠ i) : sh_u2 I a i x a j = I a j := by unfold sh_u2; rw [if_pos rfl, if_neg h]
end Mem
