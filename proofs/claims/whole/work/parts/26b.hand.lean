/-! functions of the methods that are linked by hand -/
/-- the reference in a field; the length of an array -/
def sh_rf (T : List sh_Tg) (c f : Nat) : Nat := match T[c]? with
  | some (.inr (_, fs)) => (match fs[f]? with
    | some (.inr (.ref (a + 1))) => a
    | _ => 0)
  | _ => 0
def sh_ln (T : List sh_Tg) (a : Nat) : Nat := match T[a]? with
  | some (.inl (_, n)) => n
  | _ => 0
def sh_dp : Nat := 1000
/-- texts: how many chars, which, and where one stands -/
def sh_txs : Nat → List Nat
  | 0 => [97, 108, 105, 99, 101, 32, 98, 111, 98, 32, 101, 108, 115, 101, 32, 102, 97, 108, 115, 101, 32, 102, 110, 32, 102, 111, 114, 32, 105, 102, 32, 105, 110, 32, 108, 101, 116, 32, 111, 117, 116, 112, 117, 116, 32, 114, 101, 116, 117, 114, 110, 32, 116, 114, 117, 101, 32]
  | 1 => [40, 41, 91, 93, 123, 125, 44, 59, 61, 43, 45, 42, 47, 37, 38, 124, 94, 126, 33, 60, 62]
  | 2 => [88, 79, 82]
  | 3 => [65, 78, 68]
  | 4 => [73, 78, 86]
  | 5 => [69, 81, 87]
  | 6 => [40, 41, 91, 93, 123, 125, 44, 59, 61, 43, 45, 42, 47, 37, 38, 124, 94, 126, 33, 60, 62]
  | 7 => [102, 110]
  | 8 => [97, 108, 105, 99, 101]
  | 9 => [98, 111, 98]
  | 10 => [98, 111, 111, 108]
  | 11 => [101, 108, 115, 101]
  | 12 => [102, 97, 108, 115, 101]
  | 13 => [102, 111, 114]
  | 14 => [105, 102]
  | 15 => [105, 110]
  | 16 => [108, 101, 116]
  | 17 => [111, 117, 116, 112, 117, 116]
  | 18 => [114, 101, 116, 117, 114, 110]
  | 19 => [116, 114, 117, 101]
  | 20 => [10]
  | 21 => [65]
  | 22 => [65, 78, 68, 10]
  | 23 => [88, 79, 82, 10]
  | 24 => [69]
  | 25 => [69, 81, 87, 10]
  | 26 => [73, 78, 86, 10]
  | _ => []
def sh_txn (j : Nat) : Nat := (sh_txs j).length
def sh_txl (j : Nat) : Int32 := Int32.ofNat (sh_txn j)
def sh_txc (j : Nat) (i : Int32) : Int32 := Int32.ofNat ((sh_txs j).getD i.toNatClampNeg 0)
def sh_txw (c : Int32) : List Nat → Nat → Int32
  | [], _ => -1
  | a :: r, n => if Int32.ofNat a = c then Int32.ofNat n else sh_txw c r (n + 1)
def sh_txi (j : Nat) (c : Int32) : Int32 := sh_txw c (sh_txs j) 0
/-- Arrays.fill -/
def sf_184 (a : Nat) (x : Int32) (m : sh_X) : Option (Unit × sh_X) := some ((), ⟨m.T, sh_fl m.I a (sh_ln m.T a) x, m.J, m.s⟩)
/-- a new array of ints (or bytes) with the first n elements of another -/
def sh_cp (I : Nat → Nat → Int32) (a b n : Nat) : Nat → Nat → Int32 := fun c i => if c = b then (if i < n then I a i else 0) else I c i
def sh_gt (a b c : Nat) : sh_Tg := .inr (2, [.inr (.ref (a + 1)), .inr (.ref (b + 1)), .inr (.ref (c + 1)), .inl 0])
/-- the gates' arrays grow to n -/
def sh_gw (n : Nat) (m : sh_X) : sh_X :=
  ⟨(m.T ++ ([.inl (1, n), .inl (0, n), .inl (0, n)] : List sh_Tg)).set 9 (sh_gt m.T.length (m.T.length + 1) (m.T.length + 2)),
   sh_cp (sh_cp (sh_cp m.I (sh_rf m.T 9 0) m.T.length (sh_ln m.T (sh_rf m.T 9 0))) (sh_rf m.T 9 1) (m.T.length + 1) (sh_ln m.T (sh_rf m.T 9 1))) (sh_rf m.T 9 2) (m.T.length + 2) (sh_ln m.T (sh_rf m.T 9 2)),
   m.J, m.s + 3 * n⟩
/-- a gate is put in -/
def sh_gp (k x y : Int32) (m : sh_X) : Option (Int32 × sh_X) :=
  if sh_okb (m.I 9 3) (sh_ln m.T (sh_rf m.T 9 0)) = true ∧ sh_okb (m.I 9 3) (sh_ln m.T (sh_rf m.T 9 1)) = true ∧ sh_okb (m.I 9 3) (sh_ln m.T (sh_rf m.T 9 2)) = true then
    some (m.I 9 3 + 1 - 1, ⟨m.T, sh_u2 (sh_u2 (sh_u2 (sh_u2 m.I (sh_rf m.T 9 0) (m.I 9 3).toNatClampNeg (vp_nar .byte k.toInt8.toInt32)) (sh_rf m.T 9 1) (m.I 9 3).toNatClampNeg x) (sh_rf m.T 9 2) (m.I 9 3).toNatClampNeg y) 9 3 (m.I 9 3 + 1), m.J, m.s⟩)
  else none
/-- the first n elements of an array are bytes -/
def sh_byb (I : Nat → Nat → Int32) (a n : Nat) : Bool := (List.range n).all (fun i => decide (-128 ≤ I a i) && decide (I a i ≤ 127))
/-- Gates.store -/
def sf_19 (k x y : Int32) (m : sh_X) : Option (Int32 × sh_X) :=
  if m.I 9 3 < 65536 then
    if m.I 9 3 < Int32.ofNat (sh_ln m.T (sh_rf m.T 9 0)) then sh_gp k x y m
    else if m.T.length < 900000 ∧ sh_ln m.T (sh_rf m.T 9 0) ≤ 65536 ∧ 0 < m.I 9 3 ∧ m.I 9 3 = Int32.ofNat (sh_ln m.T (sh_rf m.T 9 0)) ∧ sh_ln m.T (sh_rf m.T 9 1) = sh_ln m.T (sh_rf m.T 9 0) ∧ sh_ln m.T (sh_rf m.T 9 2) = sh_ln m.T (sh_rf m.T 9 0) ∧ sh_byb m.I (sh_rf m.T 9 0) (sh_ln m.T (sh_rf m.T 9 0)) = true then
      sh_gp k x y (sh_gw (2 * sh_ln m.T (sh_rf m.T 9 0)) m)
    else none
  else some (0, m)
def sh_gb (a b : Nat) : sh_Tg := .inr (11, [.inr (.ref 10), .inr (.ref 63), .inr (.ref 64), .inr (.ref (a + 1)), .inr (.ref (b + 1)), .inl 1])
/-- Garbling.makeRoom -/
def sf_221 (m : sh_X) : Option (Unit × sh_X) :=
  if Int32.ofNat (sh_ln m.T (sh_rf m.T 61 3)) < m.I 9 3 then
    if m.T.length < 900000 ∧ sh_ln m.T (sh_rf m.T 9 0) ≤ 100000 then
      some ((), ⟨(m.T ++ ([.inl (2, sh_ln m.T (sh_rf m.T 9 0)), .inl (2, sh_ln m.T (sh_rf m.T 9 0))] : List sh_Tg)).set 61 (sh_gb m.T.length (m.T.length + 1)), m.I, fun c i => if c = m.T.length ∨ c = m.T.length + 1 then 0 else m.J c i, m.s + 2 * sh_ln m.T (sh_rf m.T 9 0)⟩)
    else none
  else some ((), m)
/-- the text that is read is the tape -/
def sh_tx2 (T : List sh_Tg) : List sh_Tg := T.set 2 (.inr (1, [.inr (.ref 4), .inr (.ref 5), .inr (.ref 6), .inr (.ref 7), .inr (.ref 8), .inr (.ref 2), .inl 0, .inl 0, .inl 0, .inl 0, .inl 0]))
def sh_tx58 (T : List sh_Tg) : List sh_Tg := T.set 58 (.inr (10, [.inr (.ref 10), .inr (.ref 14), .inr (.ref 19), .inr (.ref 24), .inr (.ref 60), .inr (.ref 2), .inl 0, .inl 0, .inl 0, .inl 0, .inl 0, .inl 0]))
