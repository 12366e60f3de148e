/-! RUNS of the abstract machine, calls and throws too, and that the JVM does the same -/
/-- what a run uses: cells, slots, frames, words of the stack -/
abbrev sh_U : Type := Nat × Nat × Nat × Nat
abbrev sh_Z : Type := Outcome × sh_H × sh_U
def sh_u0 : sh_U := (0, 0, 8, 200)
def sh_seq (mL : Nat) (u1 u2 : sh_U) : sh_U := (u1.1 + u2.1, u1.2.1 + u2.2.1, max (u1.2.2.1 + 1) u2.2.2.1, max (8 + (mL + 11) + u1.2.2.2) u2.2.2.2)
def sh_more (dc ds : Nat) : Option sh_Z → Option sh_Z
  | some (o, h, u) => some (o, h, (dc + u.1, ds + u.2.1, u.2.2))
  | none => none
def sh_then (mL : Nat) (u1 : sh_U) : Option sh_Z → Option sh_Z
  | some (o, h, u2) => some (o, h, sh_seq mL u1 u2)
  | none => none
def sh_cov (pc : Nat) (q : Nat × Nat × Nat × Nat) : Bool := decide (q.1 ≤ pc) && decide (pc < q.2.1)
/-- where the exception x of the heap h is caught in the method k: nowhere, or at a place; 'none' where the machine can't say -/
def sh_find (G : sh_G) (k pc x : Nat) (h : sh_H) : Option (Option Nat) := match (sh_Hd G k).find? (sh_cov pc) with
  | none => some none
  | some q => match x with
    | 0 => none
    | a + 1 => match h[a]?, sh_gH G (sh_On G k) q.2.2.2 with
      | some (.inr (ci, _)), some cj => if ci = cj then some (some q.2.2.1) else none
      | _, _ => none
/-- what a calling instruction calls: the method, its arguments, the rest of the stack -/
def sh_ent (G : sh_G) (k : Nat) (i : Instr) (st : List Value) (h : sh_H) : Option (Nat × List Value × List Value) := match i with
  | .invokevirtual idx => match sh_gC G (sh_On G k) idx with
    | some (0, k2) => match st.drop (sh_P G k2) with
      | .ref (a + 1) :: rest => match h[a]? with
        | some (.inr (ci, _)) => if ((sh_cl G)[ci]?).map (fun q => q.1) = some (sh_Y G k2).cls then some (k2, .ref (a + 1) :: (st.take (sh_P G k2)).reverse, rest) else none
        | _ => none
      | _ => none
    | some (7, k2) => match st.drop (sh_P G k2) with
      | .ref q :: rest => if sh_isT G 1000001 q = true ∧ (sh_Y G k2).cls = "java/lang/String" then some (k2, .ref q :: (st.take (sh_P G k2)).reverse, rest) else none
      | _ => none
    | _ => none
  | .invokestatic idx => match sh_gC G (sh_On G k) idx with
    | some (kd, k2) => if (kd = 1 ∨ kd = 6) ∧ sh_P G k2 ≤ st.length then some (k2, (st.take (sh_P G k2)).reverse, st.drop (sh_P G k2)) else none
    | _ => none
  | .invokespecial idx => match sh_gC G (sh_On G k) idx with
    | some (kd, k2) => if kd = 2 ∨ kd = 5 then (match st.drop (sh_P G k2) with
      | .ref a :: rest => some (k2, .ref a :: (st.take (sh_P G k2)).reverse, rest)
      | _ => none) else none
    | _ => none
  | _ => none
def sh_rti : FieldType → Int32 → Bool
  | .int, _ => true
  | .boolean, x => x == 0 || x == 1
  | .byte, x => x.toInt8.toInt32 == x
  | .char, x => (x.toUInt32 % 65536).toInt32 == x
  | _, _ => false
def sh_ret (G : sh_G) (k : Nat) (i : Instr) (st : List Value) : Option (Option Value) := match i, st, sh_R G k with
  | .return_, [], none => some none
  | .ireturn, [.int x], some ty => if sh_rti ty x then some (some (.int x)) else none
  | .lreturn, [.long x], some .long => some (some (.long x))
  | .areturn, [.ref a], some (.object _) => some (some (.ref a))
  | .areturn, [.null], some (.object _) => some (some .null)
  | .areturn, [.ref a], some (.array _) => some (some (.ref a))
  | .areturn, [.null], some (.array _) => some (some .null)
  | _, _, _ => none
/-- behind a callee's end -/
def sh_aft (G : sh_G) (run : Nat → sh_Ls → List Value → sh_H → Option sh_Z) (k k2 pc : Nat) (lv : sh_Ls) (rest : List Value) : Option sh_Z → Option sh_Z
  | some (.returned v, h2, u1) => sh_then (sh_L G k2) u1 (run (pc + 3) lv (v.toList ++ rest) h2)
  | some (.threw x, h2, u1) => match sh_find G k pc x h2 with
    | some none => some (.threw x, h2, sh_seq (sh_L G k2) u1 sh_u0)
    | some (some hpc) => sh_then (sh_L G k2) u1 (run hpc lv [.ref x] h2)
    | none => none
  | none => none
/-- 'new E; dup; E.<init>(); athrow' of an exception: its class -/
def sh_tn (G : sh_G) (k : Nat) (i : Instr) (pc : Nat) : Option (Nat × Nat × Nat) := match i with
  | .new idx => match sh_gX G (sh_On G k) idx with
    | some (ci, ic) => match sh_gI G k (pc + 3), sh_gI G k (pc + 4), sh_gI G k (pc + 7) with
      | some (.dup, 1), some (.invokespecial ic2, 3), some (.athrow, 1) => if ic2 = ic then some (ci, idx, ic) else none
      | _, _, _ => none
    | none => none
  | _ => none
/-- one step, 'run' being the runs of what is behind it -/
def sh_step (G : sh_G) (sc : sh_S) (run : Nat → Nat → sh_Ls → List Value → sh_H → Option sh_Z) (k pc : Nat) (lv : sh_Ls) (st : List Value) (h : sh_H) : Option sh_Z := match sh_gI G k pc with
  | none => none
  | some (i, len) => if len = sh_len i len then (match sh_ret G k i st with
    | some v => some (.returned v, h, sh_u0)
    | none => match sh_ent G k i st h with
      | some (k2, as, rest) => if sh_wgt rest ≤ 8 ∧ sh_wgt as ≤ sh_L G k2 then sh_aft G (run k) k k2 pc lv rest (run k2 0 (lv_args 0 as) [] h) else none
      | none => match sh_tn G k i pc with
        | some (ci, _, _) => if h.length < 1000000 ∧ sh_wgt st ≤ 100 then (match sh_find G k (pc + 7) (h.length + 1) (h ++ [.inr (ci, [])]) with
          | some none => some (.threw (h.length + 1), h ++ [.inr (ci, [])], (1, 6, 8, 200))
          | some (some hpc) => sh_more 1 6 (run k hpc lv [.ref (h.length + 1)] (h ++ [.inr (ci, [])]))
          | none => none) else none
        | none => match i, st with
          | .athrow, .ref x :: _ => match sh_find G k pc x h with
            | some none => some (.threw x, h, sh_u0)
            | some (some hpc) => run k hpc lv [.ref x] h
            | none => none
          | _, _ => match sh_one G sc k i pc lv st h with
            | some (pc2, lv2, st2, h2, dc, ds) => sh_more dc ds (run k pc2 lv2 st2 h2)
            | none => none) else none
def sh_run (G : sh_G) (sc : sh_S) : Nat → Nat → Nat → sh_Ls → List Value → sh_H → Option sh_Z
  | 0 => fun _ _ _ _ _ => none
  | n + 1 => sh_step G sc (sh_run G sc n)
def sh_o (ad : Nat → Nat) : Outcome → Outcome
  | .returned v => .returned (v.map (sh_v ad))
  | .threw x => .threw (ad x)
def sh_Q (G : sh_G) (D : va_G) (dT : Nat → ClassId) (ad : Nat → Nat) (base : Nat) (H0 : Heap) (o : Outcome) (h : sh_H) : Array Value → State → Outcome → State → Prop := fun _ st oc t => oc = sh_o ad o ∧ sh_W G D dT ad base H0 h t.heap ∧ st.heap.size ≤ t.heap.size
def sh_Pc (G : sh_G) (D : va_G) (dT : Nat → ClassId) (ad : Nat → Nat) (base : Nat) (H0 : Heap) (sc : sh_S) (as : List Value) (h : sh_H) : Array Value → State → Prop := fun v U =>
  v = (as.map (sh_v ad)).toArray ∧ sh_W G D dT ad base H0 h U.heap ∧ va_K D (sh_cl G) (sh_tys dT) U ∧ sh_Xt G ad base H0 sc U
theorem sh_Pc_blind {G : sh_G} {D : va_G} {dT : Nat → ClassId} {ad : Nat → Nat} {base : Nat} {H0 : Heap} {sc : sh_S} {as : List Value} {h : sh_H} : FrameBlind (sh_Pc G D dT ad base H0 sc as h) := by
  intro a U g mk hq
  obtain ⟨q0, q1, q2, q3⟩ := hq
  exact ⟨q0, q1, va_K.moved (u := U) (U := U.calling g mk a) (Vm.Alike.refl U.vm) q2, sh_Xt_same (s := U) (U := U.calling g mk a) rfl q3⟩
def sh_code (G : sh_G) (k : Nat) : Cond := match sh_Hd G k with
  | [] => .code (sh_Y G k) (sh_B G k) (sh_L G k) (sh_R G k)
  | hd => .codeWith (sh_Y G k) (sh_B G k) (sh_L G k) (sh_R G k) hd
theorem sh_code_mth {G : sh_G} {k : Nat} {s : State} {a : Array Value} (h : (sh_code G k).before a s = true) : sh_mth s (sh_Y G k) (sh_B G k) (sh_L G k) (sh_R G k) (sh_Hd G k) := by
  unfold sh_code at h
  split at h
  · rename_i hd
    rw [hd]
    exact sh_mth_code h
  · exact sh_mth_with h
/-- Throwable's words that speak of the heap -/
def sh_thW : List Cond := [.laysStatic Bundle.tN "UNASSIGNED_STACK" Bundle.steD, .laysStatic Bundle.tN "SUPPRESSED_SENTINEL" Bundle.listD, .isRef (.static Bundle.tN "UNASSIGNED_STACK" Bundle.steD), .isRef (.static Bundle.tN "SUPPRESSED_SENTINEL" Bundle.listD)]
/-- a method that may be called: its words -/
def sh_okm (G : sh_G) (k : Nat) : Prop := sh_code G k ∈ sh_T G ∧ Cond.initialized (sh_Y G k).cls ∈ sh_T G ∧ plainFor (sh_Y G k) = true ∧ ((sh_Y G k).cls ≠ "java/lang/invoke/MethodHandle" ∧ (sh_Y G k).cls ≠ "java/lang/invoke/VarHandle") ∧
  (parseMethodDescriptor (sh_Y G k).desc).map (fun d => d.parameters.length) = some (sh_P G k) ∧ sh_O G k = (sh_Y G k).cls
def sh_okc (G : sh_G) : Prop :=
  (∀ w ∈ sh_T G, sh_kw w = true) ∧
  (∀ k idx k2 kd, sh_gC G (sh_On G k) idx = some (kd, k2) → (kd = 0 ∨ kd = 7) → sh_okm G k2 ∧ Cond.methodLink (sh_O G k) idx (sh_Y G k2) ∈ sh_T G ∧ Cond.instanceMethod (sh_Y G k2) ∈ sh_T G ∧ Cond.selects (sh_Y G k2).cls (sh_Y G k2) (sh_Y G k2) ∈ sh_T G) ∧
  (∀ k idx kd k2, sh_gC G (sh_On G k) idx = some (kd, k2) → (kd = 1 ∨ kd = 6) → sh_okm G k2 ∧ Cond.static (sh_Y G k2) ∈ sh_T G ∧ (kd = 1 → Cond.methodLink (sh_O G k) idx (sh_Y G k2) ∈ sh_T G) ∧ (kd = 6 → ∃ host, Cond.methodLinkNest (sh_O G k) idx (sh_Y G k2) host ∈ sh_T G)) ∧
  (∀ k idx kd k2, sh_gC G (sh_On G k) idx = some (kd, k2) → (kd = 2 ∨ kd = 5) → sh_okm G k2 ∧ Cond.instanceMethod (sh_Y G k2) ∈ sh_T G ∧ (sh_Y G k2).name = "<init>" ∧ sh_Hd G k2 = [] ∧ sh_R G k2 = none ∧ (kd = 2 → Cond.methodLink (sh_O G k) idx (sh_Y G k2) ∈ sh_T G) ∧ (kd = 5 → ∃ host, Cond.methodLinkNest (sh_O G k) idx (sh_Y G k2) host ∈ sh_T G)) ∧
  (∀ k ct cj, sh_gH G (sh_On G k) ct = some cj → ct ≠ 0 ∧ ∃ C T N, (sh_cl G)[cj]? = some (C, T, N) ∧ Cond.classLink (sh_O G k) ct C ∈ sh_T G) ∧
  (∀ k idx ci ic, sh_gX G (sh_On G k) idx = some (ci, ic) → ∃ (C : String) (T : u_T) (names : List String), (sh_cl G)[ci]? = some (C, T, 0) ∧ names.length ≤ 2 ∧ Bundle.fit C = true ∧ (∀ n ∈ names, Bundle.fit n = true) ∧ Cond.classLink (sh_O G k) idx C ∈ sh_T G ∧ Cond.initialized C ∈ sh_T G ∧ ∀ w ∈ Bundle.ownAtoms0 (sh_O G k) ic C names, w ∈ sh_T G ∨ w ∈ sh_thW) ∧
  (∀ k pc i len, sh_gI G k pc = some (i, len) → decode (sh_B G k) pc = .ok (i, len))
/-- the machine's run of n steps is the JVM's -/
def sh_Good (G : sh_G) (sc : sh_S) (n : Nat) : Prop :=
  ∀ (k pc : Nat) (lv : sh_Ls) (st : List Value) (h : sh_H) (o : Outcome) (h2 : sh_H) (u : sh_U), sh_run G sc n k pc lv st h = some (o, h2, u) →
    ∀ (p : Program) (l : Launch) (e : Env) (R : Room) (s : State) (m : MethodId) (args : Array Value) (below : List Frame) (meth : Method) (c : Code) (D : va_G) (dT : Nat → ClassId) (ad : Nat → Nat) (base : Nat) (H0 : Heap),
    l.stackTraces = false → sh_C G p s m args meth c k D dT ad base H0 sc → u.2.2.1 ≤ R.frames → u.2.2.2 ≤ R.locals → ∀ (H : Heap) (locs : List Loc) (cells slots : Nat) (ls : Array Slot), cells + u.1 ≤ R.cells → slots + u.2.1 ≤ R.slots →
    lv_has ls (sh_L G k) (sh_lv ad lv) → sh_W G D dT ad base H0 h H → va_S (fun q => base ≤ q) s.heap H locs →
    W p l e R s m args below meth c H locs cells slots (sh_MQ below (sh_Q G D dT ad base H0 o h2) args s (cells + u.1) (slots + u.2.1) (fun q => base ≤ q)) (F0 m pc ls (st.map (sh_v ad)))
theorem sh_args_map (ad : Nat → Nat) (as : List Value) : ∀ i : Nat, lv_args i (as.map (sh_v ad)) = sh_lv ad (lv_args i as) := by
  induction as with
  | nil => intro i; rfl
  | cons v r ih =>
    intro i
    show (i, sh_v ad v) :: lv_args (if (sh_v ad v).category = 2 then i + 2 else i + 1) (r.map (sh_v ad)) = (i, sh_v ad v) :: sh_lv ad (lv_args (if v.category = 2 then i + 2 else i + 1) r)
    rw [sh_v_cat, ih]
theorem sh_sl_len (vs : List Value) : (lg_sl vs).length = sh_wgt vs := by
  induction vs with
  | nil => rfl
  | cons v r ih =>
    have h1 : lg_sl (v :: r) = (if v.category = 2 then [Slot.val v, Slot.second] else [Slot.val v]) ++ lg_sl r := rfl
    have h2 : sh_wgt (v :: r) = v.category + sh_wgt r := by simp [sh_wgt]
    rw [h1, List.length_append, ih, h2]
    congr 1
    rcases lv_cat v with hc | hc <;> simp [hc]
theorem sh_wgt_map (ad : Nat → Nat) (vs : List Value) : sh_wgt (vs.map (sh_v ad)) = sh_wgt vs := by
  unfold sh_wgt
  rw [List.map_map]
  congr 1
  apply List.map_congr_left
  intro v _
  exact sh_v_cat ad v
theorem sh_W_stat {G : sh_G} {D : va_G} {dT : Nat → ClassId} {ad : Nat → Nat} {base : Nat} {H0 H : Heap} {h : sh_H} (had : ∀ j, j < 1000000 → ad (j + 1) = base + j) (hW : sh_W G D dT ad base H0 h H) {q : Nat} {cell : Cell} (hq : base ≤ q) (hc : H[q]? = some cell) : cell.vm.isStatics = false := by
  obtain ⟨w1, w2, w3, w4⟩ := hW
  have hlt : q < H.size := (Array.getElem?_eq_some_iff.mp hc).1
  have hk : q - base < h.length := by omega
  have h1 : h[q - base]? = some (h[q - base]'hk) := List.getElem?_eq_getElem hk
  have h2 := w4 _ _ (sh_ws_at (dT := dT) (ad := ad) h1)
  have h3 : ad (q - base + 1) = q := by rw [had _ (by omega)]; omega
  generalize h[q - base]'hk = e0 at h2
  rw [h3] at h2
  cases e0 with
  | inl x =>
    obtain ⟨t0, n0, f | f | f | f | f⟩ := x <;>
      (have h4 : H[q]? = some _ := h2
       rw [hc] at h4
       cases h4
       rfl)
  | inr o =>
    obtain ⟨rr, g1, cell2, q1, q2, q3, -⟩ := h2
    have q1 : H[q]? = some cell2 := q1
    rw [hc] at q1
    cases q1
    rw [q3]
    rfl
theorem sh_met {G : sh_G} {sc : sh_S} {n : Nat} (hg : sh_Good G sc n) {k : Nat} (okm : sh_okm G k) {as : List Value} (hw : sh_wgt as ≤ sh_L G k) {h h2 : sh_H} {o : Outcome} {u : sh_U} (hrun : sh_run G sc n k 0 (lv_args 0 as) [] h = some (o, h2, u))
    (l : Launch) (htr : l.stackTraces = false) {D : va_G} {dT : Nat → ClassId} {ad : Nat → Nat} {base : Nat} {H0 : Heap} (had : ∀ j, j < 1000000 → ad (j + 1) = base + j) (hX0 : ad 0 < base) :
    sh_Met l (sh_Y G k) (sh_T G) { frames := u.2.2.1, cells := u.1, slots := u.2.1, locals := u.2.2.2 } (sh_Pc G D dT ad base H0 sc as h) (sh_Q G D dT ad base H0 o h2) u.1 u.2.1 (fun q => base ≤ q) := by
  obtain ⟨hcd, hini, hpl, hmh, hpar, hown⟩ := okm
  refine sh_ofW (cc := sh_B G k) (maxL := sh_L G k) (ret := sh_R G k) hpl ?_ ?_
  · intro args s m hpre hn
    obtain ⟨mk, methM, cM, z1, z2, z3, z4, z5, -, z7, z8, -⟩ := sh_code_mth (atoms_spec (ws := sh_T G) hpre _ hcd)
    cases hn.symm.trans z1
    exact ⟨methM, cM, z2, z3, z4, z5, z7, z8⟩
  · intro p e s m args below meth c s₁ B hml hP
    obtain ⟨hargs, hW, hK, hX⟩ := hP
    subst hargs
    have hts : ∀ w ∈ sh_T G, w.before (as.map (sh_v ad)).toArray s = true := atoms_spec (ws := sh_T G) B.pre
    obtain ⟨mk, methM, cM, z1, z2, z3, z4, z5, z6, z7, z8, -⟩ := sh_code_mth (hts _ hcd)
    cases B.named.symm.trans z1
    cases B.method.symm.trans z2
    cases (Stand.of_body B).code.symm.trans z3
    have C : sh_C G p s m (as.map (sh_v ad)).toArray meth c k D dT ad base H0 sc :=
      ⟨B.exec, B.bytes, hml, B.returns, by rw [hown]; exact findClass_of_methodNamed B.named, hts, hK, B.notSynchronized, (name_of_methodNamed B.named B.method).1, by rw [hW.1]; omega, hW.2.2.1, had, hX, ⟨hX0, fun q cell hq hc => sh_W_stat had hW hq hc⟩, z6⟩
    have hl := lv_entry (as.map (sh_v ad)) (n := sh_L G k) (by rw [sh_sl_len, sh_wgt_map]; exact hw)
    rw [lg_entry_eq]
    rw [sh_args_map] at hl
    generalize (lg_sl (as.map (sh_v ad)) ++ List.replicate (sh_L G k - (lg_sl (as.map (sh_v ad))).length) Slot.unset).toArray = ls at hl ⊢
    have hk := hg k 0 (lv_args 0 as) [] h o h2 u hrun p l e (headSpec (sh_T G) { frames := u.2.2.1, cells := u.1, slots := u.2.1, locals := u.2.2.2 }).room s m (as.map (sh_v ad)).toArray below meth c D dT ad base H0 htr C (Nat.le_refl _) (Nat.le_refl _) s.heap [] 0 0 ls (by rw [Nat.zero_add]; exact Nat.le_refl _) (by rw [Nat.zero_add]; exact Nat.le_refl _) hl hW va_S.rf
    rw [Nat.zero_add, Nat.zero_add] at hk
    exact hk
section Good
variable {G : sh_G} {p : Program} {l : Launch} {e : Env} {R : Room} {s : State} {m : MethodId} {args : Array Value} {below : List Frame} {meth : Method} {c : Code} {H : Heap} {locs : List Loc} {cells slots : Nat} {Q : State → Prop} {k : Nat} {D : va_G} {dT : Nat → ClassId} {ad : Nat → Nat} {base : Nat} {H0 : Heap} {sc : sh_S} {pc : Nat} {ls : Array Slot} {lv : sh_Ls} {st : List Value} {h : sh_H}
theorem sh_ret_ok (C : sh_C G p s m args meth c k D dT ad base H0 sc) {i : Instr} {len : Nat} {v : Option Value} (hd : decode (sh_B G k) pc = .ok (i, sh_len i len)) (hv : sh_ret G k i st = some v) (hW : sh_W G D dT ad base H0 h H) (hS : va_S (fun q => base ≤ q) s.heap H locs) :
    W p l e R s m args below meth c H locs cells slots (sh_MQ below (sh_Q G D dT ad base H0 (.returned v) h) args s cells slots (fun q => base ≤ q)) (F0 m pc ls (st.map (sh_v ad))) := by
  obtain ⟨hx, hb, hml, hr, hown, hts, hK, hlk, hnm, hbs, hold, had, hX, hX0, hhd⟩ := C
  refine sh_mono (fun t => sh_MQ_of) ?_
  have hq : ∀ t : State, t.heap = H → s.WarmedH t.vm → sh_Q G D dT ad base H0 (.returned v) h args s (.returned (v.map (sh_v ad))) t := fun t ht _ => ⟨rfl, by rw [ht]; exact hW, by rw [ht]; exact hS.1⟩
  unfold sh_ret at hv
  split at hv
  · rename_i he
    cases hv
    exact W.vret hx hb (hr.trans he) hq hS.2.2 hd hlk
  · rename_i x ty he
    split at hv
    · rename_i hty
      cases hv
      cases ty <;> first | exact Bool.noConfusion (show false = true from hty) | exact W.iret hx hb (hr.trans he) hq hS.2.2 hd hlk | skip
      · have hx01 : x.toInt8.toInt32 = x := by simpa [sh_rti] using hty
        exact W.zret hx hb (hr.trans he) (by show Value.int x.toInt8.toInt32 = _; rw [hx01]) hq hS.2.2 hd hlk
      · have hx01 : (x.toUInt32 % 65536).toInt32 = x := by simpa [sh_rti] using hty
        exact W.zret hx hb (hr.trans he) (by show Value.int (x.toUInt32 % 65536).toInt32 = _; rw [hx01]) hq hS.2.2 hd hlk
      · have hx01 : x = 0 ∨ x = 1 := by simpa [sh_rti] using hty
        exact W.zret hx hb (hr.trans he) (by rcases hx01 with rfl | rfl <;> decide) hq hS.2.2 hd hlk
    · cases hv
  · rename_i x he
    cases hv
    exact W.lret hx hb (hr.trans he) hq hS.2.2 hd hlk
  · rename_i a nm he
    cases hv
    exact W.aret hx hb (hr.trans he) (Or.inl ⟨_, rfl⟩) (Or.inr ⟨_, rfl⟩) hq hS.2.2 hd hlk
  · rename_i nm he
    cases hv
    exact W.aret hx hb (hr.trans he) (Or.inl ⟨_, rfl⟩) (Or.inl rfl) hq hS.2.2 hd hlk
  · rename_i a nm he
    cases hv
    exact W.aret hx hb (hr.trans he) (Or.inr ⟨_, rfl⟩) (Or.inr ⟨_, rfl⟩) hq hS.2.2 hd hlk
  · rename_i nm he
    cases hv
    exact W.aret hx hb (hr.trans he) (Or.inr ⟨_, rfl⟩) (Or.inl rfl) hq hS.2.2 hd hlk
  · cases hv
/-- no handler covers the place -/
theorem sh_out {x : Nat} (hhd : c.exceptionTable.toList.map (fun z => (z.startPc, z.endPc, z.handlerPc, z.catchType)) = sh_Hd G k) (hf : sh_find G k pc x h = some none) : ∀ z ∈ c.exceptionTable.toList, covers z pc = false := by
  intro z hz
  unfold sh_find at hf
  split at hf
  · rename_i hn
    have h1 := List.find?_eq_none.mp hn (z.startPc, z.endPc, z.handlerPc, z.catchType) (by rw [← hhd]; exact List.mem_map_of_mem hz)
    have h2 : sh_cov pc (z.startPc, z.endPc, z.handlerPc, z.catchType) = false := by simpa using h1
    exact h2
  · split at hf
    · cases hf
    · split at hf
      · split at hf <;> cases hf
      · cases hf
theorem sh_in {x hpc : Nat} {Q : State → Prop} (okc : sh_okc G) (C : sh_C G p s m args meth c k D dT ad base H0 sc) (hf : sh_find G k pc x h = some (some hpc)) (hW : sh_W G D dT ad base H0 h H)
    (kk : W p l e R s m args below meth c H locs cells slots Q (F0 m hpc ls [.ref (ad x)])) {stk : List Value} : sh_WT p l e R s m args below meth c H locs cells slots Q (F0 m pc ls stk) (ad x) := by
  obtain ⟨hx, hb, hml, hr, hown, hts, hK, hlk, hnm, hbs, hold, had, hX, hX0, hhd⟩ := C
  unfold sh_find at hf
  split at hf
  · cases hf
  · rename_i q hq
    split at hf
    · cases hf
    · rename_i a
      split at hf
      · rename_i ci fs cj hc1 hc2
        split at hf
        · rename_i hcc
          subst hcc
          cases hf
          obtain ⟨hct, Cn, T, N, hcl, hw⟩ := okc.2.2.2.2.1 k _ _ hc2
          obtain ⟨hcov, as, bs, hsp, hpre⟩ := List.find?_eq_some_iff_append.mp hq
          rw [← hhd] at hsp
          obtain ⟨l1, l2, e1, e2, e3⟩ := List.map_eq_append_iff.mp hsp
          obtain ⟨z, l3, e4, e5, e6⟩ := List.map_eq_cons_iff.mp e3
          subst e4
          subst e5
          obtain ⟨rr, g1, cell, q1, q2, q3, -⟩ := hW.2.2.2 a _ (sh_ws_at hc1)
          obtain ⟨-, hfc, kC, hkC, -⟩ := hK.1 ci _ hcl
          refine sh_caught l1 z l3 e1 (fun y hy => ?_) hcov hct rfl hown (hts _ hw) (cX := D.1 ci) (cell := cell) hfc q1 q2 (fun k0 hk0 => by rw [q3] at hk0; cases hk0) kk
          have h3 := hpre (y.startPc, y.endPc, y.handlerPc, y.catchType) (by rw [← e2]; exact List.mem_map_of_mem hy)
          have h4 : sh_cov pc (y.startPc, y.endPc, y.handlerPc, y.catchType) = false := by simpa using h3
          exact h4
        · cases hf
      · cases hf
end Good
