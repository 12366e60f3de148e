/-! THE JVM DOES WHAT THE ABSTRACT MACHINE DOES: one instruction -/
/-- the tables' numbers are as the words have them -/
def sh_ok (G : sh_G) : Prop :=
  (∀ (ci : Nat) (C : String) (T : u_T) (N : Nat), (sh_cl G)[ci]? = some (C, T, N) → (∀ w ∈ u_ws C T N, w ∈ sh_T G) ∧ (∀ a, a < N → ∀ b, b < N → a ≠ b → (T a).2.1 ≠ (T b).2.1) ∧ (∀ j, j < N → (parseFieldDescriptor (T j).2.2.1).isSome = true)) ∧
  (∀ (k idx ci f : Nat) (ty : FieldType) (fin : Bool), sh_gF G (sh_On G k) idx = some (ci, f, ty, fin) → ∃ (C : String) (T : u_T) (N : Nat), (sh_cl G)[ci]? = some (C, T, N) ∧ f < N ∧ Cond.fieldLink (sh_O G k) idx (T f).1 (T f).2.1 (T f).2.2.1 ∈ sh_T G ∧ parseFieldDescriptor (T f).2.2.1 = some ty ∧ (T f).2.2.2 = fin ∧ (T f).1 = C) ∧
  (∀ (k idx ci n : Nat) (fs : List Value), sh_gN G (sh_On G k) idx = some (ci, n, fs) → ∃ (C : String) (T : u_T) (N : Nat), (sh_cl G)[ci]? = some (C, T, N) ∧ Cond.classLink (sh_O G k) idx C ∈ sh_T G ∧ Cond.instantiable C n ∈ sh_T G ∧ Cond.initialized C ∈ sh_T G ∧ (∀ j, j < N → (parseFieldDescriptor (T j).2.2.1).map defaultValue = some (vp_V fs j)) ∧ (∀ v ∈ fs, ∀ ad : Nat → Nat, sh_v ad v = v)) ∧
  (∀ (k idx : Nat) (x : Int32), sh_gK G (sh_On G k) idx = some (.int x) → Cond.constant (sh_O G k) idx x ∈ sh_T G) ∧
  (∀ (k idx : Nat) (x : Int64), sh_gK G (sh_On G k) idx = some (.long x) → Cond.constantLong (sh_O G k) idx x ∈ sh_T G) ∧
  (∀ t, t < 4 → Cond.arrayClass (sh_ty t) ∈ sh_T G) ∧
  (∀ (k idx k2 : Nat), sh_gC G (sh_On G k) idx = some (3, k2) → Cond.methodLink (sh_O G k) idx Lib.objectInit ∈ sh_T G ∧ Cond.instanceMethod Lib.objectInit ∈ sh_T G ∧ Cond.code Lib.objectInit ⟨#[0xb1]⟩ 1 none ∈ sh_T G) ∧
  (∀ (k idx f : Nat), sh_gT G (sh_On G k) idx = some f → (f = 0 → Cond.fieldLink (sh_O G k) idx "java/lang/String" "value" "[B" ∈ sh_T G) ∧ (f ≠ 0 → Cond.fieldLink (sh_O G k) idx "java/lang/String" "coder" "B" ∈ sh_T G)) ∧
  (∀ (k idx : Nat) (v : Value), sh_gZ G (sh_On G k) idx = some v → (v = .int 1 ∧ Cond.fieldLink (sh_O G k) idx "java/lang/String" "COMPACT_STRINGS" "Z" ∈ sh_T G) ∨ (v = .ref 3000001 ∧ Cond.fieldLink (sh_O G k) idx "jdk/internal/util/Preconditions" "SIOOBE_FORMATTER" "Ljava/util/function/BiFunction;" ∈ sh_T G)) ∧
  (∀ (k idx k2 : Nat), sh_gC G (sh_On G k) idx = some (8, k2) → Cond.methodLink (sh_O G k) idx arraycopyName ∈ sh_T G ∧ Cond.native arraycopyName ∈ sh_T G ∧ Cond.static arraycopyName ∈ sh_T G ∧ Cond.initialized "java/lang/System" ∈ sh_T G)
/-- the texts, as they lie in the heap from the start -/
def sh_Tx (G : sh_G) (fm : Value) (ad : Nat → Nat) (A : Nat → Prop) (U : State) (H : Heap) : Prop :=
  va_Z "java/lang/String" "COMPACT_STRINGS" "Z" (.int 1) A U H ∧ va_Z "jdk/internal/util/Preconditions" "SIOOBE_FORMATTER" "Ljava/util/function/BiFunction;" (sh_v ad fm) A U H ∧
  ∀ j : Nat, sh_gB G j ≠ [] → va_O "java/lang/String" (ad (1000001 + j)) A U H ∧ va_OF "java/lang/String" "coder" "B" (.int 0) (ad (1000001 + j)) A U H ∧ va_OF "java/lang/String" "value" "[B" (.ref (ad (2000001 + j))) (ad (1000001 + j)) A U H ∧ va_T .byte (ad (2000001 + j)) (sh_gB G j).length (fun i => .int ((sh_gB G j).getD i 0)) A U H
theorem sh_Tx.moved {G : sh_G} {fm : Value} {ad : Nat → Nat} {A : Nat → Prop} {u U : State} {H : Heap} (hvm : u.vm.Alike U.vm) (h : sh_Tx G fm ad A u H) : sh_Tx G fm ad A U H :=
  ⟨va_Z.moved hvm h.1, va_Z.moved hvm h.2.1, fun j hj => ⟨va_O.moved hvm (h.2.2 j hj).1, va_OF.moved hvm (h.2.2 j hj).2.1, va_OF.moved hvm (h.2.2 j hj).2.2.1, va_T.moved hvm (h.2.2 j hj).2.2.2⟩⟩
theorem sh_Tx.kept {G : sh_G} {fm : Value} {ad : Nat → Nat} {A : Nat → Prop} {U : State} {H H1 : Heap} (h : sh_Tx G fm ad A U H) (hq : ∀ a : Nat, a < H.size → ¬ A a → H1[a]? = H[a]?) : sh_Tx G fm ad A U H1 :=
  ⟨va_Z.kept h.1 hq, va_Z.kept h.2.1 hq, fun j hj => ⟨(h.2.2 j hj).1.kept hq, (h.2.2 j hj).2.1.kept hq, (h.2.2 j hj).2.2.1.kept hq, (h.2.2 j hj).2.2.2.kept hq⟩⟩
/-- what is carried beside the words: the script, the texts, Throwable's two statics -/
def sh_Xt (G : sh_G) (ad : Nat → Nat) (base : Nat) (H0 : Heap) (sc : sh_S) (U : State) : Prop :=
  (∀ (L : Nat) (xs : Nat → Int32), sc.1 = some (L, xs) → va_X (ad 0) L xs U H0) ∧
  (∀ (k idx j : Nat), sh_gS G (sh_On G k) idx = some j → ∃ tx : String, vk_R (sh_O G k) idx tx (ad (1000001 + j)) U) ∧
  sh_ls "UNASSIGNED_STACK" Bundle.steD (fun q => base ≤ q) U H0 ∧ sh_ls "SUPPRESSED_SENTINEL" Bundle.listD (fun q => base ≤ q) U H0 ∧ sh_Tx G sc.2 ad (fun q => base ≤ q) U H0
theorem sh_Xt_warm {G : sh_G} {ad : Nat → Nat} {base : Nat} {H0 : Heap} {sc : sh_S} {s U : State} (hW : s.WarmedH U.vm) (h : sh_Xt G ad base H0 sc s) : sh_Xt G ad base H0 sc U :=
  ⟨fun L xs e => va_X.moved hW.alike (h.1 L xs e), fun k idx j hj => by obtain ⟨tx, hx⟩ := h.2.1 k idx j hj; exact ⟨tx, hx.warm hW⟩, sh_ls_moved hW.alike h.2.2.1, sh_ls_moved hW.alike h.2.2.2.1, h.2.2.2.2.moved hW.alike⟩
theorem sh_Xt_same {G : sh_G} {ad : Nat → Nat} {base : Nat} {H0 : Heap} {sc : sh_S} {s U : State} (hv : U.vm = s.vm) (h : sh_Xt G ad base H0 sc s) : sh_Xt G ad base H0 sc U :=
  ⟨fun L xs e => va_X.moved (hv ▸ Vm.Alike.refl s.vm) (h.1 L xs e), fun k idx j hj => by obtain ⟨tx, hx⟩ := h.2.1 k idx j hj; exact ⟨tx, hx.same hv⟩, sh_ls_moved (hv ▸ Vm.Alike.refl s.vm) h.2.2.1, sh_ls_moved (hv ▸ Vm.Alike.refl s.vm) h.2.2.2.1, h.2.2.2.2.moved (hv ▸ Vm.Alike.refl s.vm)⟩
/-- where a method's walk stands: the machine, its code, the words, the tables' classes, the script -/
def sh_C (G : sh_G) (p : Program) (s : State) (m : MethodId) (args : Array Value) (meth : Method) (c : Code) (k : Nat) (D : va_G) (dT : Nat → ClassId) (ad : Nat → Nat) (base : Nat) (H0 : Heap) (sc : sh_S) : Prop :=
  p.tables.exec = Jvm.exec ∧ c.code = sh_B G k ∧ c.maxLocals = sh_L G k ∧ meth.sig.returnType = sh_R G k ∧ s.vm.findClass (sh_O G k) = some m.cls ∧ (∀ w ∈ sh_T G, w.before args s = true) ∧ va_K D (sh_cl G) (sh_tys dT) s ∧ meth.locks = false ∧ meth.name = (sh_Y G k).name ∧
  base ≤ s.heap.size ∧ (∀ q, q < base → s.heap[q]? = H0[q]?) ∧ (∀ j, j < 1000000 → ad (j + 1) = base + j) ∧ sh_Xt G ad base H0 sc s ∧ (ad 0 < base ∧ ∀ (q : Nat) (cell : Cell), base ≤ q → s.heap[q]? = some cell → cell.vm.isStatics = false) ∧ c.exceptionTable.toList.map (fun h => (h.startPc, h.endPc, h.handlerPc, h.catchType)) = sh_Hd G k
section Sound
variable {G : sh_G} {p : Program} {l : Launch} {e : Env} {R : Room} {s : State} {m : MethodId} {args : Array Value} {below : List Frame} {meth : Method} {c : Code} {H : Heap} {locs : List Loc} {cells slots : Nat} {Q : State → Prop} {k : Nat} {D : va_G} {dT : Nat → ClassId} {ad : Nat → Nat} {base : Nat} {H0 : Heap} {sc : sh_S} {pc : Nat} {ls : Array Slot} {lv : sh_Ls} {st : List Value} {h : sh_H} {r : sh_N}
/-- what is wanted behind an instruction -/
def sh_K (G : sh_G) (p : Program) (l : Launch) (e : Env) (R : Room) (s : State) (m : MethodId) (args : Array Value) (below : List Frame) (meth : Method) (c : Code) (cells slots : Nat) (Q : State → Prop) (k : Nat) (D : va_G) (dT : Nat → ClassId) (ad : Nat → Nat) (base : Nat) (H0 : Heap) (r : sh_N) : Prop :=
  ∀ (ls' : Array Slot) (H' : Heap) (locs' : List Loc), lv_has ls' (sh_L G k) (sh_lv ad r.2.1) → sh_W G D dT ad base H0 r.2.2.2.1 H' → va_S (fun q => base ≤ q) s.heap H' locs' → W p l e R s m args below meth c H' locs' (cells + r.2.2.2.2.1) (slots + r.2.2.2.2.2) Q (F0 m r.1 ls' (r.2.2.1.map (sh_v ad)))

theorem sh_oi2 (f : Int32 → Int32 → Int32) (row : ∀ (x y : Int32) (rest : List Value), W p l e R s m args below meth c H locs cells slots Q (F0 m (pc + 1) ls (.int (f x y) :: rest)) → W p l e R s m args below meth c H locs cells slots Q (F0 m pc ls (.int y :: .int x :: rest))) (h1 : sh_i2 f pc lv st h = some r) (hl : lv_has ls (sh_L G k) (sh_lv ad lv)) (hW : sh_W G D dT ad base H0 h H) (hS : va_S (fun q => base ≤ q) s.heap H locs) (kk : sh_K G p l e R s m args below meth c cells slots Q k D dT ad base H0 r) : W p l e R s m args below meth c H locs cells slots Q (F0 m pc ls (st.map (sh_v ad))) := by
  unfold sh_i2 at h1
  split at h1
  · cases h1
    exact row _ _ _ (kk ls H locs hl hW hS)
  · cases h1
theorem sh_ol2 (f : Int64 → Int64 → Int64) (row : ∀ (x y : Int64) (rest : List Value), W p l e R s m args below meth c H locs cells slots Q (F0 m (pc + 1) ls (.long (f x y) :: rest)) → W p l e R s m args below meth c H locs cells slots Q (F0 m pc ls (.long y :: .long x :: rest))) (h1 : sh_l2 f pc lv st h = some r) (hl : lv_has ls (sh_L G k) (sh_lv ad lv)) (hW : sh_W G D dT ad base H0 h H) (hS : va_S (fun q => base ≤ q) s.heap H locs) (kk : sh_K G p l e R s m args below meth c cells slots Q k D dT ad base H0 r) : W p l e R s m args below meth c H locs cells slots Q (F0 m pc ls (st.map (sh_v ad))) := by
  unfold sh_l2 at h1
  split at h1
  · cases h1
    exact row _ _ _ (kk ls H locs hl hW hS)
  · cases h1
theorem sh_ols (f : Int64 → Int32 → Int64) (row : ∀ (x : Int64) (y : Int32) (rest : List Value), W p l e R s m args below meth c H locs cells slots Q (F0 m (pc + 1) ls (.long (f x y) :: rest)) → W p l e R s m args below meth c H locs cells slots Q (F0 m pc ls (.int y :: .long x :: rest))) (h1 : sh_lsh f pc lv st h = some r) (hl : lv_has ls (sh_L G k) (sh_lv ad lv)) (hW : sh_W G D dT ad base H0 h H) (hS : va_S (fun q => base ≤ q) s.heap H locs) (kk : sh_K G p l e R s m args below meth c cells slots Q k D dT ad base H0 r) : W p l e R s m args below meth c H locs cells slots Q (F0 m pc ls (st.map (sh_v ad))) := by
  unfold sh_lsh at h1
  split at h1
  · cases h1
    exact row _ _ _ (kk ls H locs hl hW hS)
  · cases h1
theorem sh_oi1 (f : Int32 → Int32) (row : ∀ (x : Int32) (rest : List Value), W p l e R s m args below meth c H locs cells slots Q (F0 m (pc + 1) ls (.int (f x) :: rest)) → W p l e R s m args below meth c H locs cells slots Q (F0 m pc ls (.int x :: rest))) (h1 : sh_i1 f pc lv st h = some r) (hl : lv_has ls (sh_L G k) (sh_lv ad lv)) (hW : sh_W G D dT ad base H0 h H) (hS : va_S (fun q => base ≤ q) s.heap H locs) (kk : sh_K G p l e R s m args below meth c cells slots Q k D dT ad base H0 r) : W p l e R s m args below meth c H locs cells slots Q (F0 m pc ls (st.map (sh_v ad))) := by
  unfold sh_i1 at h1
  split at h1
  · cases h1
    exact row _ _ (kk ls H locs hl hW hS)
  · cases h1
theorem sh_old (want : Value → Bool) {i n : Nat} (row : ∀ v : Value, want v = true → ls[i]? = some (.val (sh_v ad v)) → W p l e R s m args below meth c H locs cells slots Q (F0 m (pc + n) ls (sh_v ad v :: st.map (sh_v ad))) → W p l e R s m args below meth c H locs cells slots Q (F0 m pc ls (st.map (sh_v ad)))) (h1 : sh_ld want i n pc lv st h = some r) (hl : lv_has ls (sh_L G k) (sh_lv ad lv)) (hW : sh_W G D dT ad base H0 h H) (hS : va_S (fun q => base ≤ q) s.heap H locs) (kk : sh_K G p l e R s m args below meth c cells slots Q k D dT ad base H0 r) : W p l e R s m args below meth c H locs cells slots Q (F0 m pc ls (st.map (sh_v ad))) := by
  unfold sh_ld at h1
  split at h1
  · rename_i v hv
    split at h1
    · rename_i hw
      cases h1
      exact row v hw (hl.2.2 _ (sh_lv_mem hv)) (kk ls H locs hl hW hS)
    · cases h1
  · cases h1
theorem sh_ost1 (want : Value → Bool) {i n : Nat} (row : ∀ (v : Value) (rest : List Value), want v = true → i < sh_L G k → (∀ ls2 : Array Slot, lv_has ls2 (sh_L G k) (sh_lv ad (sh_st1 i v lv)) → W p l e R s m args below meth c H locs cells slots Q (F0 m (pc + n) ls2 (rest.map (sh_v ad)))) → W p l e R s m args below meth c H locs cells slots Q (F0 m pc ls (sh_v ad v :: rest.map (sh_v ad)))) (h1 : sh_sto1 want i n (sh_L G k) pc lv st h = some r) (hl : lv_has ls (sh_L G k) (sh_lv ad lv)) (hW : sh_W G D dT ad base H0 h H) (hS : va_S (fun q => base ≤ q) s.heap H locs) (kk : sh_K G p l e R s m args below meth c cells slots Q k D dT ad base H0 r) : W p l e R s m args below meth c H locs cells slots Q (F0 m pc ls (st.map (sh_v ad))) := by
  unfold sh_sto1 at h1
  split at h1
  · rename_i v rest
    split at h1
    · rename_i hw
      cases h1
      exact row v rest hw.1 hw.2 (fun ls2 hl2 => kk ls2 H locs hl2 hW hS)
    · cases h1
  · cases h1
theorem sh_ost2 (want : Value → Bool) {i n : Nat} (row : ∀ (v : Value) (rest : List Value), want v = true → i + 1 < sh_L G k → (∀ ls2 : Array Slot, lv_has ls2 (sh_L G k) (sh_lv ad (sh_st2 i v lv)) → W p l e R s m args below meth c H locs cells slots Q (F0 m (pc + n) ls2 (rest.map (sh_v ad)))) → W p l e R s m args below meth c H locs cells slots Q (F0 m pc ls (sh_v ad v :: rest.map (sh_v ad)))) (h1 : sh_sto2 want i n (sh_L G k) pc lv st h = some r) (hl : lv_has ls (sh_L G k) (sh_lv ad lv)) (hW : sh_W G D dT ad base H0 h H) (hS : va_S (fun q => base ≤ q) s.heap H locs) (kk : sh_K G p l e R s m args below meth c cells slots Q k D dT ad base H0 r) : W p l e R s m args below meth c H locs cells slots Q (F0 m pc ls (st.map (sh_v ad))) := by
  unfold sh_sto2 at h1
  split at h1
  · rename_i v rest
    split at h1
    · rename_i hw
      cases h1
      exact row v rest hw.1 hw.2 (fun ls2 hl2 => kk ls2 H locs hl2 hW hS)
    · cases h1
  · cases h1
theorem sh_obr {b : Bool} {off : Int} {st2 : List Value} (row : ∀ tgt : Nat, (pc : Int) + off = (tgt : Int) → (b = true → W p l e R s m args below meth c H locs cells slots Q (F0 m tgt ls (st2.map (sh_v ad)))) → (b = false → W p l e R s m args below meth c H locs cells slots Q (F0 m (pc + 3) ls (st2.map (sh_v ad)))) → W p l e R s m args below meth c H locs cells slots Q (F0 m pc ls (st.map (sh_v ad)))) (h1 : sh_br b pc off lv st2 h = some r) (hl : lv_has ls (sh_L G k) (sh_lv ad lv)) (hW : sh_W G D dT ad base H0 h H) (hS : va_S (fun q => base ≤ q) s.heap H locs) (kk : sh_K G p l e R s m args below meth c cells slots Q k D dT ad base H0 r) : W p l e R s m args below meth c H locs cells slots Q (F0 m pc ls (st.map (sh_v ad))) := by
  unfold sh_br at h1
  split at h1
  · cases h1
  · rename_i t ht
    cases h1
    refine row t (sh_go_ok ht) (fun hb => ?_) (fun hb => ?_)
    · subst hb
      exact kk ls H locs hl hW hS
    · subst hb
      exact kk ls H locs hl hW hS
theorem sh_set {a : Nat} {e0 e1 : sh_E} {H1 : Heap} (had : ∀ j, j < 1000000 → ad (j + 1) = base + j) (hW : sh_W G D dT ad base H0 h H) (ha : h[a]? = some e0) (hz : H1.size = H.size) (ho : ∀ q, q ≠ ad (a + 1) → H1[q]? = H[q]?) (he : va_at D (sh_cl G) (ad (a + 1), sh_e dT ad e1) H1) : sh_W G D dT ad base H0 (h.set a e1) H1 := by
  obtain ⟨w1, w2, w3, w4⟩ := hW
  have hal := (List.getElem?_eq_some_iff.mp ha).1
  refine ⟨by rw [List.length_set, hz]; exact w1, by rw [List.length_set]; exact w2, fun q hq => ?_, ?_⟩
  · rw [ho q (by rw [had a (by omega)]; omega)]
    exact w3 q hq
  · rw [← sh_ws_set]
    exact w4.set (sh_D had w2) (sh_ws_at ha) he ho
theorem sh_setS {a i : Nat} {e0 : sh_E} {H1 : Heap} (had : ∀ j, j < 1000000 → ad (j + 1) = base + j) (hW : sh_W G D dT ad base H0 h H) (hS : va_S (fun q => base ≤ q) s.heap H locs) (ha : h[a]? = some e0) (hz : H1.size = H.size) (ho : ∀ q, q ≠ ad (a + 1) → H1[q]? = H[q]?) : va_S (fun q => base ≤ q) s.heap H1 (locs ++ [⟨ad (a + 1), i⟩]) := by
  have hal := (List.getElem?_eq_some_iff.mp ha).1
  have hw2 := hW.2.1
  exact hS.put hz ho (by show base ≤ ad (a + 1); rw [had a (by omega)]; omega)
theorem sh_oget (ok : sh_ok G) (C : sh_C G p s m args meth c k D dT ad base H0 sc) {idx : Nat} (hdg : decode (sh_B G k) pc = .ok (.getfield idx, 3)) (h1 : sh_get G k idx pc lv st h = some r) (hl : lv_has ls (sh_L G k) (sh_lv ad lv)) (hW : sh_W G D dT ad base H0 h H) (hS : va_S (fun q => base ≤ q) s.heap H locs) (kk : sh_K G p l e R s m args below meth c cells slots Q k D dT ad base H0 r) : W p l e R s m args below meth c H locs cells slots Q (F0 m pc ls (st.map (sh_v ad))) := by
  obtain ⟨hx, hb, hml, hr, hown, hts, hK, hlk, hnm, hbs, hold, had, hX, hX0, hhd⟩ := C
  unfold sh_get at h1
  split at h1
  · rename_i a r0
    split at h1
    · rename_i ci f ty fin cj fs hF ha
      split at h1
      · rename_i hc
        subst hc
        split at h1
        · rename_i v hv
          cases h1
          obtain ⟨Cn, T, N, hcl, hf, hlink, -, -, -⟩ := ok.2.1 k idx _ _ _ _ hF
          exact va_get (D := D) (ref := (T f).1) hx hb hts (ok.1 _ _ _ _ hcl).1 hown hK hW.2.2.2 a (sh_ws_at ha) hcl f hf (hts _ hlink) (fun _ h9 => h9) (v := sh_v ad v) (by rw [List.getElem?_map, hv]; rfl) hdg (kk ls H locs hl hW hS)
        · cases h1
      · cases h1
    · cases h1
  · cases h1
theorem sh_oput (ok : sh_ok G) (C : sh_C G p s m args meth c k D dT ad base H0 sc) {idx : Nat} (hdg : decode (sh_B G k) pc = .ok (.putfield idx, 3)) (h1 : sh_put G k idx pc lv st h = some r) (hl : lv_has ls (sh_L G k) (sh_lv ad lv)) (hW : sh_W G D dT ad base H0 h H) (hS : va_S (fun q => base ≤ q) s.heap H locs) (kk : sh_K G p l e R s m args below meth c cells slots Q k D dT ad base H0 r) : W p l e R s m args below meth c H locs cells slots Q (F0 m pc ls (st.map (sh_v ad))) := by
  obtain ⟨hx, hb, hml, hr, hown, hts, hK, hlk, hnm, hbs, hold, had, hX, hX0, hhd⟩ := C
  unfold sh_put at h1
  split at h1
  · rename_i v a r0
    split at h1
    · rename_i ci f ty fin cj fs hF ha
      split at h1
      · rename_i hc
        obtain ⟨rfl, hfl, hfit, hfin⟩ := hc
        cases h1
        obtain ⟨Cn, T, N, hcl, hf, hlink, hty, hfi, hdecl⟩ := ok.2.1 k idx _ _ _ _ hF
        obtain ⟨hin, hapn, hsome⟩ := ok.1 _ _ _ _ hcl
        obtain ⟨hnar, hfits⟩ := sh_fit_ok ad hfit
        have hap := va_apart (own := sh_O G k) hts hin (fun j => (parseFieldDescriptor (T j).2.2.1).getD .int) (fun j hj => by
          obtain ⟨z, hz⟩ := Option.isSome_iff_exists.mp (hsome j hj)
          rw [hz]; rfl) hapn hK hcl
        obtain ⟨rr, g1, cell, q1, q2, q3, q4⟩ := hW.2.2.2 a _ (sh_ws_at ha)
        have hrr : rr = (Cn, T, N) := Option.some.inj (g1.symm.trans hcl)
        subst hrr
        obtain ⟨hSl, hfc, kC, hkC, hkind⟩ := hK.1 ci _ hcl
        obtain ⟨cf, kf, fi, fd, hi, hsl⟩ := hSl f hf
        have hst := (u_facts hfc hkC (u_lays hts hin hf) hi).1
        have hlay := hts _ (hin _ (u_in_lay hf))
        unfold u_lay at hlay
        have hset : ∀ H1 : Heap, H1[ad (a + 1)]? = some (cell.setSlot fd.slot (sh_v ad v)) → va_at D (sh_cl G) (ad (a + 1), sh_e dT ad (.inr (ci, fs.set f v))) H1 := by
          intro H1 e1
          rw [hsl] at e1
          refine ⟨_, hcl, t_OB.to (V := updV (vp_V (fs.map (sh_v ad))) f (sh_v ad v)) ⟨_, e1, q2, q3, t_set q4 hap hf _⟩ (fun j _ => ?_)⟩
          show updV (vp_V (fs.map (sh_v ad))) f (sh_v ad v) j = vp_V ((fs.set f v).map (sh_v ad)) j
          rw [List.map_set]
          exact vp_updV_set (by rw [List.length_map]; exact hfl) _ j
        cases fin with
        | false =>
          rw [if_neg (by rw [hfi]; decide)] at hlay
          refine W.putK hx hb (f := fd) ⟨hown, hts _ hlink, ⟨_, _, _, hi⟩, hst⟩ (by rw [q2]; exact u_store hfc hkC hkind hlay hi hty hnar hfits) q1 q3 (by rw [hsl]; exact k2_hasslot (q4 f hf)) rfl rfl hdg fun H1 e1 e2 e3 => ?_
          exact kk ls H1 _ hl (sh_set had hW ha e2 e3 (hset H1 e1)) (sh_setS had hW hS ha e2 e3)
        | true =>
          rw [if_pos hfi] at hlay
          have hcf : m.cls = cf := by
            obtain ⟨_, _, c', _, _, _, -, -, hf', -, -, -, hown2, -⟩ := Cond.laysFinal_spec hlay
            have e1 : c' = cf := by have := hi.symm.trans hf'; simp at this; exact this.1.symm
            have hCn : Cn = sh_O G k := by
              have h9 := (hfin rfl).2
              rw [hcl] at h9
              exact Option.some.inj h9
            rw [hdecl, hCn] at hown2
            rw [← e1]; exact Option.some.inj (hown.symm.trans hown2)
          refine W.putFinK hx hb hown (hts _ hlink) hi hst hcf (hnm.trans (hfin rfl).1) (by rw [q2]; exact u_fits hfc hkC hkind (Or.inr hlay) hi hty hnar hfits) q1 q3 (by rw [hsl]; exact k2_hasslot (q4 f hf)) rfl rfl hdg fun H1 e1 e2 e3 => ?_
          exact kk ls H1 _ hl (sh_set had hW ha e2 e3 (hset H1 e1)) (sh_setS had hW hS ha e2 e3)
      · cases h1
    · cases h1
  · cases h1
theorem sh_oiald (C : sh_C G p s m args meth c k D dT ad base H0 sc) (hdg : decode (sh_B G k) pc = .ok (.iaload, 1)) (h1 : sh_ald [0] pc lv st h = some r) (hl : lv_has ls (sh_L G k) (sh_lv ad lv)) (hW : sh_W G D dT ad base H0 h H) (hS : va_S (fun q => base ≤ q) s.heap H locs) (kk : sh_K G p l e R s m args below meth c cells slots Q k D dT ad base H0 r) : W p l e R s m args below meth c H locs cells slots Q (F0 m pc ls (st.map (sh_v ad))) := by
  obtain ⟨hx, hb, hml, hr, hown, hts, hK, hlk, hnm, hbs, hold, had, hX, hX0, hhd⟩ := C
  unfold sh_ald at h1
  split at h1
  · rename_i i a r0
    split at h1
    · rename_i t n f ha
      split at h1
      · rename_i hc
        have hin : vp_in i n := (by
        show ¬ (i < 0 ∨ n ≤ i.toNatClampNeg)
        intro hq
        simp only [Bool.and_eq_true, Bool.not_eq_true', Bool.or_eq_false_iff, decide_eq_false_iff_not, decide_eq_true_eq] at hc
        rcases hq with hq | hq
        · exact hc.2.1 hq
        · exact hc.2.2 hq)
        have hmem : t ∈ [0] := by
          simp only [Bool.and_eq_true, decide_eq_true_eq] at hc
          exact hc.1
        cases h1
        have ht : t = 0 := by simpa using hmem
        subst ht
        exact va_iald hx hb hK hW.2.2.2 a 0 (sh_ws_at ha) rfl hin hdg (kk ls H locs hl hW hS)
      · cases h1
    · cases h1
  · cases h1
theorem sh_obald (C : sh_C G p s m args meth c k D dT ad base H0 sc) (hdg : decode (sh_B G k) pc = .ok (.baload, 1)) (h1 : sh_ald [1, 3] pc lv st h = some r) (hl : lv_has ls (sh_L G k) (sh_lv ad lv)) (hW : sh_W G D dT ad base H0 h H) (hS : va_S (fun q => base ≤ q) s.heap H locs) (kk : sh_K G p l e R s m args below meth c cells slots Q k D dT ad base H0 r) : W p l e R s m args below meth c H locs cells slots Q (F0 m pc ls (st.map (sh_v ad))) := by
  obtain ⟨hx, hb, hml, hr, hown, hts, hK, hlk, hnm, hbs, hold, had, hX, hX0, hhd⟩ := C
  unfold sh_ald at h1
  split at h1
  · rename_i i a r0
    split at h1
    · rename_i t n f ha
      split at h1
      · rename_i hc
        have hin : vp_in i n := (by
        show ¬ (i < 0 ∨ n ≤ i.toNatClampNeg)
        intro hq
        simp only [Bool.and_eq_true, Bool.not_eq_true', Bool.or_eq_false_iff, decide_eq_false_iff_not, decide_eq_true_eq] at hc
        rcases hq with hq | hq
        · exact hc.2.1 hq
        · exact hc.2.2 hq)
        have hmem : t ∈ [1, 3] := by
          simp only [Bool.and_eq_true, decide_eq_true_eq] at hc
          exact hc.1
        cases h1
        have ht : t = 1 ∨ t = 3 := by simpa using hmem
        rcases ht with rfl | rfl
        · exact va_bald hx hb hK hW.2.2.2 a 1 (sh_ws_at ha) rfl hin hdg (kk ls H locs hl hW hS)
        · exact va_zald hx hb hK hW.2.2.2 a 3 (sh_ws_at ha) rfl hin hdg (kk ls H locs hl hW hS)
      · cases h1
    · cases h1
  · cases h1
theorem sh_olald (C : sh_C G p s m args meth c k D dT ad base H0 sc) (hdg : decode (sh_B G k) pc = .ok (.laload, 1)) (h1 : sh_lald pc lv st h = some r) (hl : lv_has ls (sh_L G k) (sh_lv ad lv)) (hW : sh_W G D dT ad base H0 h H) (hS : va_S (fun q => base ≤ q) s.heap H locs) (kk : sh_K G p l e R s m args below meth c cells slots Q k D dT ad base H0 r) : W p l e R s m args below meth c H locs cells slots Q (F0 m pc ls (st.map (sh_v ad))) := by
  obtain ⟨hx, hb, hml, hr, hown, hts, hK, hlk, hnm, hbs, hold, had, hX, hX0, hhd⟩ := C
  unfold sh_lald at h1
  split at h1
  · rename_i i a r0
    split at h1
    · rename_i t n f ha
      split at h1
      · rename_i hc
        have hin : vp_in i n := (by
        show ¬ (i < 0 ∨ n ≤ i.toNatClampNeg)
        intro hq
        simp only [Bool.and_eq_true, Bool.not_eq_true', Bool.or_eq_false_iff, decide_eq_false_iff_not, decide_eq_true_eq] at hc
        rcases hq with hq | hq
        · exact hc.2.1 hq
        · exact hc.2.2 hq)
        have ht : t = 2 := by
          simp only [Bool.and_eq_true, decide_eq_true_eq] at hc
          exact hc.1
        cases h1
        subst ht
        exact va_lald hx hb hK hW.2.2.2 a 2 (sh_ws_at ha) rfl hin hdg (kk ls H locs hl hW hS)
      · cases h1
    · cases h1
  · cases h1
theorem sh_upV {cA : ClassId} {n j : Nat} {f : Nat → Int32} {x y : Int32} (hxy : x = y) : (vp_cell cA (n, .inl f)).setSlot j (.int x) = vp_cell cA (n, .inl (upd f j y)) := by
  subst hxy
  rw [vp_cell_i, vp_cell_i, arrV_store]
  congr 2
  funext q
  by_cases hq : q = j
  · subst hq; simp [updV, upd]
  · simp [updV, upd, hq]
theorem sh_upL {cA : ClassId} {n j : Nat} {f : Nat → Int64} {x : Int64} : (vp_cell cA (n, .inr (.inl f))).setSlot j (.long x) = vp_cell cA (n, .inr (.inl (vp_updL f j x))) := by
  rw [vp_cell_l, vp_cell_l, arrV_store]
  congr 2
  funext q
  by_cases hq : q = j
  · subst hq; simp [updV, vp_updL]
  · simp [updV, vp_updL, hq]
theorem sh_oiast (C : sh_C G p s m args meth c k D dT ad base H0 sc) (hdg : decode (sh_B G k) pc = .ok (.iastore, 1)) (h1 : sh_ast 0 (fun x => x) pc lv st h = some r) (hl : lv_has ls (sh_L G k) (sh_lv ad lv)) (hW : sh_W G D dT ad base H0 h H) (hS : va_S (fun q => base ≤ q) s.heap H locs) (kk : sh_K G p l e R s m args below meth c cells slots Q k D dT ad base H0 r) : W p l e R s m args below meth c H locs cells slots Q (F0 m pc ls (st.map (sh_v ad))) := by
  obtain ⟨hx, hb, hml, hr, hown, hts, hK, hlk, hnm, hbs, hold, had, hX, hX0, hhd⟩ := C
  unfold sh_ast at h1
  split at h1
  · rename_i x i a r0
    split at h1
    · rename_i t n f ha
      split at h1
      · rename_i hc
        have hin : vp_in i n := (by
        show ¬ (i < 0 ∨ n ≤ i.toNatClampNeg)
        intro hq
        simp only [Bool.and_eq_true, Bool.not_eq_true', Bool.or_eq_false_iff, decide_eq_false_iff_not, decide_eq_true_eq] at hc
        rcases hq with hq | hq
        · exact hc.2.1 hq
        · exact hc.2.2 hq)
        have ht : t = 0 := by
          simp only [Bool.and_eq_true, decide_eq_true_eq] at hc
          exact hc.1
        cases h1
        subst ht
        have hcell : H[ad (a + 1)]? = some (vp_cell (dT 0) (n, .inl f)) := hW.2.2.2 a _ (sh_ws_at ha)
        refine W.iast hx hb hcell ((hK.2 0 _ rfl).1 n (fun j => .int (f j))) (fun q => by cases q) (by show ¬ (i < 0 ∨ (arrV _ _ _).slots.size ≤ _); rw [arrV_size]; exact hin) rfl rfl hdg fun H1 e1 e2 e3 => ?_
        refine kk ls H1 _ hl (sh_set had hW ha e2 e3 ?_) (sh_setS had hW hS ha e2 e3)
        show H1[ad (a + 1)]? = some (vp_cell (dT 0) (n, .inl (upd f i.toNatClampNeg ((fun x => x) x))))
        rw [e1]
        exact congrArg some (sh_upV rfl)
      · cases h1
    · cases h1
  · cases h1
theorem sh_obast (C : sh_C G p s m args meth c k D dT ad base H0 sc) (hdg : decode (sh_B G k) pc = .ok (.bastore, 1)) (h1 : sh_ast 1 (vp_nar .byte) pc lv st h = some r) (hl : lv_has ls (sh_L G k) (sh_lv ad lv)) (hW : sh_W G D dT ad base H0 h H) (hS : va_S (fun q => base ≤ q) s.heap H locs) (kk : sh_K G p l e R s m args below meth c cells slots Q k D dT ad base H0 r) : W p l e R s m args below meth c H locs cells slots Q (F0 m pc ls (st.map (sh_v ad))) := by
  obtain ⟨hx, hb, hml, hr, hown, hts, hK, hlk, hnm, hbs, hold, had, hX, hX0, hhd⟩ := C
  unfold sh_ast at h1
  split at h1
  · rename_i x i a r0
    split at h1
    · rename_i t n f ha
      split at h1
      · rename_i hc
        have hin : vp_in i n := (by
        show ¬ (i < 0 ∨ n ≤ i.toNatClampNeg)
        intro hq
        simp only [Bool.and_eq_true, Bool.not_eq_true', Bool.or_eq_false_iff, decide_eq_false_iff_not, decide_eq_true_eq] at hc
        rcases hq with hq | hq
        · exact hc.2.1 hq
        · exact hc.2.2 hq)
        have ht : t = 1 := by
          simp only [Bool.and_eq_true, decide_eq_true_eq] at hc
          exact hc.1
        cases h1
        subst ht
        have hcell : H[ad (a + 1)]? = some (vp_cell (dT 1) (n, .inl f)) := hW.2.2.2 a _ (sh_ws_at ha)
        refine W.bast hx hb hcell ((hK.2 1 _ rfl).1 n (fun j => .int (f j))) (fun q => by cases q) (by show ¬ (i < 0 ∨ (arrV _ _ _).slots.size ≤ _); rw [arrV_size]; exact hin) rfl rfl hdg fun H1 e1 e2 e3 => ?_
        refine kk ls H1 _ hl (sh_set had hW ha e2 e3 ?_) (sh_setS had hW hS ha e2 e3)
        show H1[ad (a + 1)]? = some (vp_cell (dT 1) (n, .inl (upd f i.toNatClampNeg ((vp_nar .byte) x))))
        rw [e1]
        exact congrArg some (sh_upV rfl)
      · cases h1
    · cases h1
  · cases h1
theorem sh_ozast (C : sh_C G p s m args meth c k D dT ad base H0 sc) (hdg : decode (sh_B G k) pc = .ok (.bastore, 1)) (h1 : sh_ast 3 (vp_nar .boolean) pc lv st h = some r) (hl : lv_has ls (sh_L G k) (sh_lv ad lv)) (hW : sh_W G D dT ad base H0 h H) (hS : va_S (fun q => base ≤ q) s.heap H locs) (kk : sh_K G p l e R s m args below meth c cells slots Q k D dT ad base H0 r) : W p l e R s m args below meth c H locs cells slots Q (F0 m pc ls (st.map (sh_v ad))) := by
  obtain ⟨hx, hb, hml, hr, hown, hts, hK, hlk, hnm, hbs, hold, had, hX, hX0, hhd⟩ := C
  unfold sh_ast at h1
  split at h1
  · rename_i x i a r0
    split at h1
    · rename_i t n f ha
      split at h1
      · rename_i hc
        have hin : vp_in i n := (by
        show ¬ (i < 0 ∨ n ≤ i.toNatClampNeg)
        intro hq
        simp only [Bool.and_eq_true, Bool.not_eq_true', Bool.or_eq_false_iff, decide_eq_false_iff_not, decide_eq_true_eq] at hc
        rcases hq with hq | hq
        · exact hc.2.1 hq
        · exact hc.2.2 hq)
        have ht : t = 3 := by
          simp only [Bool.and_eq_true, decide_eq_true_eq] at hc
          exact hc.1
        cases h1
        subst ht
        have hcell : H[ad (a + 1)]? = some (vp_cell (dT 3) (n, .inl f)) := hW.2.2.2 a _ (sh_ws_at ha)
        refine W.zast hx hb hcell ((hK.2 3 _ rfl).1 n (fun j => .int (f j))) (fun q => by cases q) (by show ¬ (i < 0 ∨ (arrV _ _ _).slots.size ≤ _); rw [arrV_size]; exact hin) rfl rfl hdg fun H1 e1 e2 e3 => ?_
        refine kk ls H1 _ hl (sh_set had hW ha e2 e3 ?_) (sh_setS had hW hS ha e2 e3)
        show H1[ad (a + 1)]? = some (vp_cell (dT 3) (n, .inl (upd f i.toNatClampNeg ((vp_nar .boolean) x))))
        rw [e1]
        exact congrArg some (sh_upV rfl)
      · cases h1
    · cases h1
  · cases h1
theorem sh_olast (C : sh_C G p s m args meth c k D dT ad base H0 sc) (hdg : decode (sh_B G k) pc = .ok (.lastore, 1)) (h1 : sh_last pc lv st h = some r) (hl : lv_has ls (sh_L G k) (sh_lv ad lv)) (hW : sh_W G D dT ad base H0 h H) (hS : va_S (fun q => base ≤ q) s.heap H locs) (kk : sh_K G p l e R s m args below meth c cells slots Q k D dT ad base H0 r) : W p l e R s m args below meth c H locs cells slots Q (F0 m pc ls (st.map (sh_v ad))) := by
  obtain ⟨hx, hb, hml, hr, hown, hts, hK, hlk, hnm, hbs, hold, had, hX, hX0, hhd⟩ := C
  unfold sh_last at h1
  split at h1
  · rename_i x i a r0
    split at h1
    · rename_i t n f ha
      split at h1
      · rename_i hc
        have hin : vp_in i n := (by
        show ¬ (i < 0 ∨ n ≤ i.toNatClampNeg)
        intro hq
        simp only [Bool.and_eq_true, Bool.not_eq_true', Bool.or_eq_false_iff, decide_eq_false_iff_not, decide_eq_true_eq] at hc
        rcases hq with hq | hq
        · exact hc.2.1 hq
        · exact hc.2.2 hq)
        have ht : t = 2 := by
          simp only [Bool.and_eq_true, decide_eq_true_eq] at hc
          exact hc.1
        cases h1
        subst ht
        have hcell : H[ad (a + 1)]? = some (vp_cell (dT 2) (n, .inr (.inl f))) := hW.2.2.2 a _ (sh_ws_at ha)
        refine W.last hx hb hcell ((hK.2 2 _ rfl).1 n (fun j => .long (f j))) (fun q => by cases q) (by show ¬ (i < 0 ∨ (arrV _ _ _).slots.size ≤ _); rw [arrV_size]; exact hin) rfl rfl hdg fun H1 e1 e2 e3 => ?_
        refine kk ls H1 _ hl (sh_set had hW ha e2 e3 ?_) (sh_setS had hW hS ha e2 e3)
        show H1[ad (a + 1)]? = some (vp_cell (dT 2) (n, .inr (.inl (vp_updL f i.toNatClampNeg x))))
        rw [e1]
        exact congrArg some sh_upL
      · cases h1
    · cases h1
  · cases h1
end Sound
