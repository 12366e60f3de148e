/-! one instruction, gone on: what is new; then every instruction -/
section Sound2
variable {G : sh_G} {p : Program} {l : Launch} {e : Env} {R : Room} {s : State} {m : MethodId} {args : Array Value} {below : List Frame} {meth : Method} {c : Code} {H : Heap} {locs : List Loc} {cells slots : Nat} {Q : State → Prop} {k : Nat} {D : va_G} {dT : Nat → ClassId} {ad : Nat → Nat} {base : Nat} {H0 : Heap} {sc : sh_S} {pc : Nat} {ls : Array Slot} {lv : sh_Ls} {st : List Value} {h : sh_H} {r : sh_N}
theorem sh_push {e1 : sh_E} {H1 : Heap} (had : ∀ j, j < 1000000 → ad (j + 1) = base + j) (hlt : h.length < 1000000) (hW : sh_W G D dT ad base H0 h H) (hz : H1.size = ad (h.length + 1) + 1) (ho : ∀ q, q < ad (h.length + 1) → H1[q]? = H[q]?) (he : va_at D (sh_cl G) (ad (h.length + 1), sh_e dT ad e1) H1) : sh_W G D dT ad base H0 (h ++ [e1]) H1 := by
  obtain ⟨w1, w2, w3, w4⟩ := hW
  have ha := had _ hlt
  refine ⟨by rw [List.length_append, hz, ha]; simp; omega, by rw [List.length_append]; simp; omega, fun q hq => ?_, ?_⟩
  · rw [ho q (by omega)]
    exact w3 q hq
  · rw [sh_ws_push]
    refine va_P.app (w4.kept (fun j x hx => ho x.1 ?_)) (fun j x hx => ?_)
    · have := (w4 j x hx).lt
      omega
    · have hz : j < 1 := (List.getElem?_eq_some_iff.mp hx).1
      rw [show j = 0 by omega] at hx
      cases hx
      exact he
theorem sh_pushS {H1 : Heap} (had : ∀ j, j < 1000000 → ad (j + 1) = base + j) (hlt : h.length < 1000000) (hW : sh_W G D dT ad base H0 h H) (hS : va_S (fun q => base ≤ q) s.heap H locs) (hz : H1.size = ad (h.length + 1) + 1) (ho : ∀ q, q < ad (h.length + 1) → H1[q]? = H[q]?) : va_S (fun q => base ≤ q) s.heap H1 locs := by
  have ha := had _ hlt
  have hw := hW.1
  refine ⟨Nat.le_trans hS.1 (by omega), fun x h1 h2 => ?_, hS.2.2⟩
  have h3 := hS.1
  exact (ho x (by omega)).trans (hS.2.1 x h1 h2)
theorem sh_mapid {fs : List Value} (h : ∀ v ∈ fs, ∀ ad : Nat → Nat, sh_v ad v = v) (ad : Nat → Nat) : fs.map (sh_v ad) = fs := by
  induction fs with
  | nil => rfl
  | cons v r ih => rw [List.map_cons, h v List.mem_cons_self, ih (fun w hw => h w (List.mem_cons_of_mem _ hw))]
theorem sh_ldcString {T : State} (X : Stand p l e R s m args below meth c T locs cells slots) (hexec : p.tables.exec = Jvm.exec) {own text : String} {index : Nat} {a : Addr} (hown : s.vm.findClass own = some m.cls)
    (hconst : (Cond.stringRef own index text).before args s = true) (hev : (Term.string own index).eval args s none [] s = some (.ref a)) {g : JFrame} (hg : g.method = m) (hdg : decode c.code g.pc = .ok (.ldc_w index, 3)) :
    ∀ target, Steps p.tables e below (T.setTop { g with pc := g.pc + 3, stack := .ref a :: g.stack }) target → Steps p.tables e below (T.setTop g) target := by
  obtain ⟨k, cf, i, a', hk, hcf, hcp, -, hr, hev'⟩ := Cond.stringRef_spec hown hconst
  cases hev.symm.trans hev'
  obtain ⟨k', hk', he⟩ := X.warmed.alike.2.2 _ _ hk
  have hr' : k'.resolved[index]? = some (some (.string a)) := by
    rcases X.warmed.entry hk hk' index with h | ⟨h, -⟩
    · rw [h]; exact hr
    · rw [hr] at h; cases h
  intro target hrest
  subst hg
  jvm_step X.here [hexec, hdg, ldc_w.wp_string (e := e) (s := T) (f := g) X.here.top hk' (by rw [he]; exact hcf) hcp hr']
  exact hrest
theorem sh_ldcwS {cc : ByteArray} {rest : List Value} (hexec : p.tables.exec = Jvm.exec) (hb : c.code = cc) {own tx : String} {index q : Nat} (hown : s.vm.findClass own = some m.cls) (hZ : vk_R own index tx q s) (hdg : decode cc pc = .ok (.ldc_w index, 3))
    (k : W p l e R s m args below meth c H locs cells slots Q (F0 m (pc + 3) ls (.ref q :: rest))) : W p l e R s m args below meth c H locs cells slots Q (F0 m pc ls rest) := by
  intro T hT X
  obtain ⟨t, a1, b1⟩ := k T hT X
  exact ⟨t, sh_ldcString X hexec hown (text := tx) (a := q) hZ.1 hZ.2 (g := F0 m pc ls rest) rfl (by rw [hb]; exact hdg) t a1, b1⟩
theorem sh_onew (ok : sh_ok G) (C : sh_C G p s m args meth c k D dT ad base H0 sc) {idx : Nat} (hdg : decode (sh_B G k) pc = .ok (.new idx, 3)) (h1 : sh_one G sc k (.new idx) pc lv st h = some r) (hl : lv_has ls (sh_L G k) (sh_lv ad lv)) (hW : sh_W G D dT ad base H0 h H) (hS : va_S (fun q => base ≤ q) s.heap H locs) (hcs : cells + r.2.2.2.2.1 ≤ R.cells) (hss : slots + r.2.2.2.2.2 ≤ R.slots) (kk : sh_K G p l e R s m args below meth c cells slots Q k D dT ad base H0 r) : W p l e R s m args below meth c H locs cells slots Q (F0 m pc ls (st.map (sh_v ad))) := by
  obtain ⟨hx, hb, hml, hr, hown, hts, hK, hlk, hnm, hbs, hold, had, hX, hX0, hhd⟩ := C
  unfold sh_one at h1
  dsimp only at h1
  split at h1
  · rename_i ci n fs hN
    split at h1
    · rename_i hlt
      cases h1
      obtain ⟨Cn, T, N, hcl, hlink, hinst, hini, hdef, hno⟩ := ok.2.2.1 k idx _ _ _ hN
      obtain ⟨hin, -, hsome⟩ := ok.1 _ _ _ _ hcl
      have hKn := hK.1 ci _ hcl
      have hsz : H.size = ad (h.length + 1) := by rw [had _ hlt]; exact hW.1
      refine W.newcK hx hb hown (hts _ hlink) (hts _ hinst) (hts _ hini) rfl hdg hcs hss hKn.2.1 hsz fun H1 kC hkC e1 z1 o1 => ?_
      refine kk ls H1 locs hl (sh_push had hlt hW z1 (fun q hq => o1 q hq) ?_) (sh_pushS had hlt hW hS z1 (fun q hq => o1 q hq))
      refine ⟨_, hcl, (u_born (fun j => (parseFieldDescriptor (T j).2.2.1).getD .int) hts hin hKn hkC e1 (fun j hj => ?_)).to (fun j hj => ?_)⟩
      · obtain ⟨z, hz⟩ := Option.isSome_iff_exists.mp (hsome j hj)
        rw [hz]; rfl
      · have h2 := hdef j hj
        obtain ⟨z, hz⟩ := Option.isSome_iff_exists.mp (hsome j hj)
        show defaultValue ((parseFieldDescriptor (T j).2.2.1).getD .int) = vp_V (fs.map (sh_v ad)) j
        rw [hz] at h2 ⊢
        rw [sh_mapid hno]
        exact Option.some.inj h2
    · cases h1
  · cases h1
theorem sh_onewa (ok : sh_ok G) (C : sh_C G p s m args meth c k D dT ad base H0 sc) {at0 : ArrayType} (hdg : decode (sh_B G k) pc = .ok (.newarray at0, 2)) (h1 : sh_one G sc k (.newarray at0) pc lv st h = some r) (hl : lv_has ls (sh_L G k) (sh_lv ad lv)) (hW : sh_W G D dT ad base H0 h H) (hS : va_S (fun q => base ≤ q) s.heap H locs) (hcs : cells + r.2.2.2.2.1 ≤ R.cells) (hss : slots + r.2.2.2.2.2 ≤ R.slots) (kk : sh_K G p l e R s m args below meth c cells slots Q k D dT ad base H0 r) : W p l e R s m args below meth c H locs cells slots Q (F0 m pc ls (st.map (sh_v ad))) := by
  obtain ⟨hx, hb, hml, hr, hown, hts, hK, hlk, hnm, hbs, hold, had, hX, hX0, hhd⟩ := C
  unfold sh_one at h1
  dsimp only at h1
  split at h1
  · rename_i n r0
    split at h1
    · rename_i t ht
      split at h1
      · rename_i hc
        obtain ⟨hn0, hn1, hlt⟩ := hc
        cases h1
        have hsz : H.size = ad (h.length + 1) := by rw [had _ hlt]; exact hW.1
        have hty : newarray.typeOf at0 = sh_ty t ∧ t < 4 ∧ (sh_tys dT)[t]? = some (dT t, sh_ty t) ∧ componentBytes (newarray.typeOf at0) ≤ 8 ∧ (∀ cA : ClassId, vp_cell cA (sh_new0 t n.toNatClampNeg) = arrV cA n.toNatClampNeg (fun _ => defaultValue (newarray.typeOf at0))) := by
          cases at0 <;> simp only [sh_tyOf, Option.some.injEq, reduceCtorEq] at ht <;> subst ht <;> exact ⟨rfl, by decide, rfl, by decide, fun _ => rfl⟩
        obtain ⟨ht1, ht5, htt, hcb, hcell⟩ := hty
        refine va_newaK hx hb (by rw [ht1]; exact hts _ (ok.2.2.2.2.2.1 t ht5)) rfl hdg rfl hn0 rfl (Nat.le_trans (Nat.mul_le_mul hn1 hcb) (by decide)) hcs hss hsz fun H1 cA e1 z1 o1 hAr hNm => ?_
        have hcA : cA = dT t := by
          have h2 := (hK.2 t _ htt).2
          have h3 : s.vm.findClass ("[" ++ (sh_ty t).toString) = some (dT t) := by
            clear hcell htt
            match t, ht5 with
            | 0, _ => exact h2
            | 1, _ => exact h2
            | 2, _ => exact h2
            | 3, _ => exact h2
          rw [ht1] at hNm
          exact Option.some.inj (hNm.symm.trans h3)
        subst hcA
        refine kk ls H1 locs hl (sh_push had hlt hW z1 o1 ?_) (sh_pushS had hlt hW hS z1 o1)
        show H1[ad (h.length + 1)]? = some (vp_cell (dT t) (sh_new0 t n.toNatClampNeg))
        rw [hcell]
        exact e1
      · cases h1
    · cases h1
  · cases h1
theorem sh_Xs (C : sh_C G p s m args meth c k D dT ad base H0 sc) {L : Nat} {xs : Nat → Int32} (hsc : sc.1 = some (L, xs)) : va_X (ad 0) L xs s s.heap ∧ ad 0 < s.heap.size ∧ ¬ base ≤ ad 0 := by
  obtain ⟨hx, hb, hml, hr, hown, hts, hK, hlk, hnm, hbs, hold, had, hX, hX0, hhd⟩ := C
  obtain ⟨scr, z1, z2⟩ := hX.1 L xs hsc
  exact ⟨⟨scr, by rw [hold _ hX0.1]; exact z1, z2⟩, Nat.lt_of_lt_of_le hX0.1 hbs, Nat.not_le.mpr hX0.1⟩
theorem sh_alt_some {x y : Option sh_N} {r : sh_N} (h : sh_alt x y = some r) : x = some r ∨ (x = none ∧ y = some r) := by
  cases x with
  | none => exact Or.inr ⟨rfl, h⟩
  | some q => exact Or.inl h
theorem sh_Txs (C : sh_C G p s m args meth c k D dT ad base H0 sc) : sh_Tx G sc.2 ad (fun q => base ≤ q) s s.heap := by
  obtain ⟨hx, hb, hml, hr, hown, hts, hK, hlk, hnm, hbs, hold, had, hX, hX0, hhd⟩ := C
  exact hX.2.2.2.2.kept (fun a _ ha => hold a (Nat.not_le.mp ha))
theorem sh_isT_of {b q : Nat} (h : sh_isT G b q = true) : b + (q - b) = q ∧ sh_gB G (q - b) ≠ [] := by
  unfold sh_isT at h
  rw [Bool.and_eq_true, decide_eq_true_eq, decide_eq_true_eq] at h
  exact ⟨by omega, h.2⟩
theorem sh_ogetK (ok : sh_ok G) (C : sh_C G p s m args meth c k D dT ad base H0 sc) {idx : Nat} (hdg : decode (sh_B G k) pc = .ok (.getfield idx, 3)) (h1 : sh_getK G k idx pc lv st h = some r) (hl : lv_has ls (sh_L G k) (sh_lv ad lv)) (hW : sh_W G D dT ad base H0 h H) (hS : va_S (fun q => base ≤ q) s.heap H locs) (kk : sh_K G p l e R s m args below meth c cells slots Q k D dT ad base H0 r) : W p l e R s m args below meth c H locs cells slots Q (F0 m pc ls (st.map (sh_v ad))) := by
  have hTx := sh_Txs C
  obtain ⟨hx, hb, hml, hr, hown, hts, hK, hlk, hnm, hbs, hold, had, hX, hX0, hhd⟩ := C
  unfold sh_getK at h1
  split at h1
  · rename_i q r0
    split at h1
    · rename_i hq
      obtain ⟨e1, e2⟩ := sh_isT_of hq
      obtain ⟨t1, t2, t3, t4⟩ := hTx.2.2 _ e2
      rw [e1] at t2 t3
      split at h1
      · rename_i hg
        cases h1
        exact vk_getf hx hb t3 hS hown (hts _ ((ok.2.2.2.2.2.2.2.1 k idx _ hg).1 rfl)) (fun _ h => h) hdg (kk ls H locs hl hW hS)
      · rename_i f hg
        cases h1
        exact vk_getf hx hb t2 hS hown (hts _ ((ok.2.2.2.2.2.2.2.1 k idx _ hg).2 (by omega))) (fun _ h => h) hdg (kk ls H locs hl hW hS)
      · cases h1
    · cases h1
  · cases h1
theorem sh_oalK (C : sh_C G p s m args meth c k D dT ad base H0 sc) (hdg : decode (sh_B G k) pc = .ok (.arraylength, 1)) (h1 : sh_alK G pc lv st h = some r) (hl : lv_has ls (sh_L G k) (sh_lv ad lv)) (hW : sh_W G D dT ad base H0 h H) (hS : va_S (fun q => base ≤ q) s.heap H locs) (kk : sh_K G p l e R s m args below meth c cells slots Q k D dT ad base H0 r) : W p l e R s m args below meth c H locs cells slots Q (F0 m pc ls (st.map (sh_v ad))) := by
  have hTx := sh_Txs C
  obtain ⟨hx, hb, hml, hr, hown, hts, hK, hlk, hnm, hbs, hold, had, hX, hX0, hhd⟩ := C
  unfold sh_alK at h1
  split at h1
  · rename_i q r0
    split at h1
    · rename_i hq
      obtain ⟨e1, e2⟩ := sh_isT_of hq
      obtain ⟨t1, t2, t3, t4⟩ := hTx.2.2 _ e2
      rw [e1] at t4
      cases h1
      exact va_tlen hx hb t4 hS rfl hdg (kk ls H locs hl hW hS)
    · cases h1
  · cases h1
theorem sh_obaK (C : sh_C G p s m args meth c k D dT ad base H0 sc) (hdg : decode (sh_B G k) pc = .ok (.baload, 1)) (h1 : sh_baK G pc lv st h = some r) (hl : lv_has ls (sh_L G k) (sh_lv ad lv)) (hW : sh_W G D dT ad base H0 h H) (hS : va_S (fun q => base ≤ q) s.heap H locs) (kk : sh_K G p l e R s m args below meth c cells slots Q k D dT ad base H0 r) : W p l e R s m args below meth c H locs cells slots Q (F0 m pc ls (st.map (sh_v ad))) := by
  have hTx := sh_Txs C
  obtain ⟨hx, hb, hml, hr, hown, hts, hK, hlk, hnm, hbs, hold, had, hX, hX0, hhd⟩ := C
  unfold sh_baK at h1
  split at h1
  · rename_i i q r0
    split at h1
    · rename_i hq
      obtain ⟨e1, e2⟩ := sh_isT_of hq.1
      obtain ⟨t1, t2, t3, t4⟩ := hTx.2.2 _ e2
      rw [e1] at t4
      cases h1
      exact va_tb hx hb t4 hS hq.2 rfl hdg (kk ls H locs hl hW hS)
    · cases h1
  · cases h1
theorem sh_nnI {z : Int32} (hz : ¬ z < 0) : z.toInt = (z.toNatClampNeg : Int) := by
  rw [Int32.lt_iff_toInt_lt] at hz
  have h0 : (0 : Int) ≤ z.toInt := Int.not_lt.mp hz
  show z.toInt = ((z.toInt.toNat : Nat) : Int)
  omega
theorem sh_ocpK (ok : sh_ok G) (C : sh_C G p s m args meth c k D dT ad base H0 sc) {idx k2 : Nat} (hg : sh_gC G (sh_On G k) idx = some (8, k2)) (hdg : decode (sh_B G k) pc = .ok (.invokestatic idx, 3)) (h1 : sh_cpK pc lv st h = some r) (hl : lv_has ls (sh_L G k) (sh_lv ad lv)) (hW : sh_W G D dT ad base H0 h H) (hS : va_S (fun q => base ≤ q) s.heap H locs) (hfr : 8 ≤ R.frames) (hlo : 200 ≤ R.locals) (kk : sh_K G p l e R s m args below meth c cells slots Q k D dT ad base H0 r) : W p l e R s m args below meth c H locs cells slots Q (F0 m pc ls (st.map (sh_v ad))) := by
  obtain ⟨hx, hb, hml, hr, hown, hts, hK, hlk, hnm, hbs, hold, had, hX, hX0, hhd⟩ := C
  obtain ⟨o1, o2, o3, o4⟩ := ok.2.2.2.2.2.2.2.2.2 k idx k2 hg
  unfold sh_cpK at h1
  split at h1
  · rename_i n dp b sp a r0
    split at h1
    · rename_i t n0 f t2 n1 g ha hb0
      split at h1
      · rename_i hc
        obtain ⟨rfl, ht, c1, c2, c3, c4, c5, c6, c7⟩ := hc
        cases h1
        have htt : (sh_tys dT)[t]? = some (dT t, sh_ty t) ∧ refKind (sh_ty t) = false := by
          rcases ht with rfl | rfl | rfl
          · exact ⟨rfl, rfl⟩
          · exact ⟨rfl, rfl⟩
          · exact ⟨rfl, rfl⟩
        have hca : H[ad (a + 1)]? = some (vp_cell (dT t) (n0, .inl f)) := hW.2.2.2 a _ (sh_ws_at ha)
        have hcb : H[ad (b + 1)]? = some (vp_cell (dT t) (n1, .inl g)) := hW.2.2.2 b _ (sh_ws_at hb0)
        obtain ⟨-, k0, hk0, cm0, hkk0⟩ := (hK.2 t _ htt.1).1 n0 (fun j => .int (f j))
        have hfit : ∀ i, i < n.toNatClampNeg → fits (sh_ty t) (.int (f (sp.toNatClampNeg + i))) = true := fun i hi => List.all_eq_true.mp c6 i (List.mem_range.mpr hi)
        intro T hT X
        have w9 : (((r0.map (sh_v ad)).map fun v => v.category).sum) = (r0.map fun v => v.category).sum := by
          rw [List.map_map]
          congr 1
          apply List.map_congr_left
          intro v _
          exact sh_v_cat ad v
        obtain ⟨vm', X', stp⟩ := X.arraycopy hx hown (hts _ o1) (hts _ o2) (hts _ o3) (hts _ o4) (src := ad (a + 1)) (dst := ad (b + 1)) (cs := vp_cell (dT t) (n0, .inl f)) (cd := vp_cell (dT t) (n1, .inl g)) (srcPos := sp) (destPos := dp) (n := n) (by rw [hT]; exact hca) (by rw [hT]; exact hcb)
          (fun _ h => by cases h) (fun _ h => by cases h) (fun h => by cases h) (fun h => by cases h) hk0 hk0 hkk0 hkk0 (by simp [htt.2]) c1 c2 c3
          (by rw [sh_nnI c1, sh_nnI c3]; show ¬ _ > ((arrV (dT t) n0 (fun j => .int (f j))).slots.size : Int); rw [arrV_size]; omega)
          (by rw [sh_nnI c2, sh_nnI c3]; show ¬ _ > ((arrV (dT t) n1 (fun j => .int (g j))).slots.size : Int); rw [arrV_size]; omega)
          (fun vm₁ _ i hi => by
            have e9 : (vp_cell (dT t) (n0, .inl f)).slots.getD (sp.toNatClampNeg + i) .null = .int (f (sp.toNatClampNeg + i)) := by
              show (arrV (dT t) n0 (fun j => .int (f j))).slots.getD _ _ = _
              rw [Array.getD_eq_getD_getElem?, arrV_read _ _ (by omega)]
              rfl
            rw [e9]
            exact ⟨hfit i hi, trivial⟩)
          (g := F0 m pc ls ((.int n :: .int dp :: .ref (b + 1) :: .int sp :: .ref (a + 1) :: r0 : List Value).map (sh_v ad))) rfl (by rw [hml]; exact hl.1) (rest := r0.map (sh_v ad)) rfl (by rw [hb]; exact hdg) (by omega) (by
            show 2 * 0 + ((r0.map (sh_v ad)).map fun v => v.category).sum + (nativeFrameWords "java/lang/System" "arraycopy" 5 + 11) ≤ _
            rw [w9]
            have : nativeFrameWords "java/lang/System" "arraycopy" 5 = 7 := by decide
            omega)
        have e1 : copied (vp_cell (dT t) (n0, .inl f)) (vp_cell (dT t) (n1, .inl g)) sp dp n = vp_cell (dT t) (n1, .inl (va_cpy f g sp.toNatClampNeg dp.toNatClampNeg n.toNatClampNeg)) := va_copied (fun z => .int z) (dT t) (dT t) f g c4
        rw [e1] at X' stp
        have hlb : ad (b + 1) < H.size := (Array.getElem?_eq_some_iff.mp hcb).1
        have hz : (H.setIfInBounds (ad (b + 1)) (vp_cell (dT t) (n1, .inl (va_cpy f g sp.toNatClampNeg dp.toNatClampNeg n.toNatClampNeg)))).size = H.size := by simp
        have oq : ∀ q : Nat, q ≠ ad (b + 1) → (H.setIfInBounds (ad (b + 1)) (vp_cell (dT t) (n1, .inl (va_cpy f g sp.toNatClampNeg dp.toNatClampNeg n.toNatClampNeg))))[q]? = H[q]? := fun q hq => by simp [Array.getElem?_setIfInBounds, Ne.symm hq]
        have hnew : (H.setIfInBounds (ad (b + 1)) (vp_cell (dT t) (n1, .inl (va_cpy f g sp.toNatClampNeg dp.toNatClampNeg n.toNatClampNeg))))[ad (b + 1)]? = some (vp_cell (dT t) (n1, .inl (va_cpy f g sp.toNatClampNeg dp.toNatClampNeg n.toNatClampNeg))) := by simp [Array.getElem?_setIfInBounds, hlb]
        have hbb : base ≤ ad (b + 1) := by
          have hbl : b < h.length := (List.getElem?_eq_some_iff.mp hb0).1
          rw [had b (Nat.lt_of_lt_of_le hbl hW.2.1)]
          omega
        obtain ⟨t9, a1, b1⟩ := kk ls _ _ hl (sh_set had hW hb0 hz oq hnew) ⟨by rw [hz]; exact hS.1, fun q g1 g2 => by
            rw [oq q (fun e => g2 (by rw [e]; exact hbb))]
            exact hS.2.1 q g1 g2, fun q hq => by
            rcases List.mem_append.mp hq with h9 | h9
            · exact hS.2.2 q h9
            · obtain ⟨z, -, hz9⟩ := List.mem_map.mp h9
              rw [← hz9]
              exact hbb⟩ _ (show _ = H.setIfInBounds _ _ by rw [← hT]; rfl) X'
        exact ⟨t9, stp t9 a1, b1⟩
      · cases h1
    · cases h1
  · cases h1
theorem sh_ogets (ok : sh_ok G) (C : sh_C G p s m args meth c k D dT ad base H0 sc) {idx : Nat} (hdg : decode (sh_B G k) pc = .ok (.getstatic idx, 3)) (h1 : sh_one G sc k (.getstatic idx) pc lv st h = some r) (hl : lv_has ls (sh_L G k) (sh_lv ad lv)) (hW : sh_W G D dT ad base H0 h H) (hS : va_S (fun q => base ≤ q) s.heap H locs) (kk : sh_K G p l e R s m args below meth c cells slots Q k D dT ad base H0 r) : W p l e R s m args below meth c H locs cells slots Q (F0 m pc ls (st.map (sh_v ad))) := by
  have hTx := sh_Txs C
  obtain ⟨hx, hb, hml, hr, hown, hts, hK, hlk, hnm, hbs, hold, had, hX, hX0, hhd⟩ := C
  unfold sh_one at h1
  dsimp only at h1
  split at h1
  · rename_i x hg
    rcases ok.2.2.2.2.2.2.2.2.1 k idx _ hg with ⟨o1, o2⟩ | ⟨o1, o2⟩
    · cases o1
    · split at h1
      · cases h1
        exact va_gets hx hb hTx.2.1 hS hown (hts _ o2) (fun _ h => h) hdg (kk ls H locs hl hW hS)
      · cases h1
  · rename_i v hnr hg
    rcases ok.2.2.2.2.2.2.2.2.1 k idx _ hg with ⟨o1, o2⟩ | ⟨o1, o2⟩
    · cases h1
      subst o1
      exact va_gets hx hb hTx.1 hS hown (hts _ o2) (fun _ h => h) hdg (kk ls H locs hl hW hS)
    · exact absurd hg (fun _ => hnr _ o1)
  · cases h1
theorem sh_oalen (C : sh_C G p s m args meth c k D dT ad base H0 sc) (hdg : decode (sh_B G k) pc = .ok (.arraylength, 1)) (h1 : sh_al0 sc pc lv st h = some r) (hl : lv_has ls (sh_L G k) (sh_lv ad lv)) (hW : sh_W G D dT ad base H0 h H) (hS : va_S (fun q => base ≤ q) s.heap H locs) (kk : sh_K G p l e R s m args below meth c cells slots Q k D dT ad base H0 r) : W p l e R s m args below meth c H locs cells slots Q (F0 m pc ls (st.map (sh_v ad))) := by
  have C0 := C
  obtain ⟨hx, hb, hml, hr, hown, hts, hK, hlk, hnm, hbs, hold, had, hX, hX0, hhd⟩ := C
  unfold sh_al0 at h1
  split at h1
  · split at h1
    · rename_i Ln xs _
      cases h1
      obtain ⟨q1, q2, q3⟩ := sh_Xs C0 (by assumption)
      exact va_slen hx hb q1 q2 (A := fun q => base ≤ q) q3 hS hdg (kk ls H locs hl hW hS)
    · cases h1
  · rename_i a r0
    split at h1
    · rename_i t n f ha
      split at h1
      · rename_i ht
        cases h1
        have htt : (sh_tys dT)[t]? = some (dT t, sh_ty t) := by
          match t, ht with
          | 0, _ => rfl
          | 1, _ => rfl
          | 2, _ => rfl
          | 3, _ => rfl
        exact va_alen hx hb hK hW.2.2.2 a t (sh_ws_at ha) htt rfl hdg (kk ls H locs hl hW hS)
      · cases h1
    · cases h1
  · cases h1
theorem sh_oial (C : sh_C G p s m args meth c k D dT ad base H0 sc) (hdg : decode (sh_B G k) pc = .ok (.iaload, 1)) (h1 : sh_one G sc k .iaload pc lv st h = some r) (hl : lv_has ls (sh_L G k) (sh_lv ad lv)) (hW : sh_W G D dT ad base H0 h H) (hS : va_S (fun q => base ≤ q) s.heap H locs) (kk : sh_K G p l e R s m args below meth c cells slots Q k D dT ad base H0 r) : W p l e R s m args below meth c H locs cells slots Q (F0 m pc ls (st.map (sh_v ad))) := by
  have C0 := C
  obtain ⟨hx, hb, hml, hr, hown, hts, hK, hlk, hnm, hbs, hold, had, hX, hX0, hhd⟩ := C
  unfold sh_one at h1
  dsimp only at h1
  split at h1
  · rename_i i r0
    split at h1
    · rename_i Ln xs _
      split at h1
      · rename_i hc
        cases h1
        obtain ⟨q1, q2, q3⟩ := sh_Xs C0 (by assumption)
        refine va_sld hx hb q1 q2 (A := fun q => base ≤ q) q3 hS ?_ hdg (kk ls H locs hl hW hS)
        unfold vp_in
        intro hq
        simp only [Bool.not_eq_true', Bool.or_eq_false_iff, decide_eq_false_iff_not] at hc
        rcases hq with hq | hq
        · exact hc.1 hq
        · exact hc.2 hq
      · cases h1
    · cases h1
  · exact sh_oiald C0 hdg h1 hl hW hS kk
set_option maxHeartbeats 4000000 in
set_option maxRecDepth 20000 in
theorem sh_one_ok (ok : sh_ok G) (C : sh_C G p s m args meth c k D dT ad base H0 sc) {i : Instr} {len : Nat} (hdg : decode (sh_B G k) pc = .ok (i, sh_len i len)) (h1 : sh_one G sc k i pc lv st h = some r) (hl : lv_has ls (sh_L G k) (sh_lv ad lv)) (hW : sh_W G D dT ad base H0 h H) (hS : va_S (fun q => base ≤ q) s.heap H locs) (hcs : cells + r.2.2.2.2.1 ≤ R.cells) (hss : slots + r.2.2.2.2.2 ≤ R.slots) (hfr : 8 ≤ R.frames) (hlo : 200 ≤ R.locals) (kk : sh_K G p l e R s m args below meth c cells slots Q k D dT ad base H0 r) : W p l e R s m args below meth c H locs cells slots Q (F0 m pc ls (st.map (sh_v ad))) := by
  have C0 := C
  obtain ⟨hx, hb, hml, hr, hown, hts, hK, hlk, hnm, hbs, hold, had, hX, hX0, hhd⟩ := C
  cases i with
  | iconst n =>
    have h1 := Option.some.inj h1
    subst h1
    exact lv_iconst hx hb hdg rfl (kk ls H locs hl hW hS)
  | bipush n =>
    have h1 := Option.some.inj h1
    subst h1
    exact lv_bipush hx hb hdg rfl (kk ls H locs hl hW hS)
  | sipush n =>
    have h1 := Option.some.inj h1
    subst h1
    exact lv_sipush hx hb hdg rfl (kk ls H locs hl hW hS)
  | lconst n =>
    have h1 := Option.some.inj h1
    subst h1
    exact lv_lconst hx hb hdg rfl (kk ls H locs hl hW hS)
  | aconst_null =>
    have h1 := Option.some.inj h1
    subst h1
    exact lv_null hx hb hdg (kk ls H locs hl hW hS)
  | iload_n n =>
    refine sh_old sh_isI (i := n) (n := 1) (fun v hw hm kw => ?_) h1 hl hW hS kk
    cases v <;> first | exact Bool.noConfusion (show false = true from hw) | exact lv_iload_n hx hb hdg rfl hm kw
  | iload n =>
    refine sh_old sh_isI (i := n) (n := 2) (fun v hw hm kw => ?_) h1 hl hW hS kk
    cases v <;> first | exact Bool.noConfusion (show false = true from hw) | exact lv_iload hx hb hdg hm kw
  | lload_n n =>
    refine sh_old sh_isL (i := n) (n := 1) (fun v hw hm kw => ?_) h1 hl hW hS kk
    cases v <;> first | exact Bool.noConfusion (show false = true from hw) | exact lv_lload_n hx hb hdg rfl hm kw
  | lload n =>
    refine sh_old sh_isL (i := n) (n := 2) (fun v hw hm kw => ?_) h1 hl hW hS kk
    cases v <;> first | exact Bool.noConfusion (show false = true from hw) | exact lv_lload hx hb hdg hm kw
  | aload_n n =>
    refine sh_old sh_isR (i := n) (n := 1) (fun v hw hm kw => ?_) h1 hl hW hS kk
    cases v <;> first | exact Bool.noConfusion (show false = true from hw) | exact lv_aload_n hx hb hdg rfl hm kw | exact lv_aload_nN hx hb hdg rfl hm kw
  | aload n =>
    refine sh_old sh_isR (i := n) (n := 2) (fun v hw hm kw => ?_) h1 hl hW hS kk
    cases v <;> first | exact Bool.noConfusion (show false = true from hw) | exact lv_aload hx hb hdg hm kw | exact lv_aloadN hx hb hdg hm kw
  | istore_n n =>
    refine sh_ost1 sh_isI (i := n) (n := 1) (fun v rest hw hi kw => ?_) h1 hl hW hS kk
    cases v with
    | int x => exact lv_istore_n hx hb hdg rfl hl hi (sh_lv_st1 ad n (.int x) lv) kw
    | _ => exact Bool.noConfusion (show false = true from hw)
  | istore n =>
    refine sh_ost1 sh_isI (i := n) (n := 2) (fun v rest hw hi kw => ?_) h1 hl hW hS kk
    cases v with
    | int x => exact lv_istore hx hb hdg hl hi (sh_lv_st1 ad n (.int x) lv) kw
    | _ => exact Bool.noConfusion (show false = true from hw)
  | lstore_n n =>
    refine sh_ost2 sh_isL (i := n) (n := 1) (fun v rest hw hi kw => ?_) h1 hl hW hS kk
    cases v with
    | long x => exact lv_lstore_n hx hb hdg rfl hl hi (sh_lv_st2 ad n (.long x) lv) kw
    | _ => exact Bool.noConfusion (show false = true from hw)
  | lstore n =>
    refine sh_ost2 sh_isL (i := n) (n := 2) (fun v rest hw hi kw => ?_) h1 hl hW hS kk
    cases v with
    | long x => exact lv_lstore hx hb hdg hl hi (sh_lv_st2 ad n (.long x) lv) kw
    | _ => exact Bool.noConfusion (show false = true from hw)
  | astore_n n =>
    refine sh_ost1 sh_isR (i := n) (n := 1) (fun v rest hw hi kw => ?_) h1 hl hW hS kk
    cases v with
    | ref x => exact lv_astore_n hx hb hdg rfl hl hi (sh_lv_st1 ad n (.ref x) lv) kw
    | null => exact lv_astore_nN hx hb hdg rfl hl hi (sh_lv_st1 ad n .null lv) kw
    | _ => exact Bool.noConfusion (show false = true from hw)
  | astore n =>
    refine sh_ost1 sh_isR (i := n) (n := 2) (fun v rest hw hi kw => ?_) h1 hl hW hS kk
    cases v with
    | ref x => exact lv_astore hx hb hdg hl hi (sh_lv_st1 ad n (.ref x) lv) kw
    | null => exact lv_astoreN hx hb hdg hl hi (sh_lv_st1 ad n .null lv) kw
    | _ => exact Bool.noConfusion (show false = true from hw)
  | iinc j n =>
    unfold sh_one at h1
    dsimp only at h1
    split at h1
    · rename_i x hj
      split at h1
      · rename_i hjl
        cases h1
        obtain ⟨q, hq⟩ := List.getElem?_of_mem (sh_lv_mem (ad := ad) hj)
        exact lv_iinc hx hb hdg hl hq rfl hjl (sh_lv_st1 ad j (.int (x + Int32.ofInt n)) lv) (fun ls2 hl2 => kk ls2 H locs hl2 hW hS)
      · cases h1
    · cases h1
  | iadd =>
    exact sh_oi2 _ (fun x y rest kw => lv_iadd hx hb hdg kw) h1 hl hW hS kk
  | isub =>
    exact sh_oi2 _ (fun x y rest kw => lv_isub hx hb hdg kw) h1 hl hW hS kk
  | imul =>
    exact sh_oi2 _ (fun x y rest kw => lv_imul hx hb hdg kw) h1 hl hW hS kk
  | iand =>
    exact sh_oi2 _ (fun x y rest kw => lv_iand hx hb hdg kw) h1 hl hW hS kk
  | ior =>
    exact sh_oi2 _ (fun x y rest kw => lv_ior hx hb hdg kw) h1 hl hW hS kk
  | ixor =>
    exact sh_oi2 _ (fun x y rest kw => lv_ixor hx hb hdg kw) h1 hl hW hS kk
  | ishl =>
    exact sh_oi2 _ (fun x y rest kw => lv_ishl hx hb hdg kw) h1 hl hW hS kk
  | ishr =>
    exact sh_oi2 _ (fun x y rest kw => lv_ishr hx hb hdg kw) h1 hl hW hS kk
  | iushr =>
    exact sh_oi2 _ (fun x y rest kw => lv_iushr hx hb hdg rfl kw) h1 hl hW hS kk
  | idiv =>
    unfold sh_one at h1
    dsimp only at h1
    split at h1
    · split at h1
      · cases h1
      · rename_i hy
        cases h1
        exact lv_idiv hx hb hdg hy (kk ls H locs hl hW hS)
    · cases h1
  | irem =>
    unfold sh_one at h1
    dsimp only at h1
    split at h1
    · split at h1
      · cases h1
      · rename_i hy
        cases h1
        exact lv_irem hx hb hdg hy (kk ls H locs hl hW hS)
    · cases h1
  | ldiv =>
    unfold sh_one at h1
    dsimp only at h1
    split at h1
    · split at h1
      · cases h1
      · rename_i hy
        cases h1
        exact lv_ldiv hx hb hdg hy (kk ls H locs hl hW hS)
    · cases h1
  | lrem =>
    unfold sh_one at h1
    dsimp only at h1
    split at h1
    · split at h1
      · cases h1
      · rename_i hy
        cases h1
        exact lv_lrem hx hb hdg hy (kk ls H locs hl hW hS)
    · cases h1
  | ineg =>
    exact sh_oi1 _ (fun x rest kw => lv_ineg hx hb hdg kw) h1 hl hW hS kk
  | i2b =>
    exact sh_oi1 _ (fun x rest kw => lv_i2b hx hb hdg rfl kw) h1 hl hW hS kk
  | i2s =>
    exact sh_oi1 _ (fun x rest kw => lv_i2s hx hb hdg rfl kw) h1 hl hW hS kk
  | i2c =>
    exact sh_oi1 _ (fun x rest kw => lv_i2c hx hb hdg rfl kw) h1 hl hW hS kk
  | ladd =>
    exact sh_ol2 _ (fun x y rest kw => lv_ladd hx hb hdg kw) h1 hl hW hS kk
  | lsub =>
    exact sh_ol2 _ (fun x y rest kw => lv_lsub hx hb hdg kw) h1 hl hW hS kk
  | lmul =>
    exact sh_ol2 _ (fun x y rest kw => lv_lmul hx hb hdg kw) h1 hl hW hS kk
  | land =>
    exact sh_ol2 _ (fun x y rest kw => lv_land hx hb hdg kw) h1 hl hW hS kk
  | lor =>
    exact sh_ol2 _ (fun x y rest kw => lv_lor hx hb hdg kw) h1 hl hW hS kk
  | lxor =>
    exact sh_ol2 _ (fun x y rest kw => lv_lxor hx hb hdg kw) h1 hl hW hS kk
  | lshl =>
    exact sh_ols _ (fun x y rest kw => lv_lshl hx hb hdg rfl kw) h1 hl hW hS kk
  | lshr =>
    exact sh_ols _ (fun x y rest kw => lv_lshr hx hb hdg rfl kw) h1 hl hW hS kk
  | lushr =>
    exact sh_ols _ (fun x y rest kw => lv_lushr hx hb hdg rfl kw) h1 hl hW hS kk
  | lneg =>
    unfold sh_one at h1
    dsimp only at h1
    split at h1
    · cases h1
      exact lv_lneg hx hb hdg (kk ls H locs hl hW hS)
    · cases h1
  | i2l =>
    unfold sh_one at h1
    dsimp only at h1
    split at h1
    · cases h1
      exact lv_i2l hx hb hdg rfl (kk ls H locs hl hW hS)
    · cases h1
  | l2i =>
    unfold sh_one at h1
    dsimp only at h1
    split at h1
    · cases h1
      exact lv_l2i hx hb hdg rfl (kk ls H locs hl hW hS)
    · cases h1
  | lcmp =>
    unfold sh_one at h1
    dsimp only at h1
    split at h1
    · cases h1
      exact W.lcmp hx hb hdg (kk ls H locs hl hW hS)
    · cases h1
  | dup =>
    unfold sh_one at h1
    dsimp only at h1
    split at h1
    · split at h1
      · rename_i hc
        cases h1
        exact lv_dup hx hb hdg (by rw [sh_v_cat]; exact hc) (kk ls H locs hl hW hS)
      · cases h1
    · cases h1
  | pop =>
    unfold sh_one at h1
    dsimp only at h1
    split at h1
    · split at h1
      · rename_i hc
        cases h1
        exact lv_pop hx hb hdg (by rw [sh_v_cat]; exact hc) (kk ls H locs hl hW hS)
      · cases h1
    · cases h1
  | dup_x1 =>
    unfold sh_one at h1
    dsimp only at h1
    split at h1
    · split at h1
      · rename_i hc
        cases h1
        exact lv_dup_x1 hx hb hdg (by rw [sh_v_cat]; exact hc.1) (by rw [sh_v_cat]; exact hc.2) (kk ls H locs hl hW hS)
      · cases h1
    · cases h1
  | dup_x2 =>
    unfold sh_one at h1
    dsimp only at h1
    split at h1
    · split at h1
      · rename_i hc
        cases h1
        exact lv_dup_x2 hx hb hdg (by rw [sh_v_cat]; exact hc.1) (by rw [sh_v_cat]; exact hc.2.1) (by rw [sh_v_cat]; exact hc.2.2) (kk ls H locs hl hW hS)
      · cases h1
    · cases h1
  | dup2 =>
    unfold sh_one at h1
    dsimp only at h1
    split at h1
    · split at h1
      · rename_i hc
        cases h1
        exact lv_dup2_11 hx hb hdg (by rw [sh_v_cat]; exact hc.1) (by rw [sh_v_cat]; exact hc.2) (kk ls H locs hl hW hS)
      · cases h1
    · cases h1
  | ifCond cd off =>
    unfold sh_one at h1
    dsimp only at h1
    split at h1
    · refine sh_obr (fun tgt ht kt kf => ?_) h1 hl hW hS kk
      cases cd with
      | eq => exact lv_if_eq hx hb hdg ht (fun hq => kt (by simp [Op.ifCond.holds]; exact hq)) (fun hq => kf (by simp [Op.ifCond.holds]; exact hq))
      | ne => exact lv_if_ne hx hb hdg ht (fun hq => kt (by simp [Op.ifCond.holds]; exact hq)) (fun hq => kf (by simp [Op.ifCond.holds]; exact hq))
      | lt => exact lv_if_lt hx hb hdg ht (fun hq => kt (by simp [Op.ifCond.holds]; exact hq)) (fun hq => kf (by simp [Op.ifCond.holds]; exact Int32.not_lt.mp hq))
      | ge => exact lv_if_ge hx hb hdg ht (fun hq => kt (by simp [Op.ifCond.holds]; exact hq)) (fun hq => kf (by simp [Op.ifCond.holds]; exact Int32.not_le.mp hq))
      | gt => exact lv_if_gt hx hb hdg ht (fun hq => kt (by simp [Op.ifCond.holds]; exact hq)) (fun hq => kf (by simp [Op.ifCond.holds]; exact Int32.not_lt.mp hq))
      | le => exact lv_if_le hx hb hdg ht (fun hq => kt (by simp [Op.ifCond.holds]; exact hq)) (fun hq => kf (by simp [Op.ifCond.holds]; exact Int32.not_le.mp hq))
    · cases h1
  | if_icmp cd off =>
    unfold sh_one at h1
    dsimp only at h1
    split at h1
    · refine sh_obr (fun tgt ht kt kf => ?_) h1 hl hW hS kk
      cases cd with
      | eq => exact lv_icmp_eq hx hb hdg ht (fun hq => kt (by simp [Op.if_icmp.holds]; exact hq)) (fun hq => kf (by simp [Op.if_icmp.holds]; exact hq))
      | ne => exact lv_icmp_ne hx hb hdg ht (fun hq => kt (by simp [Op.if_icmp.holds]; exact hq)) (fun hq => kf (by simp [Op.if_icmp.holds]; exact hq))
      | lt => exact lv_icmp_lt hx hb hdg ht (fun hq => kt (by simp [Op.if_icmp.holds]; exact hq)) (fun hq => kf (by simp [Op.if_icmp.holds]; exact Int32.not_lt.mp hq))
      | ge => exact lv_icmp_ge hx hb hdg ht (fun hq => kt (by simp [Op.if_icmp.holds]; exact hq)) (fun hq => kf (by simp [Op.if_icmp.holds]; exact Int32.not_le.mp hq))
      | gt => exact lv_icmp_gt hx hb hdg ht (fun hq => kt (by simp [Op.if_icmp.holds]; exact hq)) (fun hq => kf (by simp [Op.if_icmp.holds]; exact Int32.not_lt.mp hq))
      | le => exact lv_icmp_le hx hb hdg ht (fun hq => kt (by simp [Op.if_icmp.holds]; exact hq)) (fun hq => kf (by simp [Op.if_icmp.holds]; exact Int32.not_le.mp hq))
    · cases h1
  | ifnull off =>
    unfold sh_one at h1
    dsimp only at h1
    split at h1
    · cases h1
      exact lv_ifnull hx hb hdg (kk ls H locs hl hW hS)
    · exact sh_obr (fun tgt ht kt kf => lv_ifnullN hx hb hdg ht (kt rfl)) h1 hl hW hS kk
    · cases h1
  | ifnonnull off =>
    unfold sh_one at h1
    dsimp only at h1
    split at h1
    · exact sh_obr (fun tgt ht kt kf => lv_ifnonnull hx hb hdg ht (kt rfl)) h1 hl hW hS kk
    · cases h1
      exact lv_ifnonnullN hx hb hdg (kk ls H locs hl hW hS)
    · cases h1
  | goto off =>
    exact sh_obr (fun tgt ht kt kf => lv_goto hx hb hdg ht (kt rfl)) h1 hl hW hS kk
  | tableswitch d lo hi offs =>
    unfold sh_one at h1
    dsimp only at h1
    split at h1
    · split at h1
      · rename_i hc
        exact sh_obr (fun tgt ht kt kf => lv_tableOut hx hb hdg hc ht (kt rfl)) h1 hl hW hS kk
      · rename_i hc
        split at h1
        · rename_i o ho
          exact sh_obr (fun tgt ht kt kf => lv_tableIn hx hb hdg (fun q => hc (Or.inl q)) (fun q => hc (Or.inr q)) ho ht (kt rfl)) h1 hl hW hS kk
        · cases h1
    · cases h1
  | lookupswitch d ps =>
    unfold sh_one at h1
    dsimp only at h1
    split at h1
    · split at h1
      · rename_i hc
        exact sh_obr (fun tgt ht kt kf => lv_lookup hx hb hdg hc rfl ht (kt rfl)) h1 hl hW hS kk
      · cases h1
    · cases h1
  | getfield idx =>
    rcases sh_alt_some (show sh_alt (sh_get G k idx pc lv st h) (sh_getK G k idx pc lv st h) = some r from h1) with h1 | ⟨-, h1⟩
    · exact sh_oget ok C0 hdg h1 hl hW hS kk
    · exact sh_ogetK ok C0 hdg h1 hl hW hS kk
  | putfield idx =>
    exact sh_oput ok C0 hdg h1 hl hW hS kk
  | iaload =>
    exact sh_oial C0 hdg h1 hl hW hS kk
  | baload =>
    rcases sh_alt_some (show sh_alt (sh_ald [1, 3] pc lv st h) (sh_baK G pc lv st h) = some r from h1) with h1 | ⟨-, h1⟩
    · exact sh_obald C0 hdg h1 hl hW hS kk
    · exact sh_obaK C0 hdg h1 hl hW hS kk
  | laload =>
    exact sh_olald C0 hdg h1 hl hW hS kk
  | iastore =>
    exact sh_oiast C0 hdg h1 hl hW hS kk
  | bastore =>
    have h1 : sh_bast pc lv st h = some r := h1
    unfold sh_bast at h1
    split at h1
    · rename_i r2 h2
      cases h1
      exact sh_obast C0 hdg h2 hl hW hS kk
    · exact sh_ozast C0 hdg h1 hl hW hS kk
  | lastore =>
    exact sh_olast C0 hdg h1 hl hW hS kk
  | arraylength =>
    rcases sh_alt_some (show sh_alt (sh_al0 sc pc lv st h) (sh_alK G pc lv st h) = some r from h1) with h1 | ⟨-, h1⟩
    · exact sh_oalen C0 hdg h1 hl hW hS kk
    · exact sh_oalK C0 hdg h1 hl hW hS kk
  | getstatic idx =>
    exact sh_ogets ok C0 hdg h1 hl hW hS kk
  | newarray at0 =>
    exact sh_onewa ok C0 hdg h1 hl hW hS hcs hss kk
  | new idx =>
    exact sh_onew ok C0 hdg h1 hl hW hS hcs hss kk
  | ldc idx =>
    unfold sh_one at h1
    dsimp only at h1
    split at h1
    · rename_i x hk9
      cases h1
      exact lv_ldc hx hb hown (hts _ (ok.2.2.2.1 k idx x hk9)) hdg (kk ls H locs hl hW hS)
    · split at h1
      · rename_i j hj
        cases h1
        obtain ⟨tx, htx⟩ := hX.2.1 k idx j hj
        exact va_ldcS hx hb hown htx hdg (kk ls H locs hl hW hS)
      · cases h1
  | invokestatic idx =>
    unfold sh_one at h1
    dsimp only at h1
    split at h1
    · rename_i k2 hg
      exact sh_ocpK ok C0 hg hdg h1 hl hW hS hfr hlo kk
    · cases h1
  | invokespecial idx =>
    unfold sh_one at h1
    dsimp only at h1
    split at h1
    · rename_i k2 a r0 hg
      split at h1
      · rename_i hwt
        cases h1
        obtain ⟨o1, o2, o3⟩ := ok.2.2.2.2.2.2.1 k idx k2 hg
        refine W.objInit hx hb hown (hts _ o1) (hts _ o2) (hts _ o3) rfl (hl.1.trans hml.symm) rfl hdg (by omega) ?_ (kk ls H locs hl hW hS)
        have h9 : ((r0.map (sh_v ad)).map fun v => v.category).sum = sh_wgt r0 := by
          unfold sh_wgt
          rw [List.map_map]
          congr 1
          apply List.map_congr_left
          intro v _
          exact sh_v_cat ad v
        show 2 * 0 + ((r0.map (sh_v ad)).map fun v => v.category).sum + 12 ≤ R.locals
        rw [h9]
        omega
      · cases h1
    · cases h1
  | ldc2_w idx =>
    unfold sh_one at h1
    dsimp only at h1
    split at h1
    · rename_i x hk9
      cases h1
      exact lv_ldc2 hx hb hown (hts _ (ok.2.2.2.2.1 k idx x hk9)) hdg (kk ls H locs hl hW hS)
    · cases h1
  | ldc_w idx =>
    unfold sh_one at h1
    dsimp only at h1
    split at h1
    · rename_i x hk9
      cases h1
      exact lv_ldcw hx hb hown (hts _ (ok.2.2.2.1 k idx x hk9)) hdg (kk ls H locs hl hW hS)
    · split at h1
      · rename_i j hj
        cases h1
        obtain ⟨tx, htx⟩ := hX.2.1 k idx j hj
        exact sh_ldcwS hx hb hown htx hdg (kk ls H locs hl hW hS)
      · cases h1
  | _ => exact absurd (show (none : Option sh_N) = some r from h1) (by simp)
end Sound2
