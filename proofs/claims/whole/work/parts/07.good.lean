/-! THE JVM DOES WHAT THE ABSTRACT MACHINE DOES: every run -/
theorem sh_then_some {mL : Nat} {u1 : sh_U} {x : Option sh_Z} {z : sh_Z} (h : sh_then mL u1 x = some z) : ∃ o h2 u2, x = some (o, h2, u2) ∧ z = (o, h2, sh_seq mL u1 u2) := by
  cases x with
  | none => cases h
  | some q => obtain ⟨o, h2, u2⟩ := q; exact ⟨o, h2, u2, rfl, (Option.some.inj h).symm⟩
theorem sh_more_some {dc ds : Nat} {x : Option sh_Z} {z : sh_Z} (h : sh_more dc ds x = some z) : ∃ o h2 u2, x = some (o, h2, u2) ∧ z = (o, h2, (dc + u2.1, ds + u2.2.1, u2.2.2)) := by
  cases x with
  | none => cases h
  | some q => obtain ⟨o, h2, u2⟩ := q; exact ⟨o, h2, u2, rfl, (Option.some.inj h).symm⟩
theorem sh_run_min {G : sh_G} {sc : sh_S} : ∀ (n k pc : Nat) (lv : sh_Ls) (st : List Value) (h : sh_H) (z : sh_Z), sh_run G sc n k pc lv st h = some z → 8 ≤ z.2.2.2.2.1 ∧ 200 ≤ z.2.2.2.2.2 := by
  intro n
  induction n with
  | zero => intro k pc lv st h z hz; cases hz
  | succ n ih =>
    intro k pc lv st h z hz
    have hz : sh_step G sc (sh_run G sc n) k pc lv st h = some z := hz
    unfold sh_step at hz
    split at hz
    · cases hz
    · split at hz
      · split at hz
        · cases hz
          exact ⟨Nat.le_refl 8, Nat.le_refl 200⟩
        · split at hz
          · rename_i k2 as rest hent
            split at hz
            · cases hq : sh_run G sc n k2 0 (lv_args 0 as) [] h with
              | none => rw [hq] at hz; cases hz
              | some q =>
                obtain ⟨o1, h1, u1⟩ := q
                rw [hq] at hz
                cases o1 with
                | returned v =>
                  have hz : sh_then (sh_L G k2) u1 (sh_run G sc n k (pc + 3) lv (v.toList ++ rest) h1) = some z := hz
                  obtain ⟨o3, h3, u3, e1, e2⟩ := sh_then_some hz
                  have hi := ih _ _ _ _ _ _ e1
                  rw [e2]
                  exact ⟨Nat.le_trans hi.1 (Nat.le_max_right _ _), Nat.le_trans hi.2 (Nat.le_max_right _ _)⟩
                | threw x =>
                  unfold sh_aft at hz
                  cases hf : sh_find G k pc x h1 with
                  | none => simp only [hf] at hz; cases hz
                  | some w =>
                    cases w with
                    | none =>
                      simp only [hf] at hz
                      cases hz
                      exact ⟨Nat.le_max_right _ _, Nat.le_max_right _ _⟩
                    | some hpc =>
                      simp only [hf] at hz
                      obtain ⟨o3, h3, u3, e1, e2⟩ := sh_then_some hz
                      have hi := ih _ _ _ _ _ _ e1
                      rw [e2]
                      exact ⟨Nat.le_trans hi.1 (Nat.le_max_right _ _), Nat.le_trans hi.2 (Nat.le_max_right _ _)⟩
            · cases hz
          · split at hz
            · split at hz
              · split at hz
                · cases hz
                  exact ⟨Nat.le_refl 8, Nat.le_refl 200⟩
                · obtain ⟨o3, h3, u3, e1, e2⟩ := sh_more_some hz
                  have hi := ih _ _ _ _ _ _ e1
                  rw [e2]
                  exact hi
                · cases hz
              · cases hz
            · split at hz
              · split at hz
                · cases hz
                  exact ⟨Nat.le_refl 8, Nat.le_refl 200⟩
                · exact ih _ _ _ _ _ _ hz
                · cases hz
              · split at hz
                · obtain ⟨o3, h3, u3, e1, e2⟩ := sh_more_some hz
                  have hi := ih _ _ _ _ _ _ e1
                  rw [e2]
                  exact hi
                · cases hz
      · cases hz
section Good2
variable {G : sh_G} {p : Program} {l : Launch} {e : Env} {R : Room} {s : State} {m : MethodId} {args : Array Value} {below : List Frame} {meth : Method} {c : Code} {H : Heap} {locs : List Loc} {cells slots : Nat} {k : Nat} {D : va_G} {dT : Nat → ClassId} {ad : Nat → Nat} {base : Nat} {H0 : Heap} {sc : sh_S} {pc : Nat} {ls : Array Slot} {lv : sh_Ls} {st : List Value} {h : sh_H}
theorem sh_inv_of (okc : sh_okc G) (C : sh_C G p s m args meth c k D dT ad base H0 sc) {i : Instr} {len k2 : Nat} {as rest : List Value} (hd : decode (sh_B G k) pc = .ok (i, sh_len i len)) (hent : sh_ent G k i st h = some (k2, as, rest)) (hW : sh_W G D dT ad base H0 h H) :
    sh_okm G k2 ∧ (∃ ig : Instr, decode c.code pc = .ok (ig, 3)) ∧ sh_Inv p l e R s m args below meth c H locs cells slots (sh_Y G k2) (as.map (sh_v ad)).toArray (F0 m pc ls (st.map (sh_v ad))) (F0 m pc ls (rest.map (sh_v ad))) := by
  obtain ⟨hx, hb, hml, hr, hown, hts, hK, hlk, hnm, hbs, hold, had, hX, hX0, hhd⟩ := C
  subst_vars
  unfold sh_ent at hent
  split at hent
  · rename_i idx
    split at hent
    · rename_i k3 hg
      split at hent
      · rename_i a rs hdrop
        split at hent
        · rename_i ci fs ha
          split at hent
          · rename_i hcn
            cases hent
            obtain ⟨okm, hlink, hinst, hsel⟩ := okc.2.1 k idx _ _ hg (Or.inl rfl)
            refine ⟨okm, ⟨_, by rw [hb]; exact hd⟩, ?_⟩
            obtain ⟨hcd, hini, hpl, hmh, hpar, hownk⟩ := okm
            obtain ⟨rr, g1, cell, q1, q2, q3, -⟩ := hW.2.2.2 a _ (sh_ws_at ha)
            obtain ⟨hSl, hfc, kC, hkC, -⟩ := hK.1 ci _ g1
            have hnm2 : rr.1 = (sh_Y G k2).cls := by
              rw [g1] at hcn
              exact Option.some.inj hcn
            have hlen : (st.take (sh_P G k2)).length = sh_P G k2 := by
              rw [List.length_take]
              have h9 : (st.drop (sh_P G k2)).length = rest.length + 1 := by rw [hdrop]; rfl
              rw [List.length_drop] at h9
              omega
            have hst : st = st.take (sh_P G k2) ++ .ref (a + 1) :: rest := by
              conv => lhs; rw [← List.take_append_drop (sh_P G k2) st, hdrop]
            have hv := sh_invV (l := l) (e := e) (R := R) (below := below) (meth := meth) (c := c) (H := H) (locs := locs) (cells := cells) (slots := slots) (n := sh_P G k2) (C := (sh_Y G k2).cls) hx hown (hts _ hlink) (hts _ hinst) (hts _ hsel) (sh_code_mth (hts _ hcd)) hmh hpar (b := ad (a + 1)) q1 (by rw [q3]; rfl) (by rw [q2, ← hnm2]; exact hfc)
              (pc := pc) (ls := ls) (As := ((st.take (sh_P G k2)).reverse.map (sh_v ad))) (rest := rest.map (sh_v ad)) (by rw [List.length_map, List.length_reverse]; exact hlen) (by rw [hb]; exact hd)
            have e1 : st.map (sh_v ad) = ((st.take (sh_P G k2)).reverse.map (sh_v ad)).reverse ++ .ref (ad (a + 1)) :: rest.map (sh_v ad) := by
              conv => lhs; rw [hst]
              rw [List.map_append, ← List.map_reverse, List.reverse_reverse]
              rfl
            rw [e1]
            exact hv
          · cases hent
        · cases hent
      · cases hent
    · rename_i k3 hg
      split at hent
      · rename_i q rs hdrop
        split at hent
        · rename_i hcn
          cases hent
          obtain ⟨okm, hlink, hinst, hsel⟩ := okc.2.1 k idx _ _ hg (Or.inr rfl)
          refine ⟨okm, ⟨_, by rw [hb]; exact hd⟩, ?_⟩
          obtain ⟨hcd, hini, hpl, hmh, hpar, hownk⟩ := okm
          obtain ⟨e1, e2⟩ := sh_isT_of hcn.1
          obtain ⟨cell, g1, g2, g3, -⟩ := (hX.2.2.2.2.2.2 _ e2).1.kept (H1 := H) (fun a _ ha => hW.2.2.1 a (Nat.not_le.mp ha))
          rw [e1] at g1
          have hlen : (st.take (sh_P G k2)).length = sh_P G k2 := by
            rw [List.length_take]
            have h9 : (st.drop (sh_P G k2)).length = rest.length + 1 := by rw [hdrop]; rfl
            rw [List.length_drop] at h9
            omega
          have hst : st = st.take (sh_P G k2) ++ .ref q :: rest := by
            conv => lhs; rw [← List.take_append_drop (sh_P G k2) st, hdrop]
          have hv := sh_invV (l := l) (e := e) (R := R) (below := below) (meth := meth) (c := c) (H := H) (locs := locs) (cells := cells) (slots := slots) (n := sh_P G k2) (C := (sh_Y G k2).cls) hx hown (hts _ hlink) (hts _ hinst) (hts _ hsel) (sh_code_mth (hts _ hcd)) hmh hpar (b := ad q) g1 g2 (by rw [hcn.2]; exact g3)
            (pc := pc) (ls := ls) (As := ((st.take (sh_P G k2)).reverse.map (sh_v ad))) (rest := rest.map (sh_v ad)) (by rw [List.length_map, List.length_reverse]; exact hlen) (by rw [hb]; exact hd)
          have e1 : st.map (sh_v ad) = ((st.take (sh_P G k2)).reverse.map (sh_v ad)).reverse ++ .ref (ad q) :: rest.map (sh_v ad) := by
            conv => lhs; rw [hst]
            rw [List.map_append, ← List.map_reverse, List.reverse_reverse]
            rfl
          rw [e1]
          exact hv
        · cases hent
      · cases hent
    · cases hent
  · rename_i idx
    split at hent
    · rename_i kd k3 hg
      split at hent
      · rename_i hle
        obtain ⟨hkd, hle⟩ := hle
        cases hent
        obtain ⟨okm, hstat, hl1, hl6⟩ := okc.2.2.1 k idx _ _ hg hkd
        refine ⟨okm, ⟨_, by rw [hb]; exact hd⟩, ?_⟩
        obtain ⟨hcd, hini, hpl, hmh, hpar, hownk⟩ := okm
        have e1 : st.map (sh_v ad) = ((st.take (sh_P G k2)).reverse.map (sh_v ad)).reverse ++ (st.drop (sh_P G k2)).map (sh_v ad) := by
          conv => lhs; rw [← List.take_append_drop (sh_P G k2) st]
          rw [List.map_append, ← List.map_reverse, List.reverse_reverse]
        rw [e1]
        rcases hkd with rfl | rfl
        · exact sh_invS (n := sh_P G k2) hx hown (hts _ (hl1 rfl)) (hts _ hstat) (hts _ hini) (sh_code_mth (hts _ hcd)) hmh hpar (by rw [List.length_map, List.length_reverse, List.length_take]; omega) (by rw [hb]; exact hd)
        · obtain ⟨host, hlk6⟩ := hl6 rfl
          exact sh_invSN (n := sh_P G k2) hx hown (hts _ hlk6) (hts _ hstat) (hts _ hini) (sh_code_mth (hts _ hcd)) hmh hpar (by rw [List.length_map, List.length_reverse, List.length_take]; omega) (by rw [hb]; exact hd)
      · cases hent
    · cases hent
  · rename_i idx
    split at hent
    · rename_i kd k3 hg
      split at hent
      · rename_i hkd
        split at hent
        · rename_i a rs hdrop
          cases hent
          obtain ⟨okm, hinst, hnam, hhd2, hret2, hl2, hl5⟩ := okc.2.2.2.1 k idx _ _ hg hkd
          refine ⟨okm, ⟨_, by rw [hb]; exact hd⟩, ?_⟩
          obtain ⟨hcd, hini, hpl, hmh, hpar, hownk⟩ := okm
          have hcd2 : (Cond.code (sh_Y G k2) (sh_B G k2) (sh_L G k2) none).before args s = true := by
            have h9 := hts _ hcd
            unfold sh_code at h9
            rw [hhd2, hret2] at h9
            exact h9
          have hlen : (st.take (sh_P G k2)).length = sh_P G k2 := by
            rw [List.length_take]
            have h9 : (st.drop (sh_P G k2)).length = rest.length + 1 := by rw [hdrop]; rfl
            rw [List.length_drop] at h9
            omega
          have hst : st = st.take (sh_P G k2) ++ .ref a :: rest := by
            conv => lhs; rw [← List.take_append_drop (sh_P G k2) st, hdrop]
          have e1 : st.map (sh_v ad) = ((st.take (sh_P G k2)).reverse.map (sh_v ad)).reverse ++ .ref (ad a) :: rest.map (sh_v ad) := by
            conv => lhs; rw [hst]
            rw [List.map_append, ← List.map_reverse, List.reverse_reverse]
            rfl
          rw [e1]
          rcases hkd with rfl | rfl
          · exact sh_invI (n := sh_P G k2) hx hown hnam (hts _ (hl2 rfl)) (hts _ hinst) hcd2 hmh hpar (b := ad a) (by rw [List.length_map, List.length_reverse]; exact hlen) (by rw [hb]; exact hd)
          · obtain ⟨host, hlk5⟩ := hl5 rfl
            exact sh_invIN (n := sh_P G k2) hx hown hnam (hts _ hlk5) (hts _ hinst) hcd2 hmh hpar (b := ad a) (by rw [List.length_map, List.length_reverse]; exact hlen) (by rw [hb]; exact hd)
        · cases hent
      · cases hent
    · cases hent
  · cases hent
/-- the frame behind a callee -/
theorem sh_S_call {h1 : sh_H} {t st₀ : State} {Lc : List Loc} (C : sh_C G p s m args meth c k D dT ad base H0 sc) (hS : va_S (fun q => base ≤ q) s.heap H locs) (h0 : st₀.heap = H) (hW1 : sh_W G D dT ad base H0 h1 t.heap) (hz : st₀.heap.size ≤ t.heap.size) (hL : ∀ q ∈ Lc, base ≤ q.base) : va_S (fun q => base ≤ q) s.heap t.heap (locs ++ Lc) := by
  obtain ⟨hx, hb, hml, hr, hown, hts, hK, hlk, hnm, hbs, hold, had, hX, hX0, hhd⟩ := C
  rw [h0] at hz
  refine ⟨Nat.le_trans hS.1 hz, fun q h1 h2 => ?_, fun q hq => ?_⟩
  · have h3 : q < base := Nat.not_le.mp h2
    rw [hW1.2.2.1 q h3, hold q h3]
  · rcases List.mem_append.mp hq with h3 | h3
    · exact hS.2.2 q h3
    · exact hL q h3
set_option maxHeartbeats 4000000 in
theorem sh_good (ok : sh_ok G) (okc : sh_okc G) : ∀ n, sh_Good G sc n := by
  intro n
  induction n with
  | zero =>
    intro k pc lv st h o h2 u hrun
    cases hrun
  | succ n ih =>
    intro k pc lv st h o h2 u hrun p l e R s m args below meth c D dT ad base H0 htr C hfr hlo H locs cells slots ls hcs hss hl hW hS
    have C0 := C
    obtain ⟨hx, hb, hml, hr, hown, hts, hK, hlk, hnm, hbs, hold, had, hX, hX0, hhd⟩ := C
    have hrun : sh_step G sc (sh_run G sc n) k pc lv st h = some (o, h2, u) := hrun
    unfold sh_step at hrun
    split at hrun
    · cases hrun
    · rename_i i len hd
      split at hrun
      · rename_i hlen
        have hd := okc.2.2.2.2.2.2 _ _ _ _ hd
        rw [hlen] at hd
        split at hrun
        · rename_i v hv
          cases hrun
          exact sh_ret_ok C0 hd hv hW hS
        · split at hrun
          · rename_i k2 as rest hent
            split at hrun
            · rename_i hwt
              obtain ⟨okm, ⟨ig, hdg⟩, hinv⟩ := sh_inv_of (l := l) (e := e) (R := R) (below := below) (locs := locs) (cells := cells) (slots := slots) (ls := ls) okc C0 hd hent hW
              cases hz : sh_run G sc n k2 0 (lv_args 0 as) [] h with
              | none => rw [hz] at hrun; cases hrun
              | some z =>
                obtain ⟨o1, h1, u1⟩ := z
                rw [hz] at hrun
                have hM := sh_met ih okm hwt.2 hz l htr (D := D) (dT := dT) (H0 := H0) had hX0.1
                have hws : ∀ w ∈ sh_T G, ∀ (a' : Array Value) (U : State), s.WarmedH U.vm → w.before a' U = true := fun w hw a' U hWm => sh_kw_at (okc.1 w hw) hWm (hts w hw)
                have hcode : ∀ (U : State) (mk : MethodId), s.WarmedH U.vm → U.methodNamed? (sh_Y G k2) = some mk → ∃ methY cY, U.vm.method? mk = some methY ∧ methY.code = some cY ∧ cY.maxLocals = sh_L G k2 := by
                  intro U mk hWm hn
                  obtain ⟨mk2, methM, cM, z1, z2, z3, z4, z5, -⟩ := sh_code_mth (hws _ okm.1 #[] U hWm)
                  cases hn.symm.trans z1
                  exact ⟨methM, cM, z2, z3, z5⟩
                have hP : ∀ U : State, U.heap = H → s.WarmedH U.vm → sh_Pc G D dT ad base H0 sc as h (as.map (sh_v ad)).toArray U := fun U hU hWm => ⟨rfl, by rw [hU]; exact hW, va_K.moved hWm.alike hK, sh_Xt_warm hWm hX⟩
                cases o1 with
                | returned v1 =>
                  have hrun2 : sh_then (sh_L G k2) u1 (sh_run G sc n k (pc + 3) lv (v1.toList ++ rest) h1) = some (o, h2, u) := hrun
                  cases hz2 : sh_run G sc n k (pc + 3) lv (v1.toList ++ rest) h1 with
                  | none => rw [hz2] at hrun2; cases hrun2
                  | some z2 =>
                    obtain ⟨o2, h3, u2⟩ := z2
                    rw [hz2] at hrun2
                    have hrun3 := Option.some.inj hrun2
                    have e1 : o2 = o := congrArg (fun q => q.1) hrun3
                    have e2 : h3 = h2 := congrArg (fun q => q.2.1) hrun3
                    have e3 : sh_seq (sh_L G k2) u1 u2 = u := congrArg (fun q => q.2.2) hrun3
                    subst e1
                    subst e2
                    subst e3
                    have a1 : cells + (u1.1 + u2.1) ≤ R.cells := hcs
                    have a2 : slots + (u1.2.1 + u2.2.1) ≤ R.slots := hss
                    have a3 : max (u1.2.2.1 + 1) u2.2.2.1 ≤ R.frames := hfr
                    have a4 : max (8 + (sh_L G k2 + 11) + u1.2.2.2) u2.2.2.2 ≤ R.locals := hlo
                    refine sh_call hM sh_Pc_blind (Nat.le_trans (Nat.le_max_left _ _) a3) (Nat.le_trans (Nat.le_max_left _ _) a4) hws hcode (fun a' U hWm => hws _ okm.2.1 a' U hWm) (hl.1.trans hml.symm) hdg (by have h9 := hwt.1; rw [← sh_wgt_map ad] at h9; exact h9) hinv hP (show cells + u1.1 ≤ R.cells by omega) (show slots + u1.2.1 ≤ R.slots by omega) ?_ ?_
                    · intro v st₀ t Lc h0 hq hLc
                      obtain ⟨hv, hW1, hsz⟩ := hq
                      have hv2 : v = v1.map (sh_v ad) := Outcome.returned.inj hv
                      subst hv2
                      have hk := ih k (pc + 3) lv (v1.toList ++ rest) h1 o2 h3 u2 hz2 p l e R s m args below meth c D dT ad base H0 htr C0 (Nat.le_trans (Nat.le_max_right _ _) a3) (Nat.le_trans (Nat.le_max_right _ _) a4) t.heap (locs ++ Lc) (cells + u1.1) (slots + u1.2.1) ls (by omega) (by omega) hl hW1 (sh_S_call C0 hS h0 hW1 hsz hLc)
                      rw [Nat.add_assoc, Nat.add_assoc] at hk
                      have e4 : (v1.map (sh_v ad)).toList ++ rest.map (sh_v ad) = (v1.toList ++ rest).map (sh_v ad) := by cases v1 <;> rfl
                      rw [e4]
                      exact hk
                    · intro x st₀ t Lc h0 hq hLc
                      exact absurd hq.1 (by simp [sh_o])
                | threw x1 =>
                  cases hfd : sh_find G k pc x1 h1 with
                  | none =>
                    have hrun2 : (match sh_find G k pc x1 h1 with
                      | some none => some (.threw x1, h1, sh_seq (sh_L G k2) u1 sh_u0)
                      | some (some hpc) => sh_then (sh_L G k2) u1 (sh_run G sc n k hpc lv [.ref x1] h1)
                      | none => none) = some (o, h2, u) := hrun
                    rw [hfd] at hrun2
                    cases hrun2
                  | some w =>
                    cases w with
                    | none =>
                      have hrun2 : (match sh_find G k pc x1 h1 with
                        | some none => some (.threw x1, h1, sh_seq (sh_L G k2) u1 sh_u0)
                        | some (some hpc) => sh_then (sh_L G k2) u1 (sh_run G sc n k hpc lv [.ref x1] h1)
                        | none => none) = some (o, h2, u) := hrun
                      rw [hfd] at hrun2
                      have hrun3 := Option.some.inj hrun2
                      have e1 : .threw x1 = o := congrArg (fun q => q.1) hrun3
                      have e2 : h1 = h2 := congrArg (fun q => q.2.1) hrun3
                      have e3 : sh_seq (sh_L G k2) u1 sh_u0 = u := congrArg (fun q => q.2.2) hrun3
                      subst e1
                      subst e2
                      subst e3
                      have a1 : cells + (u1.1 + 0) ≤ R.cells := hcs
                      have a2 : slots + (u1.2.1 + 0) ≤ R.slots := hss
                      have a3 : max (u1.2.2.1 + 1) 8 ≤ R.frames := hfr
                      have a4 : max (8 + (sh_L G k2 + 11) + u1.2.2.2) 200 ≤ R.locals := hlo
                      refine sh_call hM sh_Pc_blind (Nat.le_trans (Nat.le_max_left _ _) a3) (Nat.le_trans (Nat.le_max_left _ _) a4) hws hcode (fun a' U hWm => hws _ okm.2.1 a' U hWm) (hl.1.trans hml.symm) hdg (by have h9 := hwt.1; rw [← sh_wgt_map ad] at h9; exact h9) hinv hP (show cells + u1.1 ≤ R.cells by omega) (show slots + u1.2.1 ≤ R.slots by omega) ?_ ?_
                      · intro v st₀ t Lc h0 hq hLc
                        exact absurd hq.1 (by simp [sh_o])
                      · intro x st₀ t Lc h0 hq hLc
                        obtain ⟨hv, hW1, hsz⟩ := hq
                        have hv2 : x = ad x1 := Outcome.threw.inj hv
                        subst hv2
                        have hS1 := sh_S_call C0 hS h0 hW1 hsz hLc
                        exact sh_leave (sh_out hhd hfd) (fun t2 ht _ => ⟨rfl, by rw [ht]; exact hW1, by rw [ht]; exact hS1.1⟩) hS1.2.2 hlk
                    | some hpc =>
                      have hrun2 : (match sh_find G k pc x1 h1 with
                        | some none => some (.threw x1, h1, sh_seq (sh_L G k2) u1 sh_u0)
                        | some (some hpc) => sh_then (sh_L G k2) u1 (sh_run G sc n k hpc lv [.ref x1] h1)
                        | none => none) = some (o, h2, u) := hrun
                      rw [hfd] at hrun2
                      have hrun4 : sh_then (sh_L G k2) u1 (sh_run G sc n k hpc lv [.ref x1] h1) = some (o, h2, u) := hrun2
                      cases hz2 : sh_run G sc n k hpc lv [.ref x1] h1 with
                      | none => rw [hz2] at hrun4; cases hrun4
                      | some z2 =>
                        obtain ⟨o2, h3, u2⟩ := z2
                        rw [hz2] at hrun4
                        have hrun3 := Option.some.inj hrun4
                        have e1 : o2 = o := congrArg (fun q => q.1) hrun3
                        have e2 : h3 = h2 := congrArg (fun q => q.2.1) hrun3
                        have e3 : sh_seq (sh_L G k2) u1 u2 = u := congrArg (fun q => q.2.2) hrun3
                        subst e1
                        subst e2
                        subst e3
                        have a1 : cells + (u1.1 + u2.1) ≤ R.cells := hcs
                        have a2 : slots + (u1.2.1 + u2.2.1) ≤ R.slots := hss
                        have a3 : max (u1.2.2.1 + 1) u2.2.2.1 ≤ R.frames := hfr
                        have a4 : max (8 + (sh_L G k2 + 11) + u1.2.2.2) u2.2.2.2 ≤ R.locals := hlo
                        refine sh_call hM sh_Pc_blind (Nat.le_trans (Nat.le_max_left _ _) a3) (Nat.le_trans (Nat.le_max_left _ _) a4) hws hcode (fun a' U hWm => hws _ okm.2.1 a' U hWm) (hl.1.trans hml.symm) hdg (by have h9 := hwt.1; rw [← sh_wgt_map ad] at h9; exact h9) hinv hP (show cells + u1.1 ≤ R.cells by omega) (show slots + u1.2.1 ≤ R.slots by omega) ?_ ?_
                        · intro v st₀ t Lc h0 hq hLc
                          exact absurd hq.1 (by simp [sh_o])
                        · intro x st₀ t Lc h0 hq hLc
                          obtain ⟨hv, hW1, hsz⟩ := hq
                          have hv2 : x = ad x1 := Outcome.threw.inj hv
                          subst hv2
                          have hS1 := sh_S_call C0 hS h0 hW1 hsz hLc
                          have hk := ih k hpc lv [.ref x1] h1 o2 h3 u2 hz2 p l e R s m args below meth c D dT ad base H0 htr C0 (Nat.le_trans (Nat.le_max_right _ _) a3) (Nat.le_trans (Nat.le_max_right _ _) a4) t.heap (locs ++ Lc) (cells + u1.1) (slots + u1.2.1) ls (by omega) (by omega) hl hW1 hS1
                          rw [Nat.add_assoc, Nat.add_assoc] at hk
                          exact sh_in okc C0 hfd hW1 hk
            · cases hrun
          · split at hrun
            · rename_i ci idx ic htn
              split at hrun
              · rename_i hwt
                have hi : i = .new idx ∧ sh_gX G (sh_On G k) idx = some (ci, ic) ∧ decode (sh_B G k) (pc + 3) = .ok (.dup, 1) ∧ decode (sh_B G k) (pc + 4) = .ok (.invokespecial ic, 3) ∧ decode (sh_B G k) (pc + 7) = .ok (.athrow, 1) := by
                  unfold sh_tn at htn
                  split at htn
                  · split at htn
                    · rename_i hg
                      split at htn
                      · rename_i hd3 hd4 hd7
                        split at htn
                        · rename_i hic
                          cases htn
                          subst hic
                          exact ⟨rfl, hg, okc.2.2.2.2.2.2 _ _ _ _ hd3, okc.2.2.2.2.2.2 _ _ _ _ hd4, okc.2.2.2.2.2.2 _ _ _ _ hd7⟩
                        · cases htn
                      · cases htn
                    · cases htn
                  · cases htn
                obtain ⟨hi, hgx, hd3, hd4, hd7⟩ := hi
                subst hi
                obtain ⟨Cn, Tn, names, hcl, hnl, hfit, hfits, hlk0, hini0, hatoms⟩ := okc.2.2.2.2.2.1 k idx ci ic hgx
                obtain ⟨-, hfc, kC, hkC, -⟩ := hK.1 ci _ hcl
                have hXs1 : sh_ls "UNASSIGNED_STACK" Bundle.steD (fun q => base ≤ q) s s.heap := sh_ls_kept hX.2.2.1 (fun a ha => hold a (Nat.not_le.mp ha))
                have hXs2 : sh_ls "SUPPRESSED_SENTINEL" Bundle.listD (fun q => base ≤ q) s s.heap := sh_ls_kept hX.2.2.2.1 (fun a ha => hold a (Nat.not_le.mp ha))
                have hat : ∀ a ∈ Bundle.ownAtoms0 (sh_O G k) ic Cn names, a.before args s = true := by
                  intro a ha
                  rcases hatoms a ha with h9 | h9
                  · exact hts _ h9
                  · simp only [sh_thW, List.mem_cons, List.not_mem_nil, or_false] at h9
                    rcases h9 with rfl | rfl | rfl | rfl
                    · exact sh_ls_lays hXs1
                    · exact sh_ls_lays hXs2
                    · exact sh_ls_ref hXs1
                    · exact sh_ls_ref hXs2
                have hszH : H.size = ad (h.length + 1) := by rw [had _ hwt.1]; exact hW.1
                have hwm : ((st.map (sh_v ad)).map fun v => v.category).sum = sh_wgt st := sh_wgt_map ad st
                have hpushW : ∀ (H1 : Heap) (ce : Cell), H1.size = H.size + 1 → (∀ q, q < H.size → H1[q]? = H[q]?) → H1[H.size]? = some ce → ce.cls = D.1 ci → ce.vm = .none → sh_W G D dT ad base H0 (h ++ [.inr (ci, [])]) H1 := by
                  intro H1 ce z1 z2 z3 z4 z5
                  refine sh_push had hwt.1 hW (by rw [← hszH]; exact z1) (by rw [← hszH]; exact z2) ?_
                  rw [← hszH]
                  exact ⟨_, hcl, ce, z3, z4, z5, fun j hj => absurd hj (Nat.not_lt_zero j)⟩
                have hpushS : ∀ (H1 : Heap) (locs2 : List Loc), H1.size = H.size + 1 → (∀ q, q < H.size → H1[q]? = H[q]?) → (∀ q ∈ locs2, q.base = H.size) → va_S (fun q => base ≤ q) s.heap H1 (locs ++ locs2) := by
                  intro H1 locs2 z1 z2 z3
                  have w1 := hW.1
                  have w2 := hS.1
                  refine ⟨by omega, fun q h1 h2 => ?_, fun q hq => ?_⟩
                  · rw [z2 q (by omega)]
                    exact hS.2.1 q h1 h2
                  · rcases List.mem_append.mp hq with h3 | h3
                    · exact hS.2.2 q h3
                    · show base ≤ q.base
                      rw [z3 q h3]
                      omega
                have hadm : ∀ e2 : Env, l.admits e2 → e2.platform.stackTraces = false := fun e2 he2 => by rw [he2.platform]; exact htr
                have hlocs9 : ∀ x ∈ locs, ∀ cell, s.heap[x.base]? = some cell → cell.vm.isStatics = false := fun x hx9 cell hc9 => hX0.2 _ cell (hS.2.2 x hx9) hc9
                split at hrun
                · rename_i hfd
                  cases hrun
                  have a3 : 8 ≤ R.frames := hfr
                  have a4 : 200 ≤ R.locals := hlo
                  refine sh_tnew hx hb hadm hown hfit hfits hat (hts _ hlk0) (hts _ hini0) hlocs9 hS.1 hfc (hl.1.trans hml.symm) hd hd3 hd4 hd7 hcs hss (by omega) (by rw [hwm]; omega) fun H1 ce locs2 z1 z2 z3 z4 z5 z6 => ?_
                  have hW1 := hpushW H1 ce z1 z2 z3 z4 z5
                  have hS1 := hpushS H1 locs2 z1 z2 z6
                  rw [hszH]
                  exact sh_leave (sh_out hhd hfd) (fun t2 ht _ => ⟨rfl, by rw [ht]; exact hW1, by rw [ht]; exact hS1.1⟩) hS1.2.2 hlk
                · rename_i hpc hfd
                  obtain ⟨o3, h3, u3, e1, e2⟩ := sh_more_some hrun
                  have e4 : o = o3 := congrArg (fun q => q.1) e2
                  have e5 : h2 = h3 := congrArg (fun q => q.2.1) e2
                  have e6 : u = (1 + u3.1, 6 + u3.2.1, u3.2.2) := congrArg (fun q => q.2.2) e2
                  subst e4
                  subst e5
                  subst e6
                  have hmin := sh_run_min _ _ _ _ _ _ _ e1
                  have a1 : cells + (1 + u3.1) ≤ R.cells := hcs
                  have a2 : slots + (6 + u3.2.1) ≤ R.slots := hss
                  have a3 : u3.2.2.1 ≤ R.frames := hfr
                  have a4 : u3.2.2.2 ≤ R.locals := hlo
                  have a5 : 8 ≤ u3.2.2.1 := hmin.1
                  have a6 : 200 ≤ u3.2.2.2 := hmin.2
                  refine sh_tnew hx hb hadm hown hfit hfits hat (hts _ hlk0) (hts _ hini0) hlocs9 hS.1 hfc (hl.1.trans hml.symm) hd hd3 hd4 hd7 (by omega) (by omega) (by omega) (by rw [hwm]; omega) fun H1 ce locs2 z1 z2 z3 z4 z5 z6 => ?_
                  have hW1 := hpushW H1 ce z1 z2 z3 z4 z5
                  have hS1 := hpushS H1 locs2 z1 z2 z6
                  rw [hszH]
                  have hk := ih k hpc lv [.ref (h.length + 1)] (h ++ [.inr (ci, [])]) o h2 u3 e1 p l e R s m args below meth c D dT ad base H0 htr C0 a3 a4 H1 (locs ++ locs2) (cells + 1) (slots + 6) ls (by omega) (by omega) hl hW1 hS1
                  rw [Nat.add_assoc, Nat.add_assoc] at hk
                  exact sh_in okc C0 hfd hW1 hk
                · cases hrun
              · cases hrun
            · split at hrun
              · rename_i x r0 hent hret
                split at hrun
                · rename_i hfd
                  cases hrun
                  refine sh_athrow hx hb hd ?_
                  exact sh_leave (sh_out hhd hfd) (fun t2 ht _ => ⟨rfl, by rw [ht]; exact hW, by rw [ht]; exact hS.1⟩) hS.2.2 hlk
                · rename_i hpc hfd
                  refine sh_athrow hx hb hd ?_
                  exact sh_in okc C0 hfd hW (ih k hpc lv _ h o h2 u hrun p l e R s m args below meth c D dT ad base H0 htr C0 hfr hlo H locs cells slots ls hcs hss hl hW hS)
                · cases hrun
              · split at hrun
                · rename_i pc2 lv2 st2 h3 dc ds h1
                  cases hz : sh_run G sc n k pc2 lv2 st2 h3 with
                  | none => rw [hz] at hrun; cases hrun
                  | some z =>
                    obtain ⟨o2, h4, u2⟩ := z
                    rw [hz] at hrun
                    have hrun3 := Option.some.inj hrun
                    have e1 : o2 = o := congrArg (fun q => q.1) hrun3
                    have e2 : h4 = h2 := congrArg (fun q => q.2.1) hrun3
                    have e3 : (dc + u2.1, ds + u2.2.1, u2.2.2) = u := congrArg (fun q => q.2.2) hrun3
                    subst e1
                    subst e2
                    subst e3
                    have a1 : cells + (dc + u2.1) ≤ R.cells := hcs
                    have a2 : slots + (ds + u2.2.1) ≤ R.slots := hss
                    have hmin := sh_run_min _ _ _ _ _ _ _ hz
                    have a5 : 8 ≤ u2.2.2.1 := hmin.1
                    have a6 : 200 ≤ u2.2.2.2 := hmin.2
                    refine sh_one_ok ok C0 hd h1 hl hW hS (show cells + dc ≤ R.cells by omega) (show slots + ds ≤ R.slots by omega) (Nat.le_trans a5 hfr) (Nat.le_trans a6 hlo) ?_
                    intro ls2 H2 locs2 hl2 hW2 hS2
                    have hk := ih k pc2 lv2 st2 h3 o2 h4 u2 hz p l e R s m args below meth c D dT ad base H0 htr C0 hfr hlo H2 locs2 (cells + dc) (slots + ds) ls2 (by omega) (by omega) hl2 hW2 hS2
                    rw [Nat.add_assoc, Nat.add_assoc] at hk
                    exact hk
                · cases hrun
      · cases hrun
end Good2
