/-! BOTH OBJECTS IN ONE MEMORY: run -/
section
variable {j : Nat} {m : sh_X}
/-- what the class's run may make -/
def so_td (ra rb a2 b2 : Nat) (gs : sh_gL) (m m1 : sh_X) : Prop := (m1.T = m.T ∧ m1.s = m.s ∧ a2 = ra ∧ b2 = rb) ∨ (sh_ln m.T ra < gs.length ∧ m1.T.length = m.T.length + 2 ∧ a2 = m.T.length ∧ b2 = m.T.length + 1 ∧ sh_ln m1.T a2 = sh_ln m.T (sh_rf m.T 9 0) ∧ sh_ln m1.T b2 = sh_ln m.T (sh_rf m.T 9 0) ∧ m1.T[61]? = some (sh_gb a2 b2) ∧ (∀ c t, c ≠ 61 → m.T[c]? = some t → m1.T[c]? = some t) ∧ m1.s = m.s + 2 * sh_ln m.T (sh_rf m.T 9 0))
theorem so_td.T {ra rb a2 b2 : Nat} {gs : sh_gL} {m m1 : sh_X} (h : so_td ra rb a2 b2 gs m m1) : ∀ c t, c ≠ 61 → m.T[c]? = some t → m1.T[c]? = some t := by
  rcases h with ⟨h, _⟩ | ⟨_, _, _, _, _, _, _, h, _⟩
  · intro c t _ e
    rw [h]
    exact e
  · exact h
theorem so_td.l {ra rb a2 b2 : Nat} {gs : sh_gL} {m m1 : sh_X} (h : so_td ra rb a2 b2 gs m m1) : m.T.length ≤ m1.T.length ∧ m1.T.length ≤ m.T.length + 2 := by
  rcases h with ⟨h, _⟩ | ⟨_, h, _⟩
  · rw [h]
    omega
  · omega
theorem so_ran {ra rb a2 b2 : Nat} {gs : sh_gL} {m1 mm2 : sh_X} (r : so_R j m) (hj : j ≤ 600) (g : sh_GS gs m) (v1 : sj_V ra rb m) (v2 : so_v (sh_ln m.T ra)) (v3 : m.s ≤ 6 * sj_l m + 4 * sh_ln m.T ra + 6 * j) (td : so_td ra rb a2 b2 gs m m1) (hT : mm2.T = m1.T) (hs : mm2.s = m1.s)
    (kI : ∀ c, (9 ≤ c ∧ c ≤ 27) ∨ 125 ≤ c → mm2.I c = m.I c) (k0 : ∀ f, f ≠ 14 → mm2.I 0 f = m.I 0 f) (k14 : mm2.I 0 14 = 1) (k1 : mm2.I 1 = m.I 1) (k67 : mm2.I 67 = m.I 67) (k66 : ∀ f, f = 2 ∨ f = 4 ∨ f = 7 ∨ f = 80 → mm2.I 66 f = m.I 66 f) (k5 : mm2.I 66 5 = 1) (ov : ∀ w, w < 4000 → mm2.I 122 w = 0 ∨ mm2.I 122 w = 1)
    (S : sj_Q m mm2 → mm2.T.length + 99 ≤ 900000 → so_S mm2) : so_R (j + 1) mm2 := by
  have len := r.len hj
  have T2 : ∀ c t, c ≠ 61 → m.T[c]? = some t → mm2.T[c]? = some t := fun c t h1 h2 => by rw [hT]; exact td.T c t h1 h2
  have l2 := td.l
  have q : sj_Q m mm2 := sj_Q.mk (fun c t _ _ h => T2 c t h) kI
  have tl : mm2.T.length + 99 ≤ 900000 := by rw [hT]; omega
  have le := (q.GS g tl).2
  obtain ⟨n, n4, a1, a2_, a3, a4⟩ := r.tx
  obtain ⟨kc, c1, c2, c3⟩ := r.kc
  refine so_R.mk ⟨n, n4, by rw [k0 10 (by omega)]; exact a1, by rw [k66 2 (by omega)]; exact a2_, fun i hi => by rw [k67, k1]; exact a3 i hi, fun i hi => by rw [k67]; exact a4 i hi⟩ ⟨kc, c1, by rw [k0 11 (by omega)]; exact c2, by rw [k66 80 (by omega)]; exact c3⟩ (by rw [k0 12 (by omega), k66 7 (by omega)]; exact r.pl) (by rw [k0 13 (by omega), k66 4 (by omega)]; exact r.e4) (by rw [k14, k5]) (S q tl) ?_ ov (T2 1 _ (by omega) r.t1) (T2 46 _ (by omega) r.t46) (T2 59 _ (by omega) r.t59) ?_
  · obtain ⟨_, _, _, a, b, d, nn, gv⟩ := g
    have ll : sj_l m = nn := by unfold sj_l; rw [gv.ra, gv.la]
    have rl : sh_ln m.T (sh_rf m.T 9 0) = nn := ll
    have n5 := gv.n5
    have nT := gv.nT
    have gle := gv.le
    rcases td with ⟨e1, e2, e3, e4⟩ | ⟨e1, e2, e3, e4, e5, e6, e7, e8, e9⟩
    · have eT : mm2.T = m.T := hT.trans e1
      refine ⟨ra, rb, sj_V.mk (by rw [eT]; exact v1.t) (by rw [eT]; exact v1.l) (by rw [eT]; exact v1.l2) v1.ab (by rw [eT]; exact v1.fa) (by rw [eT]; exact v1.fb), by rw [eT]; exact v2, ?_⟩
      rw [le, eT, hs, e2]
      omega
    · refine ⟨a2, b2, sj_V.mk (by rw [hT]; exact e7) (by rw [hT, e5, e6]) (by rw [hT, e5, rl]; omega) (by omega) ⟨by omega, by rw [hT]; omega⟩ ⟨by omega, by rw [hT]; omega⟩, ?_, ?_⟩
      · rw [hT, e5, rl]
        unfold so_v
        omega
      · rw [le, hT, e5, hs, e9, rl, ll]
        rw [ll] at v3
        unfold so_v at v2
        omega
  · rw [le]
    have := r.tl
    rw [hT]
    omega
theorem so_run (r : so_R j m) (hj : j ≤ 600) : ∃ (b : Bool) (m1 m2 : sh_X), sf_219 m = some (b, m1) ∧ sf_338 m1 = some (b, m2) ∧ so_R (j + 1) m2 := by
  have len := r.len hj
  obtain ⟨ra, rb, v1, v2, v3⟩ := r.V
  rcases r.S with ⟨s0, gs, x0, g⟩ | ⟨s1, R, nn, W, f, gs, E, g, D, O⟩ | ⟨s2, a, b, o, nw, ng, f, gs, Y, D, O⟩
  · refine ⟨false, m, (m.T, sh_u2 m.I 66 0 0, m.J, m.s), ?_, ?_, so_Mw.R r hj r.tx.w⟩
    · unfold sf_219
      rw [r.e4, if_pos s0]
    · unfold sf_338
      rw [if_pos s0]
  · have h13 : m.I 0 13 = 1 := r.e4.trans s1
    obtain ⟨_, _, m0, mc, _, _, c1, _, c2, c3, c4, _⟩ := sj_run1 (mm := m) R E v1 (by omega) h13 s1 D
    have I1 : ∀ c, c ≠ 0 → mc.I c = m.I c := fun c hc => by rw [c2, se_Ic hc, c3]
    have J1 : ∀ c, c < 125 → c ≠ 26 → c ≠ 61 → c ≠ 62 → c ≠ 63 → c ≠ 64 → c ≠ 65 → mc.J c = m.J c := fun c q1 q2 q3 q4 q5 q6 q7 => by rw [c2]; exact c4 c q1 q2 q3 q4 q5 q6 q7
    have R1 : sj_R m mc := R.cong (sj_Q.refl m) (fun c _ _ => I1 c (by omega)) (fun f _ => congrFun (I1 66 (by omega)) f)
    have E1 : sj_E nn W f m mc := E.cong (fun _ _ _ => rfl) (fun c _ _ => I1 c (by omega))
    obtain ⟨a2, b2, m1, mc', mm2, gs2, d1, d2, d3, d4, d5, d6, d7, d8, d9, d10, d11, d12, d13, d14, d15, ⟨W2, f2, d16⟩, d17⟩ := sj_run1 (mm := mc) R1 E1 v1 (by omega) h13 (by rw [I1 66 (by omega)]; exact s1) (fun X hX k hk => by rw [J1 103 (by omega) (by omega) (by omega) (by omega) (by omega) (by omega) (by omega)]; exact D X hX k hk)
    have e : mc' = mc := by rw [c1] at d1; exact (congrArg Prod.snd (Option.some.inj d1)).symm
    subst e
    have T1 : mc'.T = m1.T := by rw [d3]
    have s1' : mc'.s = m1.s := by rw [d3]
    have i0 : mm2.I 0 = mc'.I 0 := d10 0 (by omega) (by omega)
    have F : ∀ f, f ≠ 14 → mc'.I 0 f = m.I 0 f := fun f hf => by rw [d3, se_In (fun _ => hf), d4]
    refine ⟨true, mc', mm2, c1, d2, so_ran r hj d7 v1 v2 v3 d6 (d8.trans T1) (d9.trans s1') (fun c hc => by rw [d10 c (by omega) (by omega)]; exact I1 c (by omega)) (fun f hf => by rw [i0]; exact F f hf) (by rw [i0, d3]; exact se_Is) (by rw [d10 1 (by omega) (by omega)]; exact I1 1 (by omega)) (by rw [d10 67 (by omega) (by omega)]; exact I1 67 (by omega)) (fun f hf => by rw [d14 f (by omega) (by omega) (by omega)]; exact congrFun (I1 66 (by omega)) f) d13 (by rw [d10 122 (by omega) (by omega), I1 122 (by omega)]; exact r.ov) (fun q tl => ?_)⟩
    refine Or.inr (Or.inl ⟨?_, d15.cong q (fun _ _ _ => rfl) (fun _ _ => rfl), nn, W2, f2, gs2, d16.cong (fun c h1 h2 => q.I c (Or.inl ⟨by omega, h2⟩)) (fun _ _ _ => rfl), (q.GS d7 tl).1, fun X hX k hk => ?_, fun _ k hk => ?_⟩)
    · rw [d14 4 (by omega) (by omega) (by omega), I1 66 (by omega)]
      exact s1
    · rw [d11 (16 + 5 * X) (by omega) (by omega), d11 103 (by omega) (by omega), J1 (16 + 5 * X) (by omega) (by omega) (by omega) (by omega) (by omega) (by omega) (by omega), J1 103 (by omega) (by omega) (by omega) (by omega) (by omega) (by omega) (by omega)]
      exact D X hX k hk
    · rw [d11 26 (by omega) (by omega)]
      exact d17 k hk
  · have h13 : m.I 0 13 = 2 := r.e4.trans s2
    have hY : sh_Yp gs ra rb m := v1.Yp Y.g (by omega)
    have Da : ∀ k, k < sj_n a → m.J 16 k = m.J 103 k := fun k hk => by
      have := D 0 (by omega) k hk
      rw [show 256 * 0 + k = k by omega] at this
      exact this
    have Db : ∀ k, k < sj_n b → m.J 21 k = m.J 103 (256 + k) := fun k hk => D 1 (by omega) k hk
    obtain ⟨_, _, m0, mc, _, c1, _, c2, c3, c4, _⟩ := sj_run2 (mm := m) Y hY r.ov h13 s2 Da Db
    have I1 : ∀ c, c ≠ 0 → mc.I c = m.I c := fun c hc => by rw [c2, se_Ic hc, c3]
    have J1 : ∀ c, c < 125 → c ≠ 26 → c ≠ 61 → c ≠ 62 → c ≠ 63 → c ≠ 64 → c ≠ 65 → mc.J c = m.J c := fun c q1 q2 q3 q4 q5 q6 q7 => by rw [c2]; exact c4 c q1 q2 q3 q4 q5 q6 q7
    have j103 := J1 103 (by omega) (by omega) (by omega) (by omega) (by omega) (by omega) (by omega)
    have Y1 : sj_Y a b o nw ng f gs m mc := Y.cong (sj_Q.refl m) (by omega) rfl (fun c _ _ => I1 c (by omega)) (fun i _ => congrFun (I1 66 (by omega)) i)
    obtain ⟨a2, b2, m1, mc', mm2, d1, d2, d3, d4, d5, d6, d8, d9, d10, d11, d12, d13, d14, d15, d17⟩ := sj_run2 (mm := mc) Y1 hY (by rw [I1 122 (by omega)]; exact r.ov) h13 (by rw [I1 66 (by omega)]; exact s2) (fun k hk => by rw [j103]; exact Da k hk) (fun k hk => by rw [j103]; exact Db k hk)
    have e : mc' = mc := by rw [c1] at d1; exact (congrArg Prod.snd (Option.some.inj d1)).symm
    subst e
    have T1 : mc'.T = m1.T := by rw [d3]
    have s1' : mc'.s = m1.s := by rw [d3]
    have i0 : mm2.I 0 = mc'.I 0 := d10 0 (by omega) (by omega)
    have F : ∀ f, f ≠ 14 → mc'.I 0 f = m.I 0 f := fun f hf => by rw [d3, se_In (fun _ => hf), d4]
    refine ⟨true, mc', mm2, c1, d2, so_ran r hj Y.g v1 v2 v3 d6 (d8.trans T1) (d9.trans s1') (fun c hc => by rw [d10 c (by omega) (by omega)]; exact I1 c (by omega)) (fun f hf => by rw [i0]; exact F f hf) (by rw [i0, d3]; exact se_Is) (by rw [d10 1 (by omega) (by omega)]; exact I1 1 (by omega)) (by rw [d10 67 (by omega) (by omega)]; exact I1 67 (by omega)) (fun f hf => by rw [d15 f (by omega) (by omega)]; exact congrFun (I1 66 (by omega)) f) d14 d12 (fun q tl => ?_)⟩
    refine Or.inr (Or.inr ⟨?_, a, b, o, nw, ng, f, gs, Y1.cong q tl (by rw [d10 58 (by omega) (by omega)]; exact I1 58 (by omega)) (fun c h1 h2 => d10 c (by omega) (by omega)) (fun i hi => d15 i (by omega) (by omega)), fun X hX k hk => ?_, fun _ k hk => ?_⟩)
    · rw [d15 4 (by omega) (by omega), I1 66 (by omega)]
      exact s2
    · rw [d11 (16 + 5 * X) (by omega), d11 103 (by omega), J1 (16 + 5 * X) (by omega) (by omega) (by omega) (by omega) (by omega) (by omega) (by omega), j103]
      exact D X hX k hk
    · rw [d11 26 (by omega)]
      exact d17 k hk
end
