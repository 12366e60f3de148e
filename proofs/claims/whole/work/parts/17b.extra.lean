/-! ROWS: conditions; the script; calls over any heap; locals that are forgotten -/
section Rows3
variable {G : sh_G} {sc : sh_S} {k pc : Nat} {lv : sh_Ls} {st : List Value} {h h3 : sh_H} {o : Outcome} {v : sh_U} {T : List sh_Tg} {I : Nat → Nat → Int32} {J : Nat → Nat → Int64}
theorem sh_Bltt {x y : Int32} (h : x < y) : Op.if_icmp.holds .lt x y = true := decide_eq_true h
theorem sh_Bltf {x y : Int32} (h : ¬ x < y) : Op.if_icmp.holds .lt x y = false := decide_eq_false h
theorem sh_Bget {x y : Int32} (h : ¬ x < y) : Op.if_icmp.holds .ge x y = true := decide_eq_true (show y ≤ x from Int32.not_lt.mp h)
theorem sh_Bgef {x y : Int32} (h : x < y) : Op.if_icmp.holds .ge x y = false := decide_eq_false (show ¬ y ≤ x from Int32.not_le.mpr h)
theorem sh_Bgtt {x y : Int32} (h : y < x) : Op.if_icmp.holds .gt x y = true := decide_eq_true h
theorem sh_Bgtf {x y : Int32} (h : ¬ y < x) : Op.if_icmp.holds .gt x y = false := decide_eq_false h
theorem sh_Blet {x y : Int32} (h : ¬ y < x) : Op.if_icmp.holds .le x y = true := decide_eq_true (show x ≤ y from Int32.not_lt.mp h)
theorem sh_Blef {x y : Int32} (h : y < x) : Op.if_icmp.holds .le x y = false := decide_eq_false (show ¬ x ≤ y from Int32.not_le.mpr h)
theorem sh_Beqt {x y : Int32} (h : x = y) : Op.if_icmp.holds .eq x y = true := beq_iff_eq.mpr h
theorem sh_Beqf {x y : Int32} (h : x ≠ y) : Op.if_icmp.holds .eq x y = false := beq_eq_false_iff_ne.mpr h
theorem sh_Bnet {x y : Int32} (h : x ≠ y) : Op.if_icmp.holds .ne x y = true := bne_iff_ne.mpr h
theorem sh_Bnef {x y : Int32} (h : x = y) : Op.if_icmp.holds .ne x y = false := by subst h; exact bne_self_eq_false x
/-- the script -/
theorem sh_sc1 {L : Nat} {xs : Nat → Int32} {i : Int32} {r : List Value} {pc2 : Nat} (hi : sh_gI G k pc = some (.iaload, 1)) (hsc : sc.1 = some (L, xs)) (h0 : ¬ i < 0) (hn : i.toNatClampNeg < L) (hp : pc + 1 = pc2)
    (kk : sh_To G sc k pc2 lv (.int (xs i.toNatClampNeg) :: r) h o h3 v) : sh_To G sc k pc lv (.int i :: .ref 0 :: r) h o h3 v := by
  subst hp
  refine sh_w hi rfl ?_ kk
  unfold sh_one
  dsimp only
  rw [hsc]
  show (if (!(decide (i < 0) || decide (L ≤ i.toNatClampNeg))) = true then _ else _) = _
  rw [if_pos (sh_ix h0 hn)]
theorem sh_sl1 {L : Nat} {xs : Nat → Int32} {r : List Value} {pc2 : Nat} (hi : sh_gI G k pc = some (.arraylength, 1)) (hsc : sc.1 = some (L, xs)) (hp : pc + 1 = pc2)
    (kk : sh_To G sc k pc2 lv (.int (Int32.ofNat L) :: r) h o h3 v) : sh_To G sc k pc lv (.ref 0 :: r) h o h3 v := by
  subst hp
  refine sh_w hi rfl (sh_alt_l (y := sh_alK G pc lv (.ref 0 :: r) h) ?_) kk
  show sh_al0 sc pc lv (.ref 0 :: r) h = _
  unfold sh_al0
  dsimp only
  rw [hsc]
/-- a virtual call over any heap -/
theorem sh_entH {idx k2 a : Nat} {ci : Nat} {as rest : List Value} (hg : sh_gC G (sh_On G k) idx = some (0, k2)) (hd : st.drop (sh_P G k2) = .ref (a + 1) :: rest) (hT : ∃ fs, h[a]? = some (.inr (ci, fs))) (hc : ((sh_cl G)[ci]?).map (fun q => q.1) = some (sh_Y G k2).cls) (has : .ref (a + 1) :: (st.take (sh_P G k2)).reverse = as) :
    sh_ent G k (.invokevirtual idx) st h = some (k2, as, rest) := by
  obtain ⟨fs, hT⟩ := hT
  unfold sh_ent
  simp only [hg, hd, hT, hc, has, if_true]
theorem sh_cH {idx k2 a pc2 : Nat} {ci : Nat} {as rest st2 : List Value} {r : Option Value} {h2 : sh_H} {v1 : sh_U} (hi : sh_gI G k pc = some (.invokevirtual idx, 3)) (hg : sh_gC G (sh_On G k) idx = some (0, k2)) (hd : st.drop (sh_P G k2) = .ref (a + 1) :: rest) (hT : ∃ fs, h[a]? = some (.inr (ci, fs))) (hc : ((sh_cl G)[ci]?).map (fun q => q.1) = some (sh_Y G k2).cls) (has : .ref (a + 1) :: (st.take (sh_P G k2)).reverse = as) (hw : sh_wgt rest ≤ 8 ∧ sh_wgt as ≤ sh_L G k2)
    (hm : sh_To G sc k2 0 (lv_args 0 as) [] h (.returned r) h2 v1) (hst : r.toList ++ rest = st2) (hp : pc + 3 = pc2) (kk : sh_To G sc k pc2 lv st2 h2 o h3 v) : sh_To G sc k pc lv st h o h3 (sh_seq (sh_L G k2) v1 v) := by
  subst hp
  subst hst
  exact sh_wcall hi rfl rfl (sh_entH hg hd hT hc has) hw hm kk
/-- a virtual call that throws, and it is caught -/
theorem sh_cHC {idx k2 a x hpc : Nat} {ci : Nat} {as rest : List Value} {h2 : sh_H} {v1 : sh_U} (hi : sh_gI G k pc = some (.invokevirtual idx, 3)) (hg : sh_gC G (sh_On G k) idx = some (0, k2)) (hd : st.drop (sh_P G k2) = .ref (a + 1) :: rest) (hT : ∃ fs, h[a]? = some (.inr (ci, fs))) (hc : ((sh_cl G)[ci]?).map (fun q => q.1) = some (sh_Y G k2).cls) (has : .ref (a + 1) :: (st.take (sh_P G k2)).reverse = as) (hw : sh_wgt rest ≤ 8 ∧ sh_wgt as ≤ sh_L G k2)
    (hm : sh_To G sc k2 0 (lv_args 0 as) [] h (.threw x) h2 v1) (hf : sh_find G k pc x h2 = some (some hpc)) (kk : sh_To G sc k hpc lv [.ref x] h2 o h3 v) : sh_To G sc k pc lv st h o h3 (sh_seq (sh_L G k2) v1 v) :=
  sh_wcallC hi rfl rfl (sh_entH hg hd hT hc has) hw hm hf kk
/-- where a fresh exception is caught -/
theorem sh_find1 {ci cj hpc : Nat} {q : Nat × Nat × Nat × Nat} (hf : (sh_Hd G k).find? (sh_cov pc) = some q) (hg : sh_gH G (sh_On G k) q.2.2.2 = some cj) (hc : ci = cj) (hp : q.2.2.1 = hpc) : sh_find G k pc (h.length + 1) (h ++ [.inr (ci, [])]) = some (some hpc) := by
  unfold sh_find
  rw [hf]
  dsimp only
  rw [show (h ++ [Sum.inr (ci, [])])[h.length]? = some (.inr (ci, [])) by simp, hg]
  dsimp only
  rw [if_pos hc, hp]
theorem sh_at0 {I : Nat → Nat → Int32} {J : Nat → Nat → Int64} {a ci : Nat} {fs : List (Nat ⊕ Value)} (hT : T[a]? = some (.inr (ci, fs))) : ∃ fs, (sh_rep T I J)[a]? = some (.inr (ci, fs)) := ⟨_, sh_rep_get hT⟩
end Rows3
