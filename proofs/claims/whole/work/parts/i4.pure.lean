/-! GATES: the mark of the inputs is set, and taken away -/
theorem sh_o32 {x : Nat} (h : x % 4294967296 = 0) : Int32.ofNat x = 0 := by
  have e : BitVec.ofNat 32 x = BitVec.ofNat 32 0 := by
    apply BitVec.eq_of_toNat_eq
    rw [BitVec.toNat_ofNat, BitVec.toNat_ofNat]
    omega
  exact Int32.toBitVec_inj.mp e
/-- the same gates, but for the words of those that have no operands -/
def sh_sk : sh_gL → sh_gL → Prop
  | [], [] => True
  | a :: r, b :: s => (a = b ∨ (a.1 = 0 ∧ b.1 = 0)) ∧ sh_sk r s
  | [], _ :: _ => False
  | _ :: _, [] => False
theorem sh_sk.refl : ∀ gs : sh_gL, sh_sk gs gs
  | [] => True.intro
  | _ :: r => ⟨Or.inl rfl, sh_sk.refl r⟩
theorem sh_sk.len : ∀ {a b : sh_gL}, sh_sk a b → b.length = a.length
  | [], [], _ => rfl
  | _ :: r, _ :: s, h => by rw [List.length_cons, List.length_cons, sh_sk.len h.2]
  | [], _ :: _, h => h.elim
  | _ :: _, [], h => h.elim
theorem sh_sk.app {a b : sh_gL} (h : sh_sk a b) : ∀ e : sh_gL, sh_sk (e ++ a) (e ++ b)
  | [] => h
  | _ :: r => ⟨Or.inl rfl, h.app r⟩
theorem sh_sk.va (p : Nat → Bool) : ∀ {a b : sh_gL}, sh_sk a b → ∀ i, sh_va p b i = sh_va p a i
  | [], [], _ => fun _ => rfl
  | g :: r, g2 :: s, h => fun i => by
    show (if i = s.length then _ else sh_va p s i) = (if i = r.length then _ else sh_va p r i)
    rw [h.2.len]
    by_cases e : i = r.length
    · rw [if_pos e, if_pos e]
      rcases h.1 with q | ⟨q1, q2⟩
      · rw [← q]
        cases g.1 with
        | zero => rfl
        | succ k =>
          cases k with
          | zero => show Bool.xor _ _ = Bool.xor _ _; rw [sh_sk.va p h.2, sh_sk.va p h.2]
          | succ k => show (_ && _) = (_ && _); rw [sh_sk.va p h.2, sh_sk.va p h.2]
      · rw [q1, q2]
        rfl
    · rw [if_neg e, if_neg e]
      exact sh_sk.va p h.2 i
  | [], _ :: _, h => h.elim
  | _ :: _, [], h => h.elim
theorem sh_sk.ga : ∀ {a b : sh_gL}, sh_sk a b → ∀ i, i < a.length → sh_ga b i = sh_ga a i ∨ ((sh_ga a i).1 = 0 ∧ (sh_ga b i).1 = 0)
  | [], [], _ => fun i hi => absurd hi (Nat.not_lt_zero _)
  | g :: r, g2 :: s, h => fun i hi => by
    by_cases e : i = r.length
    · subst e
      rw [sh_ga_new, ← h.2.len, sh_ga_new]
      rcases h.1 with q | q
      · exact Or.inl q.symm
      · exact Or.inr q
    · have hl : i < r.length := by simp at hi; omega
      rw [sh_ga_old hl, sh_ga_old (by rw [h.2.len]; exact hl)]
      exact sh_sk.ga h.2 i hl
  | [], _ :: _, h => h.elim
  | _ :: _, [], h => h.elim
theorem sh_GS.sk {gs gs2 : sh_gL} {m : sh_X} (h : sh_GS gs m) (k : sh_sk gs gs2) (w : sh_gw0 gs2) : sh_GS gs2 m := by
  obtain ⟨h1, h6, h7, a, b, d, n, g⟩ := h
  have len := k.len
  have k0 : ∀ i, i < gs.length → (sh_ga gs2 i).1 = (sh_ga gs i).1 := fun i hi => by
    rcases k.ga i hi with q | ⟨q1, q2⟩
    · rw [q]
    · rw [q1, q2]
  have ops : ∀ i, i < gs.length → Int32.ofNat (sh_ga gs2 i).2.1 = Int32.ofNat (sh_ga gs i).2.1 ∧ Int32.ofNat (sh_ga gs2 i).2.2 = Int32.ofNat (sh_ga gs i).2.2 := fun i hi => by
    rcases k.ga i hi with q | ⟨q1, q2⟩
    · rw [q]; exact ⟨rfl, rfl⟩
    · have z1 := sh_gw0_z g.wf hi q1
      have z2 := sh_gw0_z w (by omega) q2
      rw [z1.1, z2.1, sh_o32 z1.2.1, sh_o32 z2.2.1]
      exact ⟨rfl, rfl⟩
  refine ⟨by omega, by rw [k0 0 (by omega)]; exact h6, by rw [k0 1 (by omega)]; exact h7, a, b, d, n, sh_Gv.mk (ra := g.ra) (rb := g.rb) (rc := g.rc) (la := g.la) (lb := g.lb) (lc := g.lc) (ab := g.ab) (ac := g.ac) (bc := g.bc) (fa := g.fa) (fb := g.fb) (fc := g.fc) (nT := g.nT) (n0 := g.n0) (n1 := g.n1) (n5 := g.n5) (tT := g.tT) (le := by rw [len]; exact g.le) (w := by rw [len]; exact g.w) (k := fun i hi => ?_) (l := fun i hi => ?_) (r := fun i hi => ?_) (wf := w)⟩
  · rw [k0 i (by omega)]; exact g.k i (by omega)
  · rw [(ops i (by omega)).1]; exact g.l i (by omega)
  · rw [(ops i (by omega)).2]; exact g.r i (by omega)
theorem sh_pe.sk {gs gs2 : sh_gL} {m : sh_X} {i x : Nat} (h : sh_pe m gs i x) (k : sh_sk gs gs2) : sh_pe m gs2 i x := ⟨h.1, by rw [k.len]; exact h.2⟩
theorem sh_RS.sk {gs gs2 : sh_gL} {u : Nat} {m : sh_X} (h : sh_RS gs u m) (k : sh_sk gs gs2) (w : sh_gw0 gs2) : sh_RS gs2 u m := ⟨h.1.sk k w, h.2.1, h.2.2.1, h.2.2.2.1, h.2.2.2.2.1.sk k, h.2.2.2.2.2.sk k⟩
theorem sh_val.sk {m : sh_X} {gs gs2 : sh_gL} {u w n : Nat} {F : Nat → (Nat → Bool) → Bool} (h : sh_val m gs u w n F) (k : sh_sk gs gs2) : sh_val m gs2 u w n F := ⟨h.1, fun j hj => by
  obtain ⟨x, x1, x2⟩ := h.2 j hj
  exact ⟨x, x1.sk k, fun p => by rw [k.va]; exact x2 p⟩⟩
theorem se_V.sk {p : Nat → Bool} {m : sh_X} {gs gs2 : sh_gL} {u w k b n : Nat} {v : Nat → Int64} (h : se_V p m gs u w k b n v) (s : sh_sk gs gs2) : se_V p m gs2 u w k b n v := by
  obtain ⟨F, h1, h2⟩ := h
  exact ⟨F, h1.sk s, h2⟩
section
variable {N : Nat} {K : Nat → Int32} {P V : Nat → Nat} {A C : Nat → Nat → Int32} {p : Nat → Bool} {gs gs2 : sh_gL} {u z q B M fr cl sp cw ifs cd kn tp : Nat} {ac : Bool} {mc mm m : sh_X}
theorem se_c.sk (h : se_c N K P V C gs u z q B fr cl sp cw ifs cd kn m) (s : sh_sk gs gs2) (w : sh_gw0 gs2) : se_c N K P V C gs2 u z q B fr cl sp cw ifs cd kn m := se_c.mk (h.rs.sk s w) h.wc h.cc h.h46 h.cz h.cq h.cB h.cfr h.ccl h.csp h.ccw h.cif h.ccd h.ckn
theorem se_O.sk (h : se_O p gs mc mm) (s : sh_sk gs gs2) : se_O p gs2 mc mm := by
  obtain ⟨n, W, f, o1, o2, o3, o4⟩ := h
  refine ⟨n, W, f, o1, o2, o3, fun k hk => ?_⟩
  obtain ⟨x1, x2, x3⟩ := o4 k hk
  exact ⟨x1, fun i hi => by rw [s.len]; exact x2 i hi, fun j hj => by rw [s.va]; exact x3 j hj⟩
theorem se_J.sk (h : se_J N K V p gs u q B M tp cw ac mc mm) (s : sh_sk gs gs2) : se_J N K V p gs2 u q B M tp cw ac mc mm := by
  refine se_J.mk (fun i hi => ?_) h.sep h.nM h.lM (by rw [s.va]; exact h.ac_) (by rw [s.len]; exact h.lcw) (h.ou.sk s)
  obtain ⟨t, k, b, n, a, r1, r2, r3, r4, r5, r6, r7, r8, r9⟩ := h.nm i hi
  refine ⟨t, k, b, n, a, r1, r2, r3, r4, r5, r6, r7, r8, ?_⟩
  rcases r9 with r9 | ⟨x1, x2, x3, w, x4, x5⟩
  · exact Or.inl r9
  · exact Or.inr ⟨x1, x2, x3, w, x4, x5.sk s⟩
end
/-- the mark is set -/
def sh_gm (n Z : Nat) : sh_gL := List.replicate n (0, 0, 0) ++ [(0, 4294967296 * Z, 0)]
theorem sh_gm_len (n Z : Nat) : (sh_gm n Z).length = n + 1 := by unfold sh_gm; rw [List.length_append, List.length_replicate]; rfl
theorem sh_gm_gh (n Z : Nat) : sh_gh (sh_gm n Z) = 4294967296 * Z := by
  unfold sh_gh sh_gm
  rw [sh_ga_ext (by show 0 < 1; omega)]
  rfl
theorem sh_gm_wf {Z : Nat} (hZ : 0 < Z) : ∀ n, n + 1 ≤ Z → sh_gw0 (sh_gm n Z)
  | 0, _ => ⟨by show 0 ≤ 2; omega, Or.inl ⟨rfl, rfl, Or.inl ⟨rfl, by show (4294967296 * Z) % 4294967296 = 0; omega⟩⟩, True.intro⟩
  | n + 1, h => ⟨by show 0 ≤ 2; omega, Or.inl ⟨rfl, rfl, Or.inr ⟨by show 0 < (sh_gm n Z).length; rw [sh_gm_len]; omega, rfl, Or.inr (by show (sh_gm n Z).length < sh_gh (sh_gm n Z) / 4294967296; rw [sh_gm_len, sh_gm_gh]; omega)⟩⟩, sh_gm_wf hZ n (by omega)⟩
theorem sh_gm_sk {Z : Nat} : ∀ n, sh_sk (List.replicate (n + 1) (0, 0, 0)) (sh_gm n Z)
  | 0 => ⟨Or.inr ⟨rfl, rfl⟩, True.intro⟩
  | n + 1 => ⟨Or.inl rfl, sh_gm_sk n⟩
/-- the mark is taken away -/
def sh_clp (gs : sh_gL) : sh_gL := gs.map (fun g => if g.1 = 0 then (0, 0, 0) else g)
theorem sh_cl_sk : ∀ gs : sh_gL, sh_sk gs (sh_clp gs)
  | [] => True.intro
  | g :: r => ⟨by
      by_cases h : g.1 = 0
      · exact Or.inr ⟨h, by show (if g.1 = 0 then ((0 : Nat), (0 : Nat), (0 : Nat)) else g).1 = 0; rw [if_pos h]⟩
      · exact Or.inl (by show g = (if g.1 = 0 then ((0 : Nat), (0 : Nat), (0 : Nat)) else g); rw [if_neg h]), sh_cl_sk r⟩
theorem sh_cl_gh : ∀ {gs : sh_gL}, sh_gw0 gs → sh_gh (sh_clp gs) = 0
  | [], _ => rfl
  | g :: r, h => by
    by_cases e : 0 < r.length
    · have : sh_gh (sh_clp (g :: r)) = sh_gh (sh_clp r) := by
        unfold sh_gh
        show (sh_ga ((if g.1 = 0 then ((0 : Nat), (0 : Nat), (0 : Nat)) else g) :: sh_clp r) 0).2.1 = _
        rw [sh_ga_old (by rw [(sh_cl_sk r).len]; exact e)]
      rw [this]
      exact sh_cl_gh h.2.2
    · have r0 : r = [] := by
        cases r with
        | nil => rfl
        | cons a b => exact absurd (Nat.succ_pos _) e
      subst r0
      rcases h.2.1 with ⟨q, _⟩ | ⟨q, _⟩
      · show (if g.1 = 0 then ((0 : Nat), (0 : Nat), (0 : Nat)) else g).2.1 = 0
        rw [if_pos q]
      · exact absurd q (Nat.not_lt_zero _)
theorem sh_cl_wf : ∀ {gs : sh_gL}, sh_gw0 gs → sh_gw0 (sh_clp gs)
  | [], _ => True.intro
  | g :: r, h => by
    have len : (sh_clp r).length = r.length := (sh_cl_sk r).len
    have gh := sh_cl_gh h.2.2
    refine ⟨?_, ?_, sh_cl_wf h.2.2⟩
    · show (if g.1 = 0 then ((0 : Nat), (0 : Nat), (0 : Nat)) else g).1 ≤ 2
      by_cases e : g.1 = 0
      · rw [if_pos e]; show 0 ≤ 2; omega
      · rw [if_neg e]; exact h.1
    · show ((if g.1 = 0 then ((0 : Nat), (0 : Nat), (0 : Nat)) else g).1 = 0 ∧ sh_gq (if g.1 = 0 then ((0 : Nat), (0 : Nat), (0 : Nat)) else g) (sh_clp r)) ∨ ((if g.1 = 0 then ((0 : Nat), (0 : Nat), (0 : Nat)) else g).2.1 < (sh_clp r).length ∧ (if g.1 = 0 then ((0 : Nat), (0 : Nat), (0 : Nat)) else g).2.2 < (sh_clp r).length ∧ ¬ (if g.1 = 0 then ((0 : Nat), (0 : Nat), (0 : Nat)) else g).1 = 0)
      by_cases e : g.1 = 0
      · rw [if_pos e]
        refine Or.inl ⟨rfl, rfl, ?_⟩
        by_cases l0 : r.length = 0
        · exact Or.inl ⟨by omega, rfl⟩
        · exact Or.inr ⟨by omega, rfl, Or.inl gh⟩
      · rw [if_neg e]
        rcases h.2.1 with ⟨q, _⟩ | ⟨q1, q2, q3⟩
        · exact absurd q e
        · exact Or.inr ⟨by omega, by omega, q3⟩
theorem sh_cl_z : ∀ gs : sh_gL, sh_gz (sh_clp gs)
  | [] => fun w hw => absurd hw (Nat.not_lt_zero _)
  | g :: r => fun w hw h0 => by
    have len : (sh_clp r).length = r.length := (sh_cl_sk r).len
    by_cases e : w = (sh_clp r).length
    · subst e
      have en : sh_ga (sh_clp (g :: r)) (sh_clp r).length = (if g.1 = 0 then ((0 : Nat), (0 : Nat), (0 : Nat)) else g) := sh_ga_new
      rw [en] at h0 ⊢
      by_cases q : g.1 = 0
      · rw [if_pos q]; exact ⟨rfl, rfl⟩
      · rw [if_neg q] at h0; exact absurd h0 q
    · have hl : w < (sh_clp r).length := by
        have : (sh_clp (g :: r)).length = (sh_clp r).length + 1 := rfl
        omega
      have eo : sh_ga (sh_clp (g :: r)) w = sh_ga (sh_clp r) w := sh_ga_old hl
      rw [eo] at h0 ⊢
      exact sh_cl_z r w hl h0
