/-! EVALUATION: calls whole -/
theorem sh_mftI {k x : Int32} {m : sh_X} {c : Nat} (h : c ≠ 66) : (sh_mft k x m).I c = m.I c := by
  unfold sh_mft
  rw [se_Ic h, sh_u2_cell h]
/-- the model's work for the body of the FN f -/
noncomputable def se_fb (dq f : Nat) (A : Nat → Nat → Int32) (mm : sh_X) : Option (Bool × sh_X) := sh_bn (sf_290 (sq_279 dq) (A 86 f) mm) fun r2 m12 => if r2 = true then sf_294 (sq_279 dq) (m12.I 87 f) m12 else some (false, m12)
/-- behind the body of a FN: its value on both sides -/
def se_Fo (N : Nat) (K : Nat → Int32) (P V : Nat → Nat) (A C : Nat → Nat → Int32) (p : Nat → Bool) (f jr vp un n : Nat) (gs : sh_gL) (u z B M fr cl sp cw ifs cd inn li : Nat) (ac : Bool) (mc mm : sh_X) (e' : sh_gL) (n2 : Nat) (mc2 mm2 : sh_X) (u2 sp2 tp2 q2 k b nn : Nat) (v : Nat → Int64) (t : Nat) : Prop := (mc2.I 41 13 = Int32.ofNat jr) ∧ (se_c N K P V C (e' ++ gs) u2 (z + 1) q2 B fr cl sp2 cw ifs cd f mc2) ∧ (se_m N K P V A q2 B sp2 ifs cd f inn tp2 li ac mm2) ∧ (se_F u z B fr cl mc mc2) ∧ (se_G0 M B un li mm mm2) ∧ (mm2.I 66 73 = Int32.ofNat un) ∧ (se_D p mc2 (e' ++ gs) u2 z t k b nn v) ∧ (A 73 vp = Int32.ofNat t) ∧ (t ≤ N) ∧ (se_R mm2 k b nn tp2 v) ∧ (0 < nn → ∃ a, mm2.J 66 46 = Int64.ofNat a ∧ M ≤ a ∧ a < 1000000) ∧ (B ≤ q2) ∧ (q2 ≤ 1000) ∧ (u ≤ u2) ∧ (sp ≤ sp2) ∧ (sp2 ≤ 3000) ∧ (tp2 ≤ 64100) ∧ (n2 + 50 * (3000 - sp2) ≤ n + 50 * (3000 - sp) + 45) ∧ ((e' ++ gs).length + 14 * (3000 - sp2) ≤ gs.length + 14 * (3000 - sp)) ∧ (4 * u2 + 5 * (3000 - sp2) ≤ 4 * u + 5 * (3000 - sp))
theorem se_Fo.at_ {N : Nat} {K : Nat → Int32} {P V : Nat → Nat} {A C : Nat → Nat → Int32} {p : Nat → Bool} {f jr vp un n : Nat} {gs : sh_gL} {u z B M fr cl sp cw ifs cd inn li : Nat} {ac : Bool} {mc mm : sh_X} {e' : sh_gL} {n2 : Nat} {mc2 mm2 : sh_X} {u2 sp2 tp2 q2 k b nn : Nat} {v : Nat → Int64} {t : Nat} (h : se_Fo N K P V A C p f jr vp un n gs u z B M fr cl sp cw ifs cd inn li ac mc mm e' n2 mc2 mm2 u2 sp2 tp2 q2 k b nn v t) : mc2.I 41 13 = Int32.ofNat jr := h.1
theorem se_Fo.hc {N : Nat} {K : Nat → Int32} {P V : Nat → Nat} {A C : Nat → Nat → Int32} {p : Nat → Bool} {f jr vp un n : Nat} {gs : sh_gL} {u z B M fr cl sp cw ifs cd inn li : Nat} {ac : Bool} {mc mm : sh_X} {e' : sh_gL} {n2 : Nat} {mc2 mm2 : sh_X} {u2 sp2 tp2 q2 k b nn : Nat} {v : Nat → Int64} {t : Nat} (h : se_Fo N K P V A C p f jr vp un n gs u z B M fr cl sp cw ifs cd inn li ac mc mm e' n2 mc2 mm2 u2 sp2 tp2 q2 k b nn v t) : se_c N K P V C (e' ++ gs) u2 (z + 1) q2 B fr cl sp2 cw ifs cd f mc2 := h.2.1
theorem se_Fo.hm {N : Nat} {K : Nat → Int32} {P V : Nat → Nat} {A C : Nat → Nat → Int32} {p : Nat → Bool} {f jr vp un n : Nat} {gs : sh_gL} {u z B M fr cl sp cw ifs cd inn li : Nat} {ac : Bool} {mc mm : sh_X} {e' : sh_gL} {n2 : Nat} {mc2 mm2 : sh_X} {u2 sp2 tp2 q2 k b nn : Nat} {v : Nat → Int64} {t : Nat} (h : se_Fo N K P V A C p f jr vp un n gs u z B M fr cl sp cw ifs cd inn li ac mc mm e' n2 mc2 mm2 u2 sp2 tp2 q2 k b nn v t) : se_m N K P V A q2 B sp2 ifs cd f inn tp2 li ac mm2 := h.2.2.1
theorem se_Fo.hF {N : Nat} {K : Nat → Int32} {P V : Nat → Nat} {A C : Nat → Nat → Int32} {p : Nat → Bool} {f jr vp un n : Nat} {gs : sh_gL} {u z B M fr cl sp cw ifs cd inn li : Nat} {ac : Bool} {mc mm : sh_X} {e' : sh_gL} {n2 : Nat} {mc2 mm2 : sh_X} {u2 sp2 tp2 q2 k b nn : Nat} {v : Nat → Int64} {t : Nat} (h : se_Fo N K P V A C p f jr vp un n gs u z B M fr cl sp cw ifs cd inn li ac mc mm e' n2 mc2 mm2 u2 sp2 tp2 q2 k b nn v t) : se_F u z B fr cl mc mc2 := h.2.2.2.1
theorem se_Fo.hG {N : Nat} {K : Nat → Int32} {P V : Nat → Nat} {A C : Nat → Nat → Int32} {p : Nat → Bool} {f jr vp un n : Nat} {gs : sh_gL} {u z B M fr cl sp cw ifs cd inn li : Nat} {ac : Bool} {mc mm : sh_X} {e' : sh_gL} {n2 : Nat} {mc2 mm2 : sh_X} {u2 sp2 tp2 q2 k b nn : Nat} {v : Nat → Int64} {t : Nat} (h : se_Fo N K P V A C p f jr vp un n gs u z B M fr cl sp cw ifs cd inn li ac mc mm e' n2 mc2 mm2 u2 sp2 tp2 q2 k b nn v t) : se_G0 M B un li mm mm2 := h.2.2.2.2.1
theorem se_Fo.w73 {N : Nat} {K : Nat → Int32} {P V : Nat → Nat} {A C : Nat → Nat → Int32} {p : Nat → Bool} {f jr vp un n : Nat} {gs : sh_gL} {u z B M fr cl sp cw ifs cd inn li : Nat} {ac : Bool} {mc mm : sh_X} {e' : sh_gL} {n2 : Nat} {mc2 mm2 : sh_X} {u2 sp2 tp2 q2 k b nn : Nat} {v : Nat → Int64} {t : Nat} (h : se_Fo N K P V A C p f jr vp un n gs u z B M fr cl sp cw ifs cd inn li ac mc mm e' n2 mc2 mm2 u2 sp2 tp2 q2 k b nn v t) : mm2.I 66 73 = Int32.ofNat un := h.2.2.2.2.2.1
theorem se_Fo.hD {N : Nat} {K : Nat → Int32} {P V : Nat → Nat} {A C : Nat → Nat → Int32} {p : Nat → Bool} {f jr vp un n : Nat} {gs : sh_gL} {u z B M fr cl sp cw ifs cd inn li : Nat} {ac : Bool} {mc mm : sh_X} {e' : sh_gL} {n2 : Nat} {mc2 mm2 : sh_X} {u2 sp2 tp2 q2 k b nn : Nat} {v : Nat → Int64} {t : Nat} (h : se_Fo N K P V A C p f jr vp un n gs u z B M fr cl sp cw ifs cd inn li ac mc mm e' n2 mc2 mm2 u2 sp2 tp2 q2 k b nn v t) : se_D p mc2 (e' ++ gs) u2 z t k b nn v := h.2.2.2.2.2.2.1
theorem se_Fo.h73 {N : Nat} {K : Nat → Int32} {P V : Nat → Nat} {A C : Nat → Nat → Int32} {p : Nat → Bool} {f jr vp un n : Nat} {gs : sh_gL} {u z B M fr cl sp cw ifs cd inn li : Nat} {ac : Bool} {mc mm : sh_X} {e' : sh_gL} {n2 : Nat} {mc2 mm2 : sh_X} {u2 sp2 tp2 q2 k b nn : Nat} {v : Nat → Int64} {t : Nat} (h : se_Fo N K P V A C p f jr vp un n gs u z B M fr cl sp cw ifs cd inn li ac mc mm e' n2 mc2 mm2 u2 sp2 tp2 q2 k b nn v t) : A 73 vp = Int32.ofNat t := h.2.2.2.2.2.2.2.1
theorem se_Fo.tN {N : Nat} {K : Nat → Int32} {P V : Nat → Nat} {A C : Nat → Nat → Int32} {p : Nat → Bool} {f jr vp un n : Nat} {gs : sh_gL} {u z B M fr cl sp cw ifs cd inn li : Nat} {ac : Bool} {mc mm : sh_X} {e' : sh_gL} {n2 : Nat} {mc2 mm2 : sh_X} {u2 sp2 tp2 q2 k b nn : Nat} {v : Nat → Int64} {t : Nat} (h : se_Fo N K P V A C p f jr vp un n gs u z B M fr cl sp cw ifs cd inn li ac mc mm e' n2 mc2 mm2 u2 sp2 tp2 q2 k b nn v t) : t ≤ N := h.2.2.2.2.2.2.2.2.1
theorem se_Fo.hR {N : Nat} {K : Nat → Int32} {P V : Nat → Nat} {A C : Nat → Nat → Int32} {p : Nat → Bool} {f jr vp un n : Nat} {gs : sh_gL} {u z B M fr cl sp cw ifs cd inn li : Nat} {ac : Bool} {mc mm : sh_X} {e' : sh_gL} {n2 : Nat} {mc2 mm2 : sh_X} {u2 sp2 tp2 q2 k b nn : Nat} {v : Nat → Int64} {t : Nat} (h : se_Fo N K P V A C p f jr vp un n gs u z B M fr cl sp cw ifs cd inn li ac mc mm e' n2 mc2 mm2 u2 sp2 tp2 q2 k b nn v t) : se_R mm2 k b nn tp2 v := h.2.2.2.2.2.2.2.2.2.1
theorem se_Fo.hL {N : Nat} {K : Nat → Int32} {P V : Nat → Nat} {A C : Nat → Nat → Int32} {p : Nat → Bool} {f jr vp un n : Nat} {gs : sh_gL} {u z B M fr cl sp cw ifs cd inn li : Nat} {ac : Bool} {mc mm : sh_X} {e' : sh_gL} {n2 : Nat} {mc2 mm2 : sh_X} {u2 sp2 tp2 q2 k b nn : Nat} {v : Nat → Int64} {t : Nat} (h : se_Fo N K P V A C p f jr vp un n gs u z B M fr cl sp cw ifs cd inn li ac mc mm e' n2 mc2 mm2 u2 sp2 tp2 q2 k b nn v t) : 0 < nn → ∃ a, mm2.J 66 46 = Int64.ofNat a ∧ M ≤ a ∧ a < 1000000 := h.2.2.2.2.2.2.2.2.2.2.1
theorem se_Fo.lq {N : Nat} {K : Nat → Int32} {P V : Nat → Nat} {A C : Nat → Nat → Int32} {p : Nat → Bool} {f jr vp un n : Nat} {gs : sh_gL} {u z B M fr cl sp cw ifs cd inn li : Nat} {ac : Bool} {mc mm : sh_X} {e' : sh_gL} {n2 : Nat} {mc2 mm2 : sh_X} {u2 sp2 tp2 q2 k b nn : Nat} {v : Nat → Int64} {t : Nat} (h : se_Fo N K P V A C p f jr vp un n gs u z B M fr cl sp cw ifs cd inn li ac mc mm e' n2 mc2 mm2 u2 sp2 tp2 q2 k b nn v t) : B ≤ q2 := h.2.2.2.2.2.2.2.2.2.2.2.1
theorem se_Fo.q1 {N : Nat} {K : Nat → Int32} {P V : Nat → Nat} {A C : Nat → Nat → Int32} {p : Nat → Bool} {f jr vp un n : Nat} {gs : sh_gL} {u z B M fr cl sp cw ifs cd inn li : Nat} {ac : Bool} {mc mm : sh_X} {e' : sh_gL} {n2 : Nat} {mc2 mm2 : sh_X} {u2 sp2 tp2 q2 k b nn : Nat} {v : Nat → Int64} {t : Nat} (h : se_Fo N K P V A C p f jr vp un n gs u z B M fr cl sp cw ifs cd inn li ac mc mm e' n2 mc2 mm2 u2 sp2 tp2 q2 k b nn v t) : q2 ≤ 1000 := h.2.2.2.2.2.2.2.2.2.2.2.2.1
theorem se_Fo.lu {N : Nat} {K : Nat → Int32} {P V : Nat → Nat} {A C : Nat → Nat → Int32} {p : Nat → Bool} {f jr vp un n : Nat} {gs : sh_gL} {u z B M fr cl sp cw ifs cd inn li : Nat} {ac : Bool} {mc mm : sh_X} {e' : sh_gL} {n2 : Nat} {mc2 mm2 : sh_X} {u2 sp2 tp2 q2 k b nn : Nat} {v : Nat → Int64} {t : Nat} (h : se_Fo N K P V A C p f jr vp un n gs u z B M fr cl sp cw ifs cd inn li ac mc mm e' n2 mc2 mm2 u2 sp2 tp2 q2 k b nn v t) : u ≤ u2 := h.2.2.2.2.2.2.2.2.2.2.2.2.2.1
theorem se_Fo.lsp {N : Nat} {K : Nat → Int32} {P V : Nat → Nat} {A C : Nat → Nat → Int32} {p : Nat → Bool} {f jr vp un n : Nat} {gs : sh_gL} {u z B M fr cl sp cw ifs cd inn li : Nat} {ac : Bool} {mc mm : sh_X} {e' : sh_gL} {n2 : Nat} {mc2 mm2 : sh_X} {u2 sp2 tp2 q2 k b nn : Nat} {v : Nat → Int64} {t : Nat} (h : se_Fo N K P V A C p f jr vp un n gs u z B M fr cl sp cw ifs cd inn li ac mc mm e' n2 mc2 mm2 u2 sp2 tp2 q2 k b nn v t) : sp ≤ sp2 := h.2.2.2.2.2.2.2.2.2.2.2.2.2.2.1
theorem se_Fo.sp3 {N : Nat} {K : Nat → Int32} {P V : Nat → Nat} {A C : Nat → Nat → Int32} {p : Nat → Bool} {f jr vp un n : Nat} {gs : sh_gL} {u z B M fr cl sp cw ifs cd inn li : Nat} {ac : Bool} {mc mm : sh_X} {e' : sh_gL} {n2 : Nat} {mc2 mm2 : sh_X} {u2 sp2 tp2 q2 k b nn : Nat} {v : Nat → Int64} {t : Nat} (h : se_Fo N K P V A C p f jr vp un n gs u z B M fr cl sp cw ifs cd inn li ac mc mm e' n2 mc2 mm2 u2 sp2 tp2 q2 k b nn v t) : sp2 ≤ 3000 := h.2.2.2.2.2.2.2.2.2.2.2.2.2.2.2.1
theorem se_Fo.t64 {N : Nat} {K : Nat → Int32} {P V : Nat → Nat} {A C : Nat → Nat → Int32} {p : Nat → Bool} {f jr vp un n : Nat} {gs : sh_gL} {u z B M fr cl sp cw ifs cd inn li : Nat} {ac : Bool} {mc mm : sh_X} {e' : sh_gL} {n2 : Nat} {mc2 mm2 : sh_X} {u2 sp2 tp2 q2 k b nn : Nat} {v : Nat → Int64} {t : Nat} (h : se_Fo N K P V A C p f jr vp un n gs u z B M fr cl sp cw ifs cd inn li ac mc mm e' n2 mc2 mm2 u2 sp2 tp2 q2 k b nn v t) : tp2 ≤ 64100 := h.2.2.2.2.2.2.2.2.2.2.2.2.2.2.2.2.1
theorem se_Fo.n5 {N : Nat} {K : Nat → Int32} {P V : Nat → Nat} {A C : Nat → Nat → Int32} {p : Nat → Bool} {f jr vp un n : Nat} {gs : sh_gL} {u z B M fr cl sp cw ifs cd inn li : Nat} {ac : Bool} {mc mm : sh_X} {e' : sh_gL} {n2 : Nat} {mc2 mm2 : sh_X} {u2 sp2 tp2 q2 k b nn : Nat} {v : Nat → Int64} {t : Nat} (h : se_Fo N K P V A C p f jr vp un n gs u z B M fr cl sp cw ifs cd inn li ac mc mm e' n2 mc2 mm2 u2 sp2 tp2 q2 k b nn v t) : n2 + 50 * (3000 - sp2) ≤ n + 50 * (3000 - sp) + 45 := h.2.2.2.2.2.2.2.2.2.2.2.2.2.2.2.2.2.1
theorem se_Fo.g14 {N : Nat} {K : Nat → Int32} {P V : Nat → Nat} {A C : Nat → Nat → Int32} {p : Nat → Bool} {f jr vp un n : Nat} {gs : sh_gL} {u z B M fr cl sp cw ifs cd inn li : Nat} {ac : Bool} {mc mm : sh_X} {e' : sh_gL} {n2 : Nat} {mc2 mm2 : sh_X} {u2 sp2 tp2 q2 k b nn : Nat} {v : Nat → Int64} {t : Nat} (h : se_Fo N K P V A C p f jr vp un n gs u z B M fr cl sp cw ifs cd inn li ac mc mm e' n2 mc2 mm2 u2 sp2 tp2 q2 k b nn v t) : (e' ++ gs).length + 14 * (3000 - sp2) ≤ gs.length + 14 * (3000 - sp) := h.2.2.2.2.2.2.2.2.2.2.2.2.2.2.2.2.2.2.1
theorem se_Fo.u5 {N : Nat} {K : Nat → Int32} {P V : Nat → Nat} {A C : Nat → Nat → Int32} {p : Nat → Bool} {f jr vp un n : Nat} {gs : sh_gL} {u z B M fr cl sp cw ifs cd inn li : Nat} {ac : Bool} {mc mm : sh_X} {e' : sh_gL} {n2 : Nat} {mc2 mm2 : sh_X} {u2 sp2 tp2 q2 k b nn : Nat} {v : Nat → Int64} {t : Nat} (h : se_Fo N K P V A C p f jr vp un n gs u z B M fr cl sp cw ifs cd inn li ac mc mm e' n2 mc2 mm2 u2 sp2 tp2 q2 k b nn v t) : 4 * u2 + 5 * (3000 - sp2) ≤ 4 * u + 5 * (3000 - sp) := h.2.2.2.2.2.2.2.2.2.2.2.2.2.2.2.2.2.2.2
theorem se_Fo.mk {N : Nat} {K : Nat → Int32} {P V : Nat → Nat} {A C : Nat → Nat → Int32} {p : Nat → Bool} {f jr vp un n : Nat} {gs : sh_gL} {u z B M fr cl sp cw ifs cd inn li : Nat} {ac : Bool} {mc mm : sh_X} {e' : sh_gL} {n2 : Nat} {mc2 mm2 : sh_X} {u2 sp2 tp2 q2 k b nn : Nat} {v : Nat → Int64} {t : Nat} (at_ : mc2.I 41 13 = Int32.ofNat jr) (hc : se_c N K P V C (e' ++ gs) u2 (z + 1) q2 B fr cl sp2 cw ifs cd f mc2) (hm : se_m N K P V A q2 B sp2 ifs cd f inn tp2 li ac mm2) (hF : se_F u z B fr cl mc mc2) (hG : se_G0 M B un li mm mm2) (w73 : mm2.I 66 73 = Int32.ofNat un) (hD : se_D p mc2 (e' ++ gs) u2 z t k b nn v) (h73 : A 73 vp = Int32.ofNat t) (tN : t ≤ N) (hR : se_R mm2 k b nn tp2 v) (hL : 0 < nn → ∃ a, mm2.J 66 46 = Int64.ofNat a ∧ M ≤ a ∧ a < 1000000) (lq : B ≤ q2) (q1 : q2 ≤ 1000) (lu : u ≤ u2) (lsp : sp ≤ sp2) (sp3 : sp2 ≤ 3000) (t64 : tp2 ≤ 64100) (n5 : n2 + 50 * (3000 - sp2) ≤ n + 50 * (3000 - sp) + 45) (g14 : (e' ++ gs).length + 14 * (3000 - sp2) ≤ gs.length + 14 * (3000 - sp)) (u5 : 4 * u2 + 5 * (3000 - sp2) ≤ 4 * u + 5 * (3000 - sp)) : se_Fo N K P V A C p f jr vp un n gs u z B M fr cl sp cw ifs cd inn li ac mc mm e' n2 mc2 mm2 u2 sp2 tp2 q2 k b nn v t := ⟨at_, hc, hm, hF, hG, w73, hD, h73, tN, hR, hL, lq, q1, lu, lsp, sp3, t64, n5, g14, u5⟩
/-- the body of the FN f comes to the same on both sides, from every state -/
def se_FN (N : Nat) (K : Nat → Int32) (P V : Nat → Nat) (A C : Nat → Nat → Int32) (p : Nat → Bool) (pf : Nat → Nat) (F f i0 jr vp lf : Nat) : Prop :=
  ∀ (un n bb dq : Nat) (gs : sh_gL) (u z q B M fr cl sp cw ifs cd inn tp li : Nat) (ac : Bool) (mc mm : sh_X), se_c N K P V C gs u z q B fr cl sp cw ifs cd f mc → se_m N K P V A q B sp ifs cd f (inn + 1) tp li ac mm → se_J N K V p gs u q B M tp cw ac mc mm → mc.I 41 13 = Int32.ofNat i0 → mm.I 66 73 = Int32.ofNat un → se_Bd P pf F n gs.length u z q fr cl sp cd f tp li un dq 1 lf bb 1 → B ≤ q → ifs ≤ bb ∧ inn + 1 ≤ sp →
    se_bad N P mc mm (sf_78_10 (Int32.ofNat n) mc) (se_fb (dq + 3) f A mm) ∨
    ∃ e' n2 mc2 mm2 u2 sp2 tp2 q2 k b nn v t, sf_78_10 (Int32.ofNat n) mc = sf_78_10 (Int32.ofNat n2) mc2 ∧ se_fb (dq + 3) f A mm = some (true, mm2) ∧ se_Fo N K P V A C p f jr vp un n gs u z B M fr cl sp cw ifs cd (inn + 1) li ac mc mm e' n2 mc2 mm2 u2 sp2 tp2 q2 k b nn v t
/-- what is known of the FN f -/
def se_Fz (N : Nat) (K : Nat → Int32) (P V : Nat → Nat) (A C : Nat → Nat → Int32) (p : Nat → Bool) (pf : Nat → Nat) (F c2 f : Nat) : Prop :=
  ∃ i0 jr vp pv hd lf nf, A 80 f = Int32.ofNat nf ∧ nf ≤ 8 ∧ C 30 f = Int32.ofNat i0 ∧ C 36 jr = 18 ∧ C 37 jr = Int32.ofNat pv ∧ jr < c2 ∧ A 87 f = Int32.ofNat vp ∧ vp < 9000 ∧ A 78 vp = Int32.ofNat pv ∧ pv ≤ N ∧ 4 * nf ≤ hd ∧ P (pf f) + hd + lf ≤ P (pf (f + 1)) ∧ se_FN N K P V A C p pf F f i0 jr vp lf
section
variable {N : Nat} {K : Nat → Int32} {P V : Nat → Nat} {A C : Nat → Nat → Int32} {p : Nat → Bool} {pf : Nat → Nat} {F c2 fm un e i j n len d bb sg dq : Nat} {gs : sh_gL} {u z q B M fr cl sp cw ifs cd kn inn tp li : Nat} {ac : Bool} {mc mm : sh_X} {nn t dc g : Nat} {r b σ lk s : Nat → Nat}
theorem se_484f {Q : sh_Q279} {f : Nat} {x5 x7 x8 x9 : Int32} {m : sh_X} (hT : sh_Txt N K P V) (hH : sh_Hds N K V A C F) (hf : f < F) (hF : F < 256) (hw : sh_We N K P V m) (h84 : m.I 84 = A 84) : sf_315_484 Q (Int32.ofNat f) x5 x7 x8 x9 false m = some (false, m) := by
  obtain ⟨nf, nt, rt, tt, h0, _, hp1, hp2, _⟩ := hH f hf
  obtain ⟨k2, b2, n2, x, y1, y2, y3, y4, y5⟩ := se_tyw hT h0.ty hp2 h0.rN
  unfold sf_315_484
  rw [if_pos (sh_okn' (by omega) (by omega)), sh_nIc (by omega), h84, (y5 m hw).1, sh_bc_some, if_neg (by decide)]
theorem se_call (h : se_P N K P V A C p pf F c2 fm un e i n len d bb sg (g + 3) gs u z q B M fr cl sp cw ifs cd kn inn tp li ac mc mm) (hH : sh_Hds N K V A C F) (hF : F < 256) (hC : C 28 12 = Int32.ofNat F) (hPm : ∀ f, f < kn → P (pf (f + 1)) ≤ P (pf kn)) (hFz : ∀ f, f < kn → se_Fz N K P V A C p pf F c2 f)
    (h72 : A 72 e = 5) (h73 : A 73 e = Int32.ofNat t) (ht : t ≤ N) (k1 : K t = 1) (h75 : A 75 e = Int32.ofNat dc) (hdc : d ≤ dc ∧ dc ≤ 40) (h74 : A 74 e = if 0 < nn then Int32.ofNat (r 0) else -1) (hnn : nn ≤ 4000)
    (hr : ∀ k, k < nn → r k < 9000 ∧ A 77 (r k) = (if k + 1 < nn then Int32.ofNat (r (k + 1)) else -1) ∧ A 78 (r k) = Int32.ofNat (s k) ∧ s k ≤ N ∧ b k + 1 ≤ b (k + 1) ∧ b (k + 1) ≤ c2 ∧ C 36 (b (k + 1) - 1) = 16 ∧ C 37 (b (k + 1) - 1) = Int32.ofNat (s k) ∧ C 38 (b (k + 1) - 1) = Int32.ofNat k)
    (c14 : C 36 i = 14) (w14 : C 37 i = Int32.ofNat t) (x14 : C 38 i = Int32.ofNat nn) (c15 : C 36 (i + 1) = 15) (w15 : C 37 (i + 1) = Int32.ofNat t) (x15 : C 38 (i + 1) = Int32.ofNat dc) (b0 : b 0 = i + 2) (bn : b nn = j - 1) (hij : i + 2 < j) (hj2 : j ≤ c2) (c17 : C 36 (j - 1) = 17) (x17 : C 38 (j - 1) = Int32.ofNat dc)
    (hσ : ∀ k, k < nn → σ k + lk k + 1 ≤ σ (k + 1) ∧ 1 ≤ lk k) (hσn : σ nn + 1 ≤ len) (ih : ∀ k, k < nn → se_OK N K P V A C p pf F c2 kn (r k) (b k) (b (k + 1) - 1) (d + 1) (lk k)) :
    se_X N K P V A C p (sq_279 (g + 3)) fm un e j n len d bb gs u z q B fr cl sp cw ifs cd kn inn tp li ac mc mm := by
  have N4 := h.tx.N4
  obtain ⟨z1, q1, t1, n1⟩ := h.z1
  have bz := h.bd.z2
  have bt := h.bd.t16
  have bl := h.bd.l2
  have bq := h.bd.q4
  have bb4 := h.bd.bb4
  have un4 := h.bd.un4
  have n5 := h.bd.n5
  have g14 := h.bd.g14
  have u5 := h.bd.u5
  have f4 := h.bd.f4
  have cl1 := h.bd.c1
  have dq_ := h.bd.dq_
  have cd2 := h.bd.cd2
  have d40 := h.bd.d40
  have kF := h.bd.kF
  rcases se_cal0 h hH hF hC h72 h73 ht k1 h75 hdc.2 h74 (fun k hk => ⟨(hr k hk).1, (hr k hk).2.1⟩) hnn c14 w14 x14 c15 w15 x15 (by omega) with bad | ⟨f, mc1, mm1, fk, fF, f33, f80, n8, cdd, spp, e1, at1, c1, F1, h43, em1, m1, G1, w73⟩
  · exact Or.inl bad
  obtain ⟨i0, jr, vp, pv, hd, lf, nf, z80, nf8, z30, z36, z37, zjr, z87, zvp, z78, zpv, zhd, zP, zFN⟩ := hFz f fk
  have enf : nf = nn := (sh_nIeq (by omega) (by omega)).mp (z80.symm.trans f80)
  subst enf
  have bd1 : se_Bd P pf F (n + 2) gs.length u z q fr (cl + 1) (sp + (1 + nf)) cd kn tp li un g (d + 1) len bb sg :=
    se_Bd.mk bz bt bl bq bb4 un4 (by omega) (by omega) (by omega) (by omega) (by omega) (by omega) spp cd2 (by omega) (by omega)
  have J1 : se_J N K V p gs u q B M tp cw ac mc1 mm1 := h.hJ.keep0 (e := []) F1 G1 (Nat.le_refl _) (Nat.le_refl _)
  have R0 : se_Ak N K P V C p (sq_279 (g + 1)) (sf_315_177 (sq_279 (g + 1)) (Int32.ofNat f) 0 (Int32.ofNat (cd + dc)) (Int32.ofNat tp) (Int32.ofNat li) (A 74 e) mm1) un (n + 2) bb gs u z q B fr (cl + 1) (sp + (1 + nf)) cw ifs cd kn tp li mc1 mm1 f (cd + dc) nf r b σ 0 [] (n + 2) mc1 mm1 u (sp + (1 + nf)) tp :=
    se_Ak.mk rfl (by rw [h74]; rfl) (by rw [b0]; exact at1) c1 (se_F.refl mc1) (by rw [Nat.add_zero, se_li_id m1.mli]; exact se_G.refl mm1) (fun x hx => absurd hx (by omega)) w73 m1.mtp m1.msp (Nat.le_refl _) (Nat.le_refl _) spp (Nat.le_refl _) (by omega) (by omega) (Nat.le_refl _) (Nat.le_refl _)
  rcases se_argL h.tx m1 J1 bd1 h.lB h.c10 h.c6 (by have := h.ifb; omega) hH fF hF f80 n8 h43 (by omega) hσ hσn hr ih nf 0 [] (n + 2) mc1 mm1 u (sp + (1 + nf)) tp (by omega) R0 with bad | ⟨e2, n2, mc2, mm2, u2, sp2, tp2, R⟩
  · left
    rw [e1, em1]
    obtain ⟨kk, tt, x, y, r1, r2, r3, r4, r5⟩ := bad
    exact ⟨kk, tt, x, y, r1, r2, F1.thenW r3, by rw [r4]; rfl, G1.U.trans r5⟩
  have sg0 := se_sig hσ 0 nf (by omega)
  have x1 := R.n5
  have x2 := R.g14
  have x3 := R.u5
  have x4 := R.t16
  have x5 := R.lu
  have x6 := R.lsp
  have x7 := R.ltp
  have x8 := R.sp3
  have hm2 := (m1.li (l2 := li + nf)).G R.hG R.w41 R.w42
  have J2 := (J1.li (l2 := li + nf)).keep (e := e2) R.hF R.hG R.lu R.ltp
  have at2 := R.at_
  rw [bn] at at2
  have em2 := R.em
  rw [if_neg (by omega)] at em2
  obtain ⟨mc3, mm3, tp3, a1, a2, a3, a4, ⟨a50, a51, a52, a53⟩, a6, a7, a8, a9, a10, a11, a12⟩ := se_ent (un := un) (n := n2) h.tx hH fF hF f80 f33 n8 z30 (by omega) (by omega) (by omega) (by omega) (by omega) (by omega) (by omega) R.hc hm2 J2 R.el ((R.hF.cl_ cl (by omega)).trans h43) at2 h.c10 (by omega) h.c6 c17 x17 cdd (sq_279 (g + 1)) (Int32.ofNat tp)
  -- the body
  have hPm' := hPm f fk
  have M4 := a7.li (l2 := li)
  have J4 := a9.li (l2 := li)
  have bd4 : se_Bd P pf F (n2 + 1) (e2 ++ gs).length u2 z (q + nf) (fr + 4) cl sp2 (cd + dc) f tp3 li un (g - 3) 1 lf (bb + σ nf + hd) 1 :=
    se_Bd.mk (by omega) (by omega) (by omega) (by omega) (by omega) (by omega) (by omega) (by omega) (by omega) (by omega) (by omega) (by omega) x8 cdd (by omega) (by omega)
  have w734 : (se_li li mm3).I 66 73 = Int32.ofNat un := (se_liF (by omega)).trans (a12.trans R.w73)
  have F3 : se_F u z q fr cl mc mc3 := ((F1.trans (R.hF.less (u := u) (z := z) (q := q) (fr := fr) (cl := cl) (Nat.le_refl _) (Nat.le_refl _) (Nat.le_refl _) (Nat.le_refl _) (by omega)) (Nat.le_refl _) (Nat.le_refl _) (Nat.le_refl _) (Nat.le_refl _) (Nat.le_refl _))).trans a4 x5 (Nat.le_refl _) (Nat.le_refl _) (Nat.le_refl _) (Nat.le_refl _)
  have G2 : se_G0 tp q un li mm mm2 := (G1.trans (se_G0.wF (f := 79) (x := Int32.ofNat (li + nf)) (by omega)) (Nat.le_refl _) (Nat.le_refl _) (Nat.le_refl _) (Nat.le_refl _)).trans R.hG.G0 (Nat.le_refl _) (Nat.le_refl _) (Nat.le_refl _) (Nat.le_refl _)
  have G3 : se_G0 tp q un li mm (se_li li mm3) := (G2.trans a8 (by omega) (Nat.le_refl _) (Nat.le_refl _) (by omega)).trans (se_G0.wF (f := 79) (x := Int32.ofNat li) (by omega)) (Nat.le_refl _) (Nat.le_refl _) (Nat.le_refl _) (Nat.le_refl _)
  have cls : sf_78_10 (Int32.ofNat n) mc = sf_78_10 (Int32.ofNat (n2 + 1)) mc3 := e1.trans (R.ec.trans a1)
  have md3 : ∀ ro, se_fb g f A (se_li li mm3) = some ro → sf_315_177 (sq_279 (g + 1)) (Int32.ofNat f) 0 (Int32.ofNat (cd + dc)) (Int32.ofNat tp) (Int32.ofNat li) (A 74 e) mm1 = sf_315_484 (sq_279 (g + 1)) (Int32.ofNat f) (Int32.ofNat tp) (Int32.ofNat B) (Int32.ofNat kn) (Int32.ofNat cd) ro.1 ro.2 := by
    intro ro hro
    rw [em2, a6]
    unfold sf_315_363
    refine se_whileU ?_
    show sf_315_363s (sq_279 (g + 1)) (Int32.ofNat f) (Int32.ofNat nf) (Int32.ofNat tp) (Int32.ofNat li) (Int32.ofNat B) (Int32.ofNat kn) (Int32.ofNat cd) (Int32.ofNat nf) mm3 = _
    unfold sf_315_363s
    have o6 : sh_okb (Int32.ofNat f) 600 = true := sh_okn' (by omega) (by omega)
    rw [if_neg (sh_nlt0 nf), if_pos o6, sh_nIc (by omega), a7.aa 86 (by omega) (by omega)]
    unfold se_fb at hro
    show (sh_bn (sf_290 (sq_279 g) (A 86 f) (se_li li mm3)) _) = _
    cases hb : sf_290 (sq_279 g) (A 86 f) (se_li li mm3) with
    | none => rw [hb] at hro; cases hro
    | some w =>
      obtain ⟨w1, w2⟩ := w
      rw [hb, sh_bn_some] at hro
      rw [sh_bn_some]
      cases w1 with
      | false =>
        rw [if_neg (by decide)] at hro
        cases hro
        rw [if_neg (by decide)]
        rfl
      | true =>
        rw [if_pos rfl] at hro
        rw [if_pos rfl, if_pos o6]
        show (sh_bn (sf_294 (sq_279 g) (w2.I 87 f) w2) _) = _
        rw [hro, sh_bn_some]
        obtain ⟨r1, r2⟩ := ro
        cases r1 with
        | false => rfl
        | true => rfl
  have g33 : g - 3 + 3 = g := by omega
  have zFN' := zFN un (n2 + 1) (bb + σ nf + hd) (g - 3) (e2 ++ gs) u2 z (q + nf) q tp2 (fr + 4) cl sp2 cw ifs (cd + dc) inn tp3 li ac mc3 (se_li li mm3) a3 M4 J4 a2 w734 bd4 (by omega) (by have := h.ifb; have := R.lsp; omega)
  rw [g33] at zFN'
  rcases zFN' with bad | ⟨e5, n5', mc5, mm5, u5', sp5, tp5, q5, k5, b5, nn5, v5, t5, d1, d2, O⟩
  · left
    obtain ⟨kk, tt, x, y, r1, r2, r3, r4, r5⟩ := bad
    refine ⟨kk, tt, x, y, r1, by rw [cls, r2], F3.thenW r3, ?_, G3.U.trans r5⟩
    rw [em1, md3 _ r4, se_484f h.tx hH fF hF ?_ ?_]
    · rfl
    · exact M4.we.same (by rw [sh_mftI (by omega)]; exact r5.I 71 (by omega) (by omega)) (by rw [sh_mftI (by omega)]; exact r5.I 68 (by omega) (by omega)) (by rw [sh_mftI (by omega)]; exact r5.I 69 (by omega) (by omega)) (by rw [sh_mftI (by omega)]; exact r5.I 70 (by omega) (by omega))
    · rw [sh_mftI (by omega), r5.I 84 (by omega) (by omega)]; exact M4.aa 84 (by omega) (by omega)
  have y1 := O.n5
  have y2 := O.g14
  have y3 := O.u5
  have y4 := O.lu
  have y5 := O.lsp
  have y6 := O.sp3
  have y7 := O.t64
  have y8 := O.q1
  rcases se_ret (un := un) (Q := sq_279 (g + 1)) (n := n5') (j0 := j - 1 + 1) (B0 := B) (cd0 := cd) (kn0 := kn) (tp0 := tp) (jr := jr) (pv := pv) h.tx hH fF hF hC O.hc O.lq (by omega) (by omega) (by omega) ((O.hF.fr_ fr (by omega)).trans a50) ((O.hF.fr_ (fr + 1) (by omega)).trans a51) ((O.hF.fr_ (fr + 2) (by omega)).trans a52) ((O.hF.fr_ (fr + 3) (by omega)).trans a53) O.at_ z36 z37 zjr h.c10 h.c6 (by omega) O.hm O.hD z87 zvp O.h73 O.tN z78 zpv O.hR (fun w => by
      obtain ⟨a, w1, w2, w3⟩ := O.hL w
      exact ⟨a, w1, by omega, w3⟩) (by omega) (by omega) y6 (by omega) with bad | ⟨e6, u6, sp6, mc6, mm6, k6, b6, n6, g1, g2, g3, g4, g5, g6, g7, g8, g9, g10, g11, g12, g13, g14', g15, g16⟩
  · left
    obtain ⟨kk, tt, x, y, r1, r2, r3, r4, r5⟩ := bad
    refine ⟨kk, tt, x, y, r1, by rw [cls, d1, r2], F3.thenW (O.hF.thenW r3), ?_, (G3.U.trans O.hG.U).trans r5⟩
    rw [em1, md3 _ d2]
    show se_ev _ _ (sf_315_484 (sq_279 (g + 1)) (Int32.ofNat f) (Int32.ofNat tp) (Int32.ofNat B) (Int32.ofNat kn) (Int32.ofNat cd) true mm5) = _
    rw [r4]
    rfl
  · have ee : e6 ++ (e5 ++ (e2 ++ gs)) = (e6 ++ e5 ++ e2) ++ gs := by rw [List.append_assoc, List.append_assoc]
    rw [ee] at g3 g9 g15
    have n32 := g9.1.n2
    have jj : j - 1 + 1 = j := by omega
    have G6 : se_G0 tp q un li mm mm6 := (G3.trans O.hG (by omega) (Nat.le_refl _) (Nat.le_refl _) (Nat.le_refl _)).trans (g7.less (tp := tp) (q := q) (un := un) (li := li) (Nat.le_refl _) O.lq (Nat.le_refl _) (Nat.le_refl _)) (Nat.le_refl _) (Nat.le_refl _) (Nat.le_refl _) (Nat.le_refl _)
    have G7 : se_G tp q un li mm mm6 := G6.full (fun y hy => by
      rcases hy with hy | rfl
      · have : y = 53 ∨ y = 54 ∨ y = 55 ∨ y = 56 ∨ y = 57 ∨ y = 58 ∨ y = 59 := by omega
        rcases this with rfl | rfl | rfl | rfl | rfl | rfl | rfl
        · exact g6.mq.trans h.hm.mq.symm
        · exact g6.mB.trans h.hm.mB.symm
        · exact g6.mkn.trans h.hm.mkn.symm
        · exact g6.mif.trans h.hm.mif.symm
        · exact g6.mac.trans h.hm.mac.symm
        · exact g6.min_.trans h.hm.min_.symm
        · exact g6.mcd.trans h.hm.mcd.symm
      · exact g6.mli.trans h.hm.mli.symm)
    have F6 : se_F u z q fr cl mc mc6 := (F3.trans (O.hF.less (u := u2) (z := z) (q := q) (fr := fr) (cl := cl) (Nat.le_refl _) (Nat.le_refl _) (Nat.le_refl _) (by omega) (Nat.le_refl _)) x5 (Nat.le_refl _) (Nat.le_refl _) (Nat.le_refl _) (Nat.le_refl _)).trans (g4.less (u := u5') (z := z) (q := q) (fr := fr) (cl := cl) (Nat.le_refl _) (Nat.le_refl _) O.lq (Nat.le_refl _) (Nat.le_refl _)) (by omega) (Nat.le_refl _) (Nat.le_refl _) (Nat.le_refl _) (Nat.le_refl _)
    refine se_Y.X (e' := e6 ++ e5 ++ e2) (n2 := n5' + 1) (mc2 := mc6) (mm2 := mm6) (u2 := u6) (sp2 := sp6) (tp2 := tp + n6) (k := k6) (b := b6) (nn := n6) (v := v5) (t := t) ?_ (cls.trans (d1.trans g1)) ?_ (g8.trans O.w73)
    · exact se_Y.mk (by rw [g2, jj]) g3 g6 F6 G7 (Or.inr g9) h73 ht g10 (by omega) (by omega) g14' (by omega) (by omega) (by omega) (by omega) (by omega) (fun w => ⟨tp, g11 w, Nat.le_refl _, by omega⟩)
    · rw [em1, md3 _ d2]
      show se_ev _ _ (sf_315_484 (sq_279 (g + 1)) (Int32.ofNat f) (Int32.ofNat tp) (Int32.ofNat B) (Int32.ofNat kn) (Int32.ofNat cd) true mm5) = _
      rw [g5]
      rfl
end
