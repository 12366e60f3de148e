/-! EVALUATION: [ E , E , .. ] whole -/
/-- a value that stands on the class's stack and in the model's list -/
def se_El (N : Nat) (A : Nat → Nat → Int32) (p : Nat → Bool) (r : Nat → Nat) (gs : sh_gL) (u z li x : Nat) (mc mm : sh_X) : Prop := ∃ t k b nn v, t ≤ N ∧ A 73 (r x) = Int32.ofNat t ∧ se_D p mc gs u (z + x) t k b nn v ∧ mm.I 112 (li + x) = Int32.ofNat k ∧ (k ≠ 3 → mm.I 113 (li + x) = Int32.ofNat b) ∧ mm.I 114 (li + x) = Int32.ofNat nn ∧ (nn = 0 → mm.J 115 (li + x) = v 0) ∧ mm.I 116 (li + x) = Int32.ofNat (r x)
theorem se_El.keep {N : Nat} {A : Nat → Nat → Int32} {p : Nat → Bool} {r : Nat → Nat} {e gs : sh_gL} {u u2 z li x z2 l2 q fr cl tp un q' : Nat} {mc mm mc2 mm2 : sh_X} (h : se_El N A p r gs u z li x mc mm) (f : se_F u z2 q fr cl mc mc2) (hz : z + x < z2) (hu : u ≤ u2) (g : se_G tp q' un l2 mm mm2) (hl : li + x < l2) : se_El N A p r (e ++ gs) u2 z li x mc2 mm2 := by
  obtain ⟨t, k, b, nn, v, a1, a2, a3, a4, a5, a6, a7, a8⟩ := h
  obtain ⟨g1, g2, g3, g4, g5⟩ := g.ls (li + x) hl
  exact ⟨t, k, b, nn, v, a1, a2, a3.keep f hz hu, g1.trans a4, fun w => g2.trans (a5 w), g3.trans a6, fun w => g5.trans (a7 w), g4.trans a8⟩
theorem se_El.li {N : Nat} {A : Nat → Nat → Int32} {p : Nat → Bool} {r : Nat → Nat} {gs : sh_gL} {u z li x l2 : Nat} {mc mm : sh_X} (h : se_El N A p r gs u z li x mc mm) : se_El N A p r gs u z li x mc (se_li l2 mm) := by
  unfold se_El at h ⊢
  rw [se_liI (c := 112) (by omega), se_liI (c := 113) (by omega), se_liI (c := 114) (by omega), se_liI (c := 116) (by omega)]
  exact h
def se_Rk (N : Nat) (K : Nat → Int32) (P V : Nat → Nat) (A C : Nat → Nat → Int32) (p : Nat → Bool) (Q : sh_Q279) (fm un e n bb : Nat) (gs : sh_gL) (u z q B fr cl sp cw ifs cd kn tp li : Nat) (mc mm : sh_X) (nn : Nat) (r b σ : Nat → Nat) (k : Nat) (e' : sh_gL) (nk : Nat) (mck mmk : sh_X) (uk spk tpk : Nat) : Prop := (sf_78_10 (Int32.ofNat n) mc = sf_78_10 (Int32.ofNat nk) mck) ∧ (sf_294_10 Q (Int32.ofNat fm) mm = se_ev Q (Int32.ofNat fm) (sf_311_142 (Int32.ofNat e) (Int32.ofNat un) mmk)) ∧ (mck.I 41 13 = Int32.ofNat (b k)) ∧ (se_c N K P V C (e' ++ gs) uk (z + k) q B fr cl spk cw ifs cd kn mck) ∧ (se_F u z q fr cl mc mck) ∧ (se_G tp q un li (se_li (li + k) mm) mmk) ∧ (∀ x, x < k → se_El N A p r (e' ++ gs) uk z li x mck mmk) ∧ (mmk.I 66 73 = Int32.ofNat (un + 1)) ∧ (mmk.I 105 un = Int32.ofNat e) ∧ (mmk.I 106 un = 1) ∧ (mmk.I 109 un = Int32.ofNat li) ∧ (mmk.I 110 un = if k < nn then Int32.ofNat (r k) else -1) ∧ (mmk.I 66 41 = Int32.ofNat tpk) ∧ (mmk.I 66 42 = Int32.ofNat spk) ∧ (u ≤ uk) ∧ (sp ≤ spk) ∧ (spk ≤ 3000) ∧ (tp ≤ tpk) ∧ (tpk ≤ 16 * (bb + σ k)) ∧ (nk + 50 * (3000 - spk) ≤ n + 50 * (3000 - sp) + 45 * k) ∧ ((e' ++ gs).length + 14 * (3000 - spk) ≤ gs.length + 14 * (3000 - sp)) ∧ (4 * uk + 5 * (3000 - spk) ≤ 4 * u + 5 * (3000 - sp))
theorem se_Rk.ec {N : Nat} {K : Nat → Int32} {P V : Nat → Nat} {A C : Nat → Nat → Int32} {p : Nat → Bool} {Q : sh_Q279} {fm un e n bb : Nat} {gs : sh_gL} {u z q B fr cl sp cw ifs cd kn tp li : Nat} {mc mm : sh_X} {nn : Nat} {r b σ : Nat → Nat} {k : Nat} {e' : sh_gL} {nk : Nat} {mck mmk : sh_X} {uk spk tpk : Nat} (h : se_Rk N K P V A C p Q fm un e n bb gs u z q B fr cl sp cw ifs cd kn tp li mc mm nn r b σ k e' nk mck mmk uk spk tpk) : sf_78_10 (Int32.ofNat n) mc = sf_78_10 (Int32.ofNat nk) mck := h.1
theorem se_Rk.em {N : Nat} {K : Nat → Int32} {P V : Nat → Nat} {A C : Nat → Nat → Int32} {p : Nat → Bool} {Q : sh_Q279} {fm un e n bb : Nat} {gs : sh_gL} {u z q B fr cl sp cw ifs cd kn tp li : Nat} {mc mm : sh_X} {nn : Nat} {r b σ : Nat → Nat} {k : Nat} {e' : sh_gL} {nk : Nat} {mck mmk : sh_X} {uk spk tpk : Nat} (h : se_Rk N K P V A C p Q fm un e n bb gs u z q B fr cl sp cw ifs cd kn tp li mc mm nn r b σ k e' nk mck mmk uk spk tpk) : sf_294_10 Q (Int32.ofNat fm) mm = se_ev Q (Int32.ofNat fm) (sf_311_142 (Int32.ofNat e) (Int32.ofNat un) mmk) := h.2.1
theorem se_Rk.at_ {N : Nat} {K : Nat → Int32} {P V : Nat → Nat} {A C : Nat → Nat → Int32} {p : Nat → Bool} {Q : sh_Q279} {fm un e n bb : Nat} {gs : sh_gL} {u z q B fr cl sp cw ifs cd kn tp li : Nat} {mc mm : sh_X} {nn : Nat} {r b σ : Nat → Nat} {k : Nat} {e' : sh_gL} {nk : Nat} {mck mmk : sh_X} {uk spk tpk : Nat} (h : se_Rk N K P V A C p Q fm un e n bb gs u z q B fr cl sp cw ifs cd kn tp li mc mm nn r b σ k e' nk mck mmk uk spk tpk) : mck.I 41 13 = Int32.ofNat (b k) := h.2.2.1
theorem se_Rk.hc {N : Nat} {K : Nat → Int32} {P V : Nat → Nat} {A C : Nat → Nat → Int32} {p : Nat → Bool} {Q : sh_Q279} {fm un e n bb : Nat} {gs : sh_gL} {u z q B fr cl sp cw ifs cd kn tp li : Nat} {mc mm : sh_X} {nn : Nat} {r b σ : Nat → Nat} {k : Nat} {e' : sh_gL} {nk : Nat} {mck mmk : sh_X} {uk spk tpk : Nat} (h : se_Rk N K P V A C p Q fm un e n bb gs u z q B fr cl sp cw ifs cd kn tp li mc mm nn r b σ k e' nk mck mmk uk spk tpk) : se_c N K P V C (e' ++ gs) uk (z + k) q B fr cl spk cw ifs cd kn mck := h.2.2.2.1
theorem se_Rk.hF {N : Nat} {K : Nat → Int32} {P V : Nat → Nat} {A C : Nat → Nat → Int32} {p : Nat → Bool} {Q : sh_Q279} {fm un e n bb : Nat} {gs : sh_gL} {u z q B fr cl sp cw ifs cd kn tp li : Nat} {mc mm : sh_X} {nn : Nat} {r b σ : Nat → Nat} {k : Nat} {e' : sh_gL} {nk : Nat} {mck mmk : sh_X} {uk spk tpk : Nat} (h : se_Rk N K P V A C p Q fm un e n bb gs u z q B fr cl sp cw ifs cd kn tp li mc mm nn r b σ k e' nk mck mmk uk spk tpk) : se_F u z q fr cl mc mck := h.2.2.2.2.1
theorem se_Rk.hG {N : Nat} {K : Nat → Int32} {P V : Nat → Nat} {A C : Nat → Nat → Int32} {p : Nat → Bool} {Q : sh_Q279} {fm un e n bb : Nat} {gs : sh_gL} {u z q B fr cl sp cw ifs cd kn tp li : Nat} {mc mm : sh_X} {nn : Nat} {r b σ : Nat → Nat} {k : Nat} {e' : sh_gL} {nk : Nat} {mck mmk : sh_X} {uk spk tpk : Nat} (h : se_Rk N K P V A C p Q fm un e n bb gs u z q B fr cl sp cw ifs cd kn tp li mc mm nn r b σ k e' nk mck mmk uk spk tpk) : se_G tp q un li (se_li (li + k) mm) mmk := h.2.2.2.2.2.1
theorem se_Rk.el {N : Nat} {K : Nat → Int32} {P V : Nat → Nat} {A C : Nat → Nat → Int32} {p : Nat → Bool} {Q : sh_Q279} {fm un e n bb : Nat} {gs : sh_gL} {u z q B fr cl sp cw ifs cd kn tp li : Nat} {mc mm : sh_X} {nn : Nat} {r b σ : Nat → Nat} {k : Nat} {e' : sh_gL} {nk : Nat} {mck mmk : sh_X} {uk spk tpk : Nat} (h : se_Rk N K P V A C p Q fm un e n bb gs u z q B fr cl sp cw ifs cd kn tp li mc mm nn r b σ k e' nk mck mmk uk spk tpk) : ∀ x, x < k → se_El N A p r (e' ++ gs) uk z li x mck mmk := h.2.2.2.2.2.2.1
theorem se_Rk.w73 {N : Nat} {K : Nat → Int32} {P V : Nat → Nat} {A C : Nat → Nat → Int32} {p : Nat → Bool} {Q : sh_Q279} {fm un e n bb : Nat} {gs : sh_gL} {u z q B fr cl sp cw ifs cd kn tp li : Nat} {mc mm : sh_X} {nn : Nat} {r b σ : Nat → Nat} {k : Nat} {e' : sh_gL} {nk : Nat} {mck mmk : sh_X} {uk spk tpk : Nat} (h : se_Rk N K P V A C p Q fm un e n bb gs u z q B fr cl sp cw ifs cd kn tp li mc mm nn r b σ k e' nk mck mmk uk spk tpk) : mmk.I 66 73 = Int32.ofNat (un + 1) := h.2.2.2.2.2.2.2.1
theorem se_Rk.w105 {N : Nat} {K : Nat → Int32} {P V : Nat → Nat} {A C : Nat → Nat → Int32} {p : Nat → Bool} {Q : sh_Q279} {fm un e n bb : Nat} {gs : sh_gL} {u z q B fr cl sp cw ifs cd kn tp li : Nat} {mc mm : sh_X} {nn : Nat} {r b σ : Nat → Nat} {k : Nat} {e' : sh_gL} {nk : Nat} {mck mmk : sh_X} {uk spk tpk : Nat} (h : se_Rk N K P V A C p Q fm un e n bb gs u z q B fr cl sp cw ifs cd kn tp li mc mm nn r b σ k e' nk mck mmk uk spk tpk) : mmk.I 105 un = Int32.ofNat e := h.2.2.2.2.2.2.2.2.1
theorem se_Rk.w106 {N : Nat} {K : Nat → Int32} {P V : Nat → Nat} {A C : Nat → Nat → Int32} {p : Nat → Bool} {Q : sh_Q279} {fm un e n bb : Nat} {gs : sh_gL} {u z q B fr cl sp cw ifs cd kn tp li : Nat} {mc mm : sh_X} {nn : Nat} {r b σ : Nat → Nat} {k : Nat} {e' : sh_gL} {nk : Nat} {mck mmk : sh_X} {uk spk tpk : Nat} (h : se_Rk N K P V A C p Q fm un e n bb gs u z q B fr cl sp cw ifs cd kn tp li mc mm nn r b σ k e' nk mck mmk uk spk tpk) : mmk.I 106 un = 1 := h.2.2.2.2.2.2.2.2.2.1
theorem se_Rk.w109 {N : Nat} {K : Nat → Int32} {P V : Nat → Nat} {A C : Nat → Nat → Int32} {p : Nat → Bool} {Q : sh_Q279} {fm un e n bb : Nat} {gs : sh_gL} {u z q B fr cl sp cw ifs cd kn tp li : Nat} {mc mm : sh_X} {nn : Nat} {r b σ : Nat → Nat} {k : Nat} {e' : sh_gL} {nk : Nat} {mck mmk : sh_X} {uk spk tpk : Nat} (h : se_Rk N K P V A C p Q fm un e n bb gs u z q B fr cl sp cw ifs cd kn tp li mc mm nn r b σ k e' nk mck mmk uk spk tpk) : mmk.I 109 un = Int32.ofNat li := h.2.2.2.2.2.2.2.2.2.2.1
theorem se_Rk.w110 {N : Nat} {K : Nat → Int32} {P V : Nat → Nat} {A C : Nat → Nat → Int32} {p : Nat → Bool} {Q : sh_Q279} {fm un e n bb : Nat} {gs : sh_gL} {u z q B fr cl sp cw ifs cd kn tp li : Nat} {mc mm : sh_X} {nn : Nat} {r b σ : Nat → Nat} {k : Nat} {e' : sh_gL} {nk : Nat} {mck mmk : sh_X} {uk spk tpk : Nat} (h : se_Rk N K P V A C p Q fm un e n bb gs u z q B fr cl sp cw ifs cd kn tp li mc mm nn r b σ k e' nk mck mmk uk spk tpk) : mmk.I 110 un = if k < nn then Int32.ofNat (r k) else -1 := h.2.2.2.2.2.2.2.2.2.2.2.1
theorem se_Rk.w41 {N : Nat} {K : Nat → Int32} {P V : Nat → Nat} {A C : Nat → Nat → Int32} {p : Nat → Bool} {Q : sh_Q279} {fm un e n bb : Nat} {gs : sh_gL} {u z q B fr cl sp cw ifs cd kn tp li : Nat} {mc mm : sh_X} {nn : Nat} {r b σ : Nat → Nat} {k : Nat} {e' : sh_gL} {nk : Nat} {mck mmk : sh_X} {uk spk tpk : Nat} (h : se_Rk N K P V A C p Q fm un e n bb gs u z q B fr cl sp cw ifs cd kn tp li mc mm nn r b σ k e' nk mck mmk uk spk tpk) : mmk.I 66 41 = Int32.ofNat tpk := h.2.2.2.2.2.2.2.2.2.2.2.2.1
theorem se_Rk.w42 {N : Nat} {K : Nat → Int32} {P V : Nat → Nat} {A C : Nat → Nat → Int32} {p : Nat → Bool} {Q : sh_Q279} {fm un e n bb : Nat} {gs : sh_gL} {u z q B fr cl sp cw ifs cd kn tp li : Nat} {mc mm : sh_X} {nn : Nat} {r b σ : Nat → Nat} {k : Nat} {e' : sh_gL} {nk : Nat} {mck mmk : sh_X} {uk spk tpk : Nat} (h : se_Rk N K P V A C p Q fm un e n bb gs u z q B fr cl sp cw ifs cd kn tp li mc mm nn r b σ k e' nk mck mmk uk spk tpk) : mmk.I 66 42 = Int32.ofNat spk := h.2.2.2.2.2.2.2.2.2.2.2.2.2.1
theorem se_Rk.lu {N : Nat} {K : Nat → Int32} {P V : Nat → Nat} {A C : Nat → Nat → Int32} {p : Nat → Bool} {Q : sh_Q279} {fm un e n bb : Nat} {gs : sh_gL} {u z q B fr cl sp cw ifs cd kn tp li : Nat} {mc mm : sh_X} {nn : Nat} {r b σ : Nat → Nat} {k : Nat} {e' : sh_gL} {nk : Nat} {mck mmk : sh_X} {uk spk tpk : Nat} (h : se_Rk N K P V A C p Q fm un e n bb gs u z q B fr cl sp cw ifs cd kn tp li mc mm nn r b σ k e' nk mck mmk uk spk tpk) : u ≤ uk := h.2.2.2.2.2.2.2.2.2.2.2.2.2.2.1
theorem se_Rk.lsp {N : Nat} {K : Nat → Int32} {P V : Nat → Nat} {A C : Nat → Nat → Int32} {p : Nat → Bool} {Q : sh_Q279} {fm un e n bb : Nat} {gs : sh_gL} {u z q B fr cl sp cw ifs cd kn tp li : Nat} {mc mm : sh_X} {nn : Nat} {r b σ : Nat → Nat} {k : Nat} {e' : sh_gL} {nk : Nat} {mck mmk : sh_X} {uk spk tpk : Nat} (h : se_Rk N K P V A C p Q fm un e n bb gs u z q B fr cl sp cw ifs cd kn tp li mc mm nn r b σ k e' nk mck mmk uk spk tpk) : sp ≤ spk := h.2.2.2.2.2.2.2.2.2.2.2.2.2.2.2.1
theorem se_Rk.sp3 {N : Nat} {K : Nat → Int32} {P V : Nat → Nat} {A C : Nat → Nat → Int32} {p : Nat → Bool} {Q : sh_Q279} {fm un e n bb : Nat} {gs : sh_gL} {u z q B fr cl sp cw ifs cd kn tp li : Nat} {mc mm : sh_X} {nn : Nat} {r b σ : Nat → Nat} {k : Nat} {e' : sh_gL} {nk : Nat} {mck mmk : sh_X} {uk spk tpk : Nat} (h : se_Rk N K P V A C p Q fm un e n bb gs u z q B fr cl sp cw ifs cd kn tp li mc mm nn r b σ k e' nk mck mmk uk spk tpk) : spk ≤ 3000 := h.2.2.2.2.2.2.2.2.2.2.2.2.2.2.2.2.1
theorem se_Rk.ltp {N : Nat} {K : Nat → Int32} {P V : Nat → Nat} {A C : Nat → Nat → Int32} {p : Nat → Bool} {Q : sh_Q279} {fm un e n bb : Nat} {gs : sh_gL} {u z q B fr cl sp cw ifs cd kn tp li : Nat} {mc mm : sh_X} {nn : Nat} {r b σ : Nat → Nat} {k : Nat} {e' : sh_gL} {nk : Nat} {mck mmk : sh_X} {uk spk tpk : Nat} (h : se_Rk N K P V A C p Q fm un e n bb gs u z q B fr cl sp cw ifs cd kn tp li mc mm nn r b σ k e' nk mck mmk uk spk tpk) : tp ≤ tpk := h.2.2.2.2.2.2.2.2.2.2.2.2.2.2.2.2.2.1
theorem se_Rk.t16 {N : Nat} {K : Nat → Int32} {P V : Nat → Nat} {A C : Nat → Nat → Int32} {p : Nat → Bool} {Q : sh_Q279} {fm un e n bb : Nat} {gs : sh_gL} {u z q B fr cl sp cw ifs cd kn tp li : Nat} {mc mm : sh_X} {nn : Nat} {r b σ : Nat → Nat} {k : Nat} {e' : sh_gL} {nk : Nat} {mck mmk : sh_X} {uk spk tpk : Nat} (h : se_Rk N K P V A C p Q fm un e n bb gs u z q B fr cl sp cw ifs cd kn tp li mc mm nn r b σ k e' nk mck mmk uk spk tpk) : tpk ≤ 16 * (bb + σ k) := h.2.2.2.2.2.2.2.2.2.2.2.2.2.2.2.2.2.2.1
theorem se_Rk.n5 {N : Nat} {K : Nat → Int32} {P V : Nat → Nat} {A C : Nat → Nat → Int32} {p : Nat → Bool} {Q : sh_Q279} {fm un e n bb : Nat} {gs : sh_gL} {u z q B fr cl sp cw ifs cd kn tp li : Nat} {mc mm : sh_X} {nn : Nat} {r b σ : Nat → Nat} {k : Nat} {e' : sh_gL} {nk : Nat} {mck mmk : sh_X} {uk spk tpk : Nat} (h : se_Rk N K P V A C p Q fm un e n bb gs u z q B fr cl sp cw ifs cd kn tp li mc mm nn r b σ k e' nk mck mmk uk spk tpk) : nk + 50 * (3000 - spk) ≤ n + 50 * (3000 - sp) + 45 * k := h.2.2.2.2.2.2.2.2.2.2.2.2.2.2.2.2.2.2.2.1
theorem se_Rk.g14 {N : Nat} {K : Nat → Int32} {P V : Nat → Nat} {A C : Nat → Nat → Int32} {p : Nat → Bool} {Q : sh_Q279} {fm un e n bb : Nat} {gs : sh_gL} {u z q B fr cl sp cw ifs cd kn tp li : Nat} {mc mm : sh_X} {nn : Nat} {r b σ : Nat → Nat} {k : Nat} {e' : sh_gL} {nk : Nat} {mck mmk : sh_X} {uk spk tpk : Nat} (h : se_Rk N K P V A C p Q fm un e n bb gs u z q B fr cl sp cw ifs cd kn tp li mc mm nn r b σ k e' nk mck mmk uk spk tpk) : (e' ++ gs).length + 14 * (3000 - spk) ≤ gs.length + 14 * (3000 - sp) := h.2.2.2.2.2.2.2.2.2.2.2.2.2.2.2.2.2.2.2.2.1
theorem se_Rk.u5 {N : Nat} {K : Nat → Int32} {P V : Nat → Nat} {A C : Nat → Nat → Int32} {p : Nat → Bool} {Q : sh_Q279} {fm un e n bb : Nat} {gs : sh_gL} {u z q B fr cl sp cw ifs cd kn tp li : Nat} {mc mm : sh_X} {nn : Nat} {r b σ : Nat → Nat} {k : Nat} {e' : sh_gL} {nk : Nat} {mck mmk : sh_X} {uk spk tpk : Nat} (h : se_Rk N K P V A C p Q fm un e n bb gs u z q B fr cl sp cw ifs cd kn tp li mc mm nn r b σ k e' nk mck mmk uk spk tpk) : 4 * uk + 5 * (3000 - spk) ≤ 4 * u + 5 * (3000 - sp) := h.2.2.2.2.2.2.2.2.2.2.2.2.2.2.2.2.2.2.2.2.2
theorem se_Rk.mk {N : Nat} {K : Nat → Int32} {P V : Nat → Nat} {A C : Nat → Nat → Int32} {p : Nat → Bool} {Q : sh_Q279} {fm un e n bb : Nat} {gs : sh_gL} {u z q B fr cl sp cw ifs cd kn tp li : Nat} {mc mm : sh_X} {nn : Nat} {r b σ : Nat → Nat} {k : Nat} {e' : sh_gL} {nk : Nat} {mck mmk : sh_X} {uk spk tpk : Nat} (ec : sf_78_10 (Int32.ofNat n) mc = sf_78_10 (Int32.ofNat nk) mck) (em : sf_294_10 Q (Int32.ofNat fm) mm = se_ev Q (Int32.ofNat fm) (sf_311_142 (Int32.ofNat e) (Int32.ofNat un) mmk)) (at_ : mck.I 41 13 = Int32.ofNat (b k)) (hc : se_c N K P V C (e' ++ gs) uk (z + k) q B fr cl spk cw ifs cd kn mck) (hF : se_F u z q fr cl mc mck) (hG : se_G tp q un li (se_li (li + k) mm) mmk) (el : ∀ x, x < k → se_El N A p r (e' ++ gs) uk z li x mck mmk) (w73 : mmk.I 66 73 = Int32.ofNat (un + 1)) (w105 : mmk.I 105 un = Int32.ofNat e) (w106 : mmk.I 106 un = 1) (w109 : mmk.I 109 un = Int32.ofNat li) (w110 : mmk.I 110 un = if k < nn then Int32.ofNat (r k) else -1) (w41 : mmk.I 66 41 = Int32.ofNat tpk) (w42 : mmk.I 66 42 = Int32.ofNat spk) (lu : u ≤ uk) (lsp : sp ≤ spk) (sp3 : spk ≤ 3000) (ltp : tp ≤ tpk) (t16 : tpk ≤ 16 * (bb + σ k)) (n5 : nk + 50 * (3000 - spk) ≤ n + 50 * (3000 - sp) + 45 * k) (g14 : (e' ++ gs).length + 14 * (3000 - spk) ≤ gs.length + 14 * (3000 - sp)) (u5 : 4 * uk + 5 * (3000 - spk) ≤ 4 * u + 5 * (3000 - sp)) : se_Rk N K P V A C p Q fm un e n bb gs u z q B fr cl sp cw ifs cd kn tp li mc mm nn r b σ k e' nk mck mmk uk spk tpk := ⟨ec, em, at_, hc, hF, hG, el, w73, w105, w106, w109, w110, w41, w42, lu, lsp, sp3, ltp, t16, n5, g14, u5⟩
section
variable {N : Nat} {K : Nat → Int32} {P V : Nat → Nat} {A C : Nat → Nat → Int32} {p : Nat → Bool} {pf : Nat → Nat} {F c2 fm un e i j n len d bb sg dq : Nat} {gs : sh_gL} {u z q B M fr cl sp cw ifs cd kn inn tp li : Nat} {ac : Bool} {mc mm : sh_X} {nn : Nat} {r b σ lk : Nat → Nat}
theorem se_sig (hσ : ∀ k, k < nn → σ k + lk k + 1 ≤ σ (k + 1) ∧ 1 ≤ lk k) : ∀ d k, k + d = nn → 2 * k ≤ σ k ∧ σ k + 2 * d ≤ σ nn := by
  have a : ∀ k, k ≤ nn → 2 * k ≤ σ k := by
    intro k
    induction k with
    | zero => intro _; omega
    | succ k ih => intro hk; have := ih (by omega); have := hσ k (by omega); omega
  intro d
  induction d with
  | zero => intro k hk; have := a k (by omega); rw [show k = nn by omega] at *; exact ⟨this, by omega⟩
  | succ d ih => intro k hk; have h1 := ih (k + 1) (by omega); have h2 := hσ k (by omega); exact ⟨a k (by omega), by omega⟩
/-- one value more -/
theorem se_rowS (h : se_P N K P V A C p pf F c2 fm un e i n len d bb sg dq gs u z q B M fr cl sp cw ifs cd kn inn tp li ac mc mm) (h72 : A 72 e = 7) (hd : d + 1 ≤ 40) (hσ : ∀ k, k < nn → σ k + lk k + 1 ≤ σ (k + 1) ∧ 1 ≤ lk k) (hσn : σ nn + 1 ≤ len) (hr : ∀ k, k < nn → r k < 9000 ∧ A 77 (r k) = (if k + 1 < nn then Int32.ofNat (r (k + 1)) else -1))
    (ih : ∀ k, k < nn → se_OK N K P V A C p pf F c2 kn (r k) (b k) (b (k + 1)) (d + 1) (lk k))
    {k : Nat} {e' : sh_gL} {nk : Nat} {mck mmk : sh_X} {uk spk tpk : Nat} (hk : k < nn) (R : se_Rk N K P V A C p (sq_279 dq) fm un e n bb gs u z q B fr cl sp cw ifs cd kn tp li mc mm nn r b σ k e' nk mck mmk uk spk tpk) :
    se_bad N P mc mm (sf_78_10 (Int32.ofNat n) mc) (sf_294_10 (sq_279 dq) (Int32.ofNat fm) mm) ∨
    ∃ e2 n2 mc2 mm2 u2 sp2 tp2, se_Rk N K P V A C p (sq_279 dq) fm un e n bb gs u z q B fr cl sp cw ifs cd kn tp li mc mm nn r b σ (k + 1) e2 n2 mc2 mm2 u2 sp2 tp2 := by
  have N4 := h.tx.N4
  have un4 := h.bd.un4
  have bb4 := h.bd.bb4
  have sg1 := se_sig hσ (nn - k) k (by omega)
  have hk1 := hσ k hk
  have sg2 := se_sig hσ (nn - (k + 1)) (k + 1) (by omega)
  have o : sh_okb (Int32.ofNat un) 9000 = true := sh_okn' (by omega) (by omega)
  have le := h.st.le
  obtain ⟨rk, r77⟩ := hr k hk
  have w110 := R.w110
  rw [if_pos hk] at w110
  obtain ⟨m1, p1, p2, p3, p4⟩ := se_psh (a := r k) R.w73 h.st.lf rk (by omega)
  have s1 : sf_294_10 (sq_279 dq) (Int32.ofNat fm) mm = sf_294_10 (sq_279 dq) (Int32.ofNat fm) m1 := by
    rw [R.em]
    have e1 : sf_311_142 (Int32.ofNat e) (Int32.ofNat un) mmk = some (true, m1) := by
      unfold sf_311_142
      rw [if_pos o, sh_nIc (by omega), w110, if_neg (sh_nI0 (by omega)), if_pos o, p1]
      rfl
    rw [e1]
    rfl
  have hmk := (h.hm.li (l2 := li + k)).G R.hG R.w41 R.w42
  have Jk := (h.hJ.li (l2 := li + k)).keep (e := e') R.hF R.hG R.lu R.ltp
  have z2 := h.bd.z2
  have l2 := h.bd.l2
  have q4 := h.bd.q4
  have n5 := h.bd.n5
  have g14 := h.bd.g14
  have u5 := h.bd.u5
  have f4 := h.bd.f4
  have c1 := h.bd.c1
  have dq_ := h.bd.dq_
  have kF := h.bd.kF
  have x1 := R.n5
  have x2 := R.g14
  have x3 := R.u5
  have x4 := R.t16
  have x5 := R.lu
  have x6 := R.lsp
  have x7 := R.ltp
  have bd : se_Bd P pf F nk (e' ++ gs).length uk (z + k) q fr cl spk cd kn tpk (li + k) (un + 1) dq (d + 1) (lk k) (bb + σ k) sg :=
    se_Bd.mk (by omega) x4 (by omega) (by omega) (by omega) (by omega) (by omega) (by omega) (by omega) (by omega) (by omega) (by omega) R.sp3 h.bd.cd2 hd (by omega)
  have P1 : se_P N K P V A C p pf F c2 fm (un + 1) (r k) (b k) nk (lk k) (d + 1) (bb + σ k) sg dq (e' ++ gs) uk (z + k) q B M fr cl spk cw ifs cd kn inn tpk (li + k) ac mck m1 :=
    se_P.mk h.tx R.hc (p2.m hmk) (Jk.keep (e := []) (se_F.refl (u := uk) (z := z) (fr := fr) (cl := cl) mck) (p2.G (li := li)) (Nat.le_refl _) (Nat.le_refl _)) R.at_ p3 p4 bd h.lB h.c10 h.c6 (by have := h.ifb; omega)
  rcases (ih k hk _ _ _ _ _ _ _ _ _ _ _ _ _ _ _ _ _ _ _ _ _ _ _ _ P1).out with bad | ⟨e2, n2, mc2, mm2, u2, sp2, tp2, kk, bk, nk', v, t, a1, a2, a3, Y⟩
  · left
    rw [R.ec, s1]
    exact (bad.of (se_F.refl (u := 0) (z := 0) (q := 0) (fr := 0) (cl := 0) mck) (p2.G (tp := 0) (q := 0) (li := 0)).U).of R.hF (se_li_U.trans R.hG.U)
  · right
    have Gm : se_G tpk q (un + 1) (li + k) mmk mm2 := (p2.G (tp := tpk) (q := q) (li := li + k)).trans Y.hG (Nat.le_refl _) (Nat.le_refl _) (Nat.le_refl _) (Nat.le_refl _)
    obtain ⟨w1, w2, w3, w4, w5, w6, w7⟩ := Gm.ws un (by omega)
    have st2 : se_St fm un e mm2 := se_St.mk a3 h.st.lf h.st.lu (w1.trans R.w105) le
    have m79 : mm2.I 66 79 = Int32.ofNat (li + k) := Y.hm.mli
    obtain ⟨m4, b1, b2, b3, b4, b5, b6, b7, b8, b9, b10, b11, b12, b13, b14⟩ := se_311b (e := e) (tp := tpk) (q := q) (l := li + k) (rk := r k) a3 (by omega) (w2.trans R.w106) m79 (by omega) (w6.trans w110) rk ((congrFun (Y.hm.aa 77 (by omega) (by omega)) (r k)).trans r77)
    have ee : e2 ++ (e' ++ gs) = (e2 ++ e') ++ gs := by rw [List.append_assoc]
    have hc2 := Y.hc
    have hD2 := Y.hD
    have y1 := Y.g14
    rw [ee] at hc2 hD2 y1
    have y2 := Y.n5
    have y3 := Y.u5
    have y4 := Y.lu
    have y5 := Y.lsp
    have y6 := Y.ltp
    have y7 := Y.t16
    refine ⟨e2 ++ e', n2, mc2, m4, u2, sp2, tp2, se_Rk.mk (R.ec.trans a1) ?_ Y.at_ hc2 (R.hF.trans Y.hF R.lu (by omega) (Nat.le_refl _) (Nat.le_refl _) (Nat.le_refl _)) ?_ ?_ (b12.trans a3) (by rw [b9]; exact w1.trans R.w105) (by rw [b10]; exact w2.trans R.w106) (by rw [b11]; exact w5.trans R.w109) b8 (b13.trans Y.hm.mtp) (b14.trans Y.hm.msp) (by omega) (by omega) Y.sp3 (by omega) (by omega) (by omega) (by omega) (by omega)⟩
    · rw [s1, a2, se_294r st2 (by rw [Y.hm.aa 72 (by omega) (by omega)]; exact h72), b1]
    · have g1 := (R.hG.trans Gm (by omega) (Nat.le_refl _) (by omega) (by omega)).li (li := li + k + 1)
      rw [se_lili] at g1
      exact g1.trans b2 (by omega) (Nat.le_refl _) (Nat.le_refl _) (by omega)
    · intro x hx
      by_cases hxk : x = k
      · subst hxk
        exact ⟨t, kk, bk, nk', v, Y.tN, Y.h73, hD2, b3.trans Y.hR.1, fun w => b4.trans (Y.hR.2.1 w), b5.trans Y.hR.2.2.1, fun w => b7.trans (Y.hR.2.2.2.1 w), b6⟩
      · have := (((R.el x (by omega)).keep (e := e2) Y.hF (by omega) Y.lu Gm (by omega)).li (l2 := li + k + 1)).keep (e := []) (se_F.refl (u := u2) (z := z + x + 1) (q := q) (fr := fr) (cl := cl) mc2) (by omega) (Nat.le_refl _) b2 (by omega)
        rw [← ee]
        exact this
/-- all of them -/
theorem se_rowL (h : se_P N K P V A C p pf F c2 fm un e i n len d bb sg dq gs u z q B M fr cl sp cw ifs cd kn inn tp li ac mc mm) (h72 : A 72 e = 7) (hd : d + 1 ≤ 40) (hσ : ∀ k, k < nn → σ k + lk k + 1 ≤ σ (k + 1) ∧ 1 ≤ lk k) (hσn : σ nn + 1 ≤ len) (hr : ∀ k, k < nn → r k < 9000 ∧ A 77 (r k) = (if k + 1 < nn then Int32.ofNat (r (k + 1)) else -1))
    (ih : ∀ k, k < nn → se_OK N K P V A C p pf F c2 kn (r k) (b k) (b (k + 1)) (d + 1) (lk k)) :
    ∀ (dd k : Nat) (e' : sh_gL) (nk : Nat) (mck mmk : sh_X) (uk spk tpk : Nat), k + dd = nn → se_Rk N K P V A C p (sq_279 dq) fm un e n bb gs u z q B fr cl sp cw ifs cd kn tp li mc mm nn r b σ k e' nk mck mmk uk spk tpk →
    se_bad N P mc mm (sf_78_10 (Int32.ofNat n) mc) (sf_294_10 (sq_279 dq) (Int32.ofNat fm) mm) ∨
    ∃ e2 n2 mc2 mm2 u2 sp2 tp2, se_Rk N K P V A C p (sq_279 dq) fm un e n bb gs u z q B fr cl sp cw ifs cd kn tp li mc mm nn r b σ nn e2 n2 mc2 mm2 u2 sp2 tp2 := by
  intro dd
  induction dd with
  | zero =>
    intro k e' nk mck mmk uk spk tpk hk R
    have : k = nn := by omega
    subst this
    exact Or.inr ⟨_, _, _, _, _, _, _, R⟩
  | succ dd ih2 =>
    intro k e' nk mck mmk uk spk tpk hk R
    rcases se_rowS h h72 hd hσ hσn hr ih (by omega) R with bad | ⟨e2, n2, mc2, mm2, u2, sp2, tp2, R2⟩
    · exact Or.inl bad
    · exact ih2 (k + 1) e2 n2 mc2 mm2 u2 sp2 tp2 (by omega) R2
/-- a row -/
theorem se_row {t0 : Nat} (h : se_P N K P V A C p pf F c2 fm un e i n len d bb sg dq gs u z q B M fr cl sp cw ifs cd kn inn tp li ac mc mm) (hn : 1 ≤ nn) (h72 : A 72 e = 7) (h73 : A 73 e = Int32.ofNat t0) (ht : t0 ≤ N) (h74 : A 74 e = Int32.ofNat (r 0)) (hd : d + 1 ≤ 40) (hσ : ∀ k, k < nn → σ k + lk k + 1 ≤ σ (k + 1) ∧ 1 ≤ lk k) (hσn : σ nn + 1 ≤ len) (hr : ∀ k, k < nn → r k < 9000 ∧ A 77 (r k) = (if k + 1 < nn then Int32.ofNat (r (k + 1)) else -1))
    (ih : ∀ k, k < nn → se_OK N K P V A C p pf F c2 kn (r k) (b k) (b (k + 1)) (d + 1) (lk k)) (b0 : b 0 = i) (bn : b nn = j - 1) (hj : 0 < j) (hj2 : j ≤ c2) (c27 : C 36 (j - 1) = 27) (w27 : C 37 (j - 1) = Int32.ofNat t0) (x27 : C 38 (j - 1) = Int32.ofNat nn) :
    se_X N K P V A C p (sq_279 dq) fm un e j n len d bb gs u z q B fr cl sp cw ifs cd kn inn tp li ac mc mm := by
  have N4 := h.tx.N4
  have le := h.st.le
  have un4 := h.bd.un4
  have bb4 := h.bd.bb4
  have n5 := h.bd.n5
  have z2 := h.bd.z2
  have l2 := h.bd.l2
  have t16 := h.bd.t16
  have u5 := h.bd.u5
  have lf := h.st.lf
  obtain ⟨z1, q1, t1, n1⟩ := h.z1
  have sgn := se_sig hσ nn 0 (by omega)
  have o : sh_okb (Int32.ofNat un) 9000 = true := sh_okn' (by omega) (by omega)
  obtain ⟨m1, a1, a2, a3, a4, a5, a6, a7⟩ := se_311a (tp := tp) (q := q) (l := li) h.st.h73 (by omega) h.h106 h.hm.mli le ((congrFun (h.hm.aa 74 (by omega) (by omega)) e).trans h74)
  have R0 : se_Rk N K P V A C p (sq_279 dq) fm un e n bb gs u z q B fr cl sp cw ifs cd kn tp li mc mm nn r b σ 0 [] n mc m1 u sp tp :=
    se_Rk.mk rfl (by rw [se_294r h.st (by rw [h.hm.aa 72 (by omega) (by omega)]; exact h72), a1]) (by rw [b0]; exact h.hat) h.hc (se_F.refl mc) (by rw [Nat.add_zero, se_li_id h.hm.mli]; exact a2) (fun x hx => absurd hx (by omega)) (by rw [a7]; exact h.st.h73) (by rw [a4]; exact h.st.h105) a5 a6 (by rw [if_pos (by omega)]; exact a3) (by rw [a7]; exact h.hm.mtp) (by rw [a7]; exact h.hm.msp) (Nat.le_refl _) (Nat.le_refl _) h.bd.sp3 (Nat.le_refl _) (by omega) (by omega) (Nat.le_refl _) (Nat.le_refl _)
  rcases se_rowL h h72 hd hσ hσn hr ih nn 0 [] n mc m1 u sp tp (by omega) R0 with bad | ⟨e2, n2, mc2, mm2, u2, sp2, tp2, R⟩
  · exact Or.inl bad
  have x1 := R.n5
  have x2 := R.g14
  have x3 := R.u5
  have x4 := R.t16
  have x5 := R.lu
  have x6 := R.lsp
  have x7 := R.ltp
  have x8 := R.sp3
  have at2 := R.at_
  rw [bn] at at2
  have zz := se_sig hσ 0 nn (by omega)
  have at1 := R.hc.at (n := n2) (by omega) at2 h.c10 (by omega) h.c6 c27 w27 x27
  have jj : j - 1 + 1 = j := by omega
  have c1 := R.hc.nx (i := j - 1 + 1)
  have f1 : se_F u2 (z + nn) q fr cl mc2 (se_nx (j - 1 + 1) mc2) := se_nxFr
  have F1 := R.hF.trans (f1.less (u := u2) (z := z) (q := q) (fr := fr) (cl := cl) (Nat.le_refl _) (by omega) (Nat.le_refl _) (Nat.le_refl _) (Nat.le_refl _)) R.lu (Nat.le_refl _) (Nat.le_refl _) (Nat.le_refl _) (Nat.le_refl _)
  have w110 := R.w110
  rw [if_neg (by omega)] at w110
  have cls : sf_78_10 (Int32.ofNat n) mc = se_go n2 (sf_194 (Int32.ofNat t0) (Int32.ofNat nn) (se_nx (j - 1 + 1) mc2)) := by rw [R.ec, se_a27 at1]
  have mdl : sf_294_10 (sq_279 dq) (Int32.ofNat fm) mm = se_ev (sq_279 dq) (Int32.ofNat fm) (sf_312 (Int32.ofNat e) (Int32.ofNat li) (se_dn un mm2)) := by
    rw [R.em]
    congr 1
    unfold sf_311_142
    rw [if_pos o, sh_nIc (by omega), w110, if_pos (by decide), if_pos o, R.w109, R.w73, se_um1]
    show (sh_bn (sf_312 _ _ (se_dn un mm2)) fun r1 m11 => some (r1, m11)) = _
    cases sf_312 (Int32.ofNat e) (Int32.ofNat li) (se_dn un mm2) with
    | none => rfl
    | some r => rfl
  have hmn := (h.hm.li (l2 := li + nn)).G R.hG R.w41 R.w42
  have hmd := se_dnm (un := un) hmn
  have Gd : se_G tp q un li (se_li (li + nn) mm) (se_dn un mm2) := R.hG.trans se_dnG (Nat.le_refl _) (Nat.le_refl _) (Nat.le_refl _) (Nat.le_refl _)
  have tab : ∀ x, ∃ w : Nat × Nat × Nat × Nat × (Nat → Int64), x < nn → w.1 ≤ N ∧ A 73 (r x) = Int32.ofNat w.1 ∧ se_D p (se_nx (j - 1 + 1) mc2) (e2 ++ gs) u2 (z + x) w.1 w.2.1 w.2.2.1 w.2.2.2.1 w.2.2.2.2 ∧ (se_dn un mm2).I 112 (li + x) = Int32.ofNat w.2.1 ∧ (w.2.1 ≠ 3 → (se_dn un mm2).I 113 (li + x) = Int32.ofNat w.2.2.1) ∧ (se_dn un mm2).I 114 (li + x) = Int32.ofNat w.2.2.2.1 ∧ (w.2.2.2.1 = 0 → (se_dn un mm2).J 115 (li + x) = w.2.2.2.2 0) ∧ (se_dn un mm2).I 116 (li + x) = Int32.ofNat (r x) := by
    intro x
    by_cases hx : x < nn
    · obtain ⟨t, k, b', n', v, e1, e2', e3, e4, e5, e6, e7, e8⟩ := (R.el x hx).keep (e := []) f1 (by omega) (Nat.le_refl _) (se_dnG (tp := 0) (q := 0) (un2 := 0) (un := un) (li := li + x + 1)) (by omega)
      exact ⟨(t, k, b', n', v), fun _ => ⟨e1, e2', e3, e4, e5, e6, e7, e8⟩⟩
    · exact ⟨(0, 0, 0, 0, fun _ => 0), fun w => absurd w hx⟩
  obtain ⟨W, hW⟩ := Classical.axiomOfChoice tab
  rcases se_rowB (un := un) (e := e) (t0 := t0) (li := li) (tp := tp2) (T1 := fun x => (W x).1) (K1 := fun x => (W x).2.1) (B1 := fun x => (W x).2.2.1) (N1 := fun x => (W x).2.2.2.1) (V1 := fun x => (W x).2.2.2.2) (R1 := r) N4 c1 (by omega) hn (by omega) (fun x hx => (hW x hx).2.2.1) (fun x hx => (hW x hx).1) (fun x hx => ⟨(hr x hx).1, by rw [hmd.aa 73 (by omega) (by omega)]; exact (hW x hx).2.1⟩) (fun x hx => (hW x hx).2.2.2) hmd.mli hmd.we hmd.msp hmd.mtp (by omega) le (by rw [hmd.aa 73 (by omega) (by omega)]; exact h73) ht x8 (by omega) with bad | ⟨e3, u3, sp3, mc3, mm3, k, b', n32, d1, d2, d3, d4, d5, d6, d7, d8, d9, d10, d11, d12, d13, d14, d15, d16, d17, d18⟩
  · left
    rw [cls, mdl]
    obtain ⟨kk, tt, x, y, r1, r2, r3, r4, r5⟩ := bad
    exact ⟨kk, tt, x, y, r1, by rw [r2]; rfl, F1.thenW r3, by rw [r4]; rfl, (se_li_U.trans Gd.U).trans r5⟩
  · have ee : e3 ++ (e2 ++ gs) = (e3 ++ e2) ++ gs := by rw [List.append_assoc]
    rw [ee] at d3 d6 d16
    have Gt : se_G tp q un li mm mm3 := by
      have g1 := Gd.li (li := li)
      rw [se_lili, se_li_id h.hm.mli] at g1
      exact g1.trans d9 (by omega) (Nat.le_refl _) (Nat.le_refl _) (Nat.le_refl _)
    refine se_Y.X (e' := e3 ++ e2) (n2 := n2 + 1) (mc2 := mc3) (mm2 := mm3) (u2 := u3) (sp2 := sp3) (tp2 := tp2 + nn) (k := k) (b := b') (nn := nn) (v := fun i => (W i).2.2.2.2 0) (t := t0) ?_ (by rw [cls, d1]; rfl) (by rw [mdl, d2]; rfl) (d12.trans se_dn7)
    exact se_Y.mk (by rw [d5, se_nxA, jj]) d3 (h.hm.G Gt d11 d10) (F1.trans d4 (by omega) (Nat.le_refl _) (Nat.le_refl _) (Nat.le_refl _) (Nat.le_refl _)) Gt (Or.inr d6) h73 ht d7 (by omega) (by omega) d15 (by omega) (by omega) (by omega) (by omega) (by omega) (fun _ => ⟨tp2, d18, by omega, by omega⟩)
end
