/-! EVALUATION: calls: the arguments -/
theorem se_psh0 {un a : Nat} {m : sh_X} (h73 : m.I 66 73 = Int32.ofNat un) (ha : a < 9000) (hl : un < 8990) : ∃ m2, sf_295 (Int32.ofNat a) m = some ((), m2) ∧ se_Pk un m m2 ∧ se_St un un a m2 ∧ m2.I 106 un = 0 := by
  have o : sh_okb (Int32.ofNat un) 9000 = true := sh_okn' (by omega) (by omega)
  refine ⟨(m.T, sh_u2 (sh_u2 (sh_u2 m.I 105 un (Int32.ofNat a)) 106 un 0) 66 73 (Int32.ofNat (un + 1)), m.J, m.s), ?_, ?_, ?_, ?_⟩
  · unfold sf_295
    rw [h73, if_pos o, if_pos o, sh_nIc (by omega), sh_nI1]
  · refine se_Pk.mk rfl rfl (fun _ _ => rfl) (fun x a1 a2 => ?_) (fun f hf => ?_) (fun j hj => ⟨?_, ?_, ?_, ?_, ?_, ?_, rfl⟩)
    · rw [se_Ic a1, sh_u2_cell (by omega), sh_u2_cell (by omega)]
    · rw [se_In (by omega), sh_u2_cell (by omega), sh_u2_cell (by omega)]
    · rw [se_Ic (by omega), sh_u2_cell (by omega), sh_u2_idx (by omega)]
    · rw [se_Ic (by omega), sh_u2_idx (by omega), sh_u2_cell (by omega)]
    · rw [se_Ic (by omega), sh_u2_cell (by omega), sh_u2_cell (by omega)]
    · rw [se_Ic (by omega), sh_u2_cell (by omega), sh_u2_cell (by omega)]
    · rw [se_Ic (by omega), sh_u2_cell (by omega), sh_u2_cell (by omega)]
    · rw [se_Ic (by omega), sh_u2_cell (by omega), sh_u2_cell (by omega)]
  · exact se_St.mk se_Is (Nat.le_refl _) hl (by rw [se_Ic (by omega), sh_u2_cell (by omega), sh_u2_same]) ha
  · rw [se_Ic (by omega), sh_u2_same]
/-- the model puts its result into the list -/
def se_lst (l : Nat) (m : sh_X) : sh_X := (m.T, sh_u2 (sh_u2 (sh_u2 (sh_u2 m.I 112 l (m.I 66 43)) 113 l (m.I 66 44)) 114 l (m.I 66 45)) 66 79 (Int32.ofNat (l + 1)), sh_u2 m.J 115 l (m.J 66 46), m.s)
theorem se_lst_ok {l tp q un : Nat} {m : sh_X} : se_G tp q un l (se_li (l + 1) m) (se_lst l m) ∧ (se_lst l m).I 112 l = m.I 66 43 ∧ (se_lst l m).I 113 l = m.I 66 44 ∧ (se_lst l m).I 114 l = m.I 66 45 ∧ (se_lst l m).J 115 l = m.J 66 46 ∧ (∀ f, f ≠ 79 → (se_lst l m).I 66 f = m.I 66 f) := by
  have k66 : ∀ f, f ≠ 79 → (se_lst l m).I 66 f = m.I 66 f := fun f hf => by
    unfold se_lst
    rw [se_In (by omega), sh_u2_cell (by omega), sh_u2_cell (by omega), sh_u2_cell (by omega)]
  refine ⟨?_, ?_, ?_, ?_, se_Js, k66⟩
  · have k : ∀ d j, d ≠ 66 → (d = 112 ∨ d = 113 ∨ d = 114 → j ≠ l) → (se_lst l m).I d j = (se_li (l + 1) m).I d j := by
      intro d j a1 a2
      unfold se_lst
      rw [se_liI a1, se_Ic a1]
      have g : ∀ (I : Nat → Nat → Int32) (c i : Nat) (x : Int32), (d = c → j ≠ i) → sh_u2 I c i x d j = I d j := fun I c i x w => by
        by_cases y : d = c
        · subst y; exact sh_u2_idx (w rfl)
        · rw [sh_u2_cell y]
      rw [g _ _ _ _ (by omega), g _ _ _ _ (by omega), g _ _ _ _ (by omega)]
    exact se_G.mk rfl rfl (fun x a b => funext fun j => k x j a (by omega)) (fun x a b c d e => se_Jc (by omega)) (fun f a => by
      by_cases f9 : f = 79
      · subst f9; rw [se_li9]; exact se_Is
      · rw [k66 f f9, se_liF f9]) (fun j _ => se_Jn (by omega)) (fun j _ => ⟨k 93 j (by omega) (by omega), k 94 j (by omega) (by omega), k 95 j (by omega) (by omega), k 96 j (by omega) (by omega), k 97 j (by omega) (by omega), se_Jn (by omega)⟩) (fun j hj => ⟨k 105 j (by omega) (by omega), k 106 j (by omega) (by omega), k 107 j (by omega) (by omega), k 108 j (by omega) (by omega), k 109 j (by omega) (by omega), k 110 j (by omega) (by omega), se_Jn (by omega)⟩) (fun j hj => ⟨k 112 j (by omega) (by omega), k 113 j (by omega) (by omega), k 114 j (by omega) (by omega), k 116 j (by omega) (by omega), se_Jn (by omega)⟩)
  · unfold se_lst
    rw [se_Ic (by omega), sh_u2_cell (by omega), sh_u2_cell (by omega), sh_u2_same]
  · unfold se_lst
    rw [se_Ic (by omega), sh_u2_cell (by omega), sh_u2_same]
  · unfold se_lst
    rw [se_Ic (by omega), sh_u2_same]
/-- an argument that is ready -/
def se_Ea (C : Nat → Nat → Int32) (p : Nat → Bool) (f : Nat) (gs : sh_gL) (u z li tp x : Nat) (mc mm : sh_X) : Prop := ∃ k b nn v, se_T p mc gs u (z + x) k b nn v ∧ C 35 (8 * f + x) = Int32.ofNat (sh_te k b nn) ∧ mm.I 112 (li + x) = Int32.ofNat k ∧ mm.I 113 (li + x) = Int32.ofNat b ∧ mm.I 114 (li + x) = Int32.ofNat nn ∧ (nn = 0 → mm.J 115 (li + x) = v 0) ∧ (0 < nn → ∃ a, mm.J 115 (li + x) = Int64.ofNat a ∧ a + nn ≤ tp ∧ ∀ i, i < nn → mm.J 92 (a + i) = v i)
theorem se_Ea.keep {C : Nat → Nat → Int32} {p : Nat → Bool} {f : Nat} {e gs : sh_gL} {u u2 z li tp tp2 x z2 l2 q fr cl un q' : Nat} {mc mm mc2 mm2 : sh_X} (h : se_Ea C p f gs u z li tp x mc mm) (F : se_F u z2 q fr cl mc mc2) (hz : z + x < z2) (hu : u ≤ u2) (g : se_G0 tp q' un l2 mm mm2) (hl : li + x < l2) (ht : tp ≤ tp2) : se_Ea C p f (e ++ gs) u2 z li tp2 x mc2 mm2 := by
  obtain ⟨k, b, nn, v, a1, a2, a3, a4, a5, a6, a7⟩ := h
  obtain ⟨g1, g2, g3, g4, g5⟩ := g.ls (li + x) hl
  refine ⟨k, b, nn, v, a1.keep F hz hu, a2, g1.trans a3, g2.trans a4, g3.trans a5, fun w => g5.trans (a6 w), fun w => ?_⟩
  obtain ⟨a, b1, b2, b3⟩ := a7 w
  exact ⟨a, g5.trans b1, by omega, fun i hi => (g.me (a + i) (by omega)).trans (b3 i hi)⟩
def se_Ak (N : Nat) (K : Nat → Int32) (P V : Nat → Nat) (C : Nat → Nat → Int32) (p : Nat → Bool) (Q : sh_Q279) (Rm : Option (Bool × sh_X)) (un n bb : Nat) (gs : sh_gL) (u z q B fr cl sp cw ifs cd kn tp li : Nat) (mc mm : sh_X) (f cdx nn : Nat) (r b σ : Nat → Nat) (k : Nat) (e' : sh_gL) (nk : Nat) (mck mmk : sh_X) (uk spk tpk : Nat) : Prop := (sf_78_10 (Int32.ofNat n) mc = sf_78_10 (Int32.ofNat nk) mck) ∧ (Rm = sf_315_177 Q (Int32.ofNat f) (Int32.ofNat k) (Int32.ofNat cdx) (Int32.ofNat tp) (Int32.ofNat li) (if k < nn then Int32.ofNat (r k) else -1) mmk) ∧ (mck.I 41 13 = Int32.ofNat (b k)) ∧ (se_c N K P V C (e' ++ gs) uk (z + k) q B fr cl spk cw ifs cd kn mck) ∧ (se_F u z q fr cl mc mck) ∧ (se_G tp q un li (se_li (li + k) mm) mmk) ∧ (∀ x, x < k → se_Ea C p f (e' ++ gs) uk z li tpk x mck mmk) ∧ (mmk.I 66 73 = Int32.ofNat un) ∧ (mmk.I 66 41 = Int32.ofNat tpk) ∧ (mmk.I 66 42 = Int32.ofNat spk) ∧ (u ≤ uk) ∧ (sp ≤ spk) ∧ (spk ≤ 3000) ∧ (tp ≤ tpk) ∧ (tpk ≤ 16 * (bb + σ k)) ∧ (nk + 50 * (3000 - spk) ≤ n + 50 * (3000 - sp) + 46 * k) ∧ ((e' ++ gs).length + 14 * (3000 - spk) ≤ gs.length + 14 * (3000 - sp)) ∧ (4 * uk + 5 * (3000 - spk) ≤ 4 * u + 5 * (3000 - sp))
theorem se_Ak.ec {N : Nat} {K : Nat → Int32} {P V : Nat → Nat} {C : Nat → Nat → Int32} {p : Nat → Bool} {Q : sh_Q279} {Rm : Option (Bool × sh_X)} {un n bb : Nat} {gs : sh_gL} {u z q B fr cl sp cw ifs cd kn tp li : Nat} {mc mm : sh_X} {f cdx nn : Nat} {r b σ : Nat → Nat} {k : Nat} {e' : sh_gL} {nk : Nat} {mck mmk : sh_X} {uk spk tpk : Nat} (h : se_Ak N K P V C p Q Rm un n bb gs u z q B fr cl sp cw ifs cd kn tp li mc mm f cdx nn r b σ k e' nk mck mmk uk spk tpk) : sf_78_10 (Int32.ofNat n) mc = sf_78_10 (Int32.ofNat nk) mck := h.1
theorem se_Ak.em {N : Nat} {K : Nat → Int32} {P V : Nat → Nat} {C : Nat → Nat → Int32} {p : Nat → Bool} {Q : sh_Q279} {Rm : Option (Bool × sh_X)} {un n bb : Nat} {gs : sh_gL} {u z q B fr cl sp cw ifs cd kn tp li : Nat} {mc mm : sh_X} {f cdx nn : Nat} {r b σ : Nat → Nat} {k : Nat} {e' : sh_gL} {nk : Nat} {mck mmk : sh_X} {uk spk tpk : Nat} (h : se_Ak N K P V C p Q Rm un n bb gs u z q B fr cl sp cw ifs cd kn tp li mc mm f cdx nn r b σ k e' nk mck mmk uk spk tpk) : Rm = sf_315_177 Q (Int32.ofNat f) (Int32.ofNat k) (Int32.ofNat cdx) (Int32.ofNat tp) (Int32.ofNat li) (if k < nn then Int32.ofNat (r k) else -1) mmk := h.2.1
theorem se_Ak.at_ {N : Nat} {K : Nat → Int32} {P V : Nat → Nat} {C : Nat → Nat → Int32} {p : Nat → Bool} {Q : sh_Q279} {Rm : Option (Bool × sh_X)} {un n bb : Nat} {gs : sh_gL} {u z q B fr cl sp cw ifs cd kn tp li : Nat} {mc mm : sh_X} {f cdx nn : Nat} {r b σ : Nat → Nat} {k : Nat} {e' : sh_gL} {nk : Nat} {mck mmk : sh_X} {uk spk tpk : Nat} (h : se_Ak N K P V C p Q Rm un n bb gs u z q B fr cl sp cw ifs cd kn tp li mc mm f cdx nn r b σ k e' nk mck mmk uk spk tpk) : mck.I 41 13 = Int32.ofNat (b k) := h.2.2.1
theorem se_Ak.hc {N : Nat} {K : Nat → Int32} {P V : Nat → Nat} {C : Nat → Nat → Int32} {p : Nat → Bool} {Q : sh_Q279} {Rm : Option (Bool × sh_X)} {un n bb : Nat} {gs : sh_gL} {u z q B fr cl sp cw ifs cd kn tp li : Nat} {mc mm : sh_X} {f cdx nn : Nat} {r b σ : Nat → Nat} {k : Nat} {e' : sh_gL} {nk : Nat} {mck mmk : sh_X} {uk spk tpk : Nat} (h : se_Ak N K P V C p Q Rm un n bb gs u z q B fr cl sp cw ifs cd kn tp li mc mm f cdx nn r b σ k e' nk mck mmk uk spk tpk) : se_c N K P V C (e' ++ gs) uk (z + k) q B fr cl spk cw ifs cd kn mck := h.2.2.2.1
theorem se_Ak.hF {N : Nat} {K : Nat → Int32} {P V : Nat → Nat} {C : Nat → Nat → Int32} {p : Nat → Bool} {Q : sh_Q279} {Rm : Option (Bool × sh_X)} {un n bb : Nat} {gs : sh_gL} {u z q B fr cl sp cw ifs cd kn tp li : Nat} {mc mm : sh_X} {f cdx nn : Nat} {r b σ : Nat → Nat} {k : Nat} {e' : sh_gL} {nk : Nat} {mck mmk : sh_X} {uk spk tpk : Nat} (h : se_Ak N K P V C p Q Rm un n bb gs u z q B fr cl sp cw ifs cd kn tp li mc mm f cdx nn r b σ k e' nk mck mmk uk spk tpk) : se_F u z q fr cl mc mck := h.2.2.2.2.1
theorem se_Ak.hG {N : Nat} {K : Nat → Int32} {P V : Nat → Nat} {C : Nat → Nat → Int32} {p : Nat → Bool} {Q : sh_Q279} {Rm : Option (Bool × sh_X)} {un n bb : Nat} {gs : sh_gL} {u z q B fr cl sp cw ifs cd kn tp li : Nat} {mc mm : sh_X} {f cdx nn : Nat} {r b σ : Nat → Nat} {k : Nat} {e' : sh_gL} {nk : Nat} {mck mmk : sh_X} {uk spk tpk : Nat} (h : se_Ak N K P V C p Q Rm un n bb gs u z q B fr cl sp cw ifs cd kn tp li mc mm f cdx nn r b σ k e' nk mck mmk uk spk tpk) : se_G tp q un li (se_li (li + k) mm) mmk := h.2.2.2.2.2.1
theorem se_Ak.el {N : Nat} {K : Nat → Int32} {P V : Nat → Nat} {C : Nat → Nat → Int32} {p : Nat → Bool} {Q : sh_Q279} {Rm : Option (Bool × sh_X)} {un n bb : Nat} {gs : sh_gL} {u z q B fr cl sp cw ifs cd kn tp li : Nat} {mc mm : sh_X} {f cdx nn : Nat} {r b σ : Nat → Nat} {k : Nat} {e' : sh_gL} {nk : Nat} {mck mmk : sh_X} {uk spk tpk : Nat} (h : se_Ak N K P V C p Q Rm un n bb gs u z q B fr cl sp cw ifs cd kn tp li mc mm f cdx nn r b σ k e' nk mck mmk uk spk tpk) : ∀ x, x < k → se_Ea C p f (e' ++ gs) uk z li tpk x mck mmk := h.2.2.2.2.2.2.1
theorem se_Ak.w73 {N : Nat} {K : Nat → Int32} {P V : Nat → Nat} {C : Nat → Nat → Int32} {p : Nat → Bool} {Q : sh_Q279} {Rm : Option (Bool × sh_X)} {un n bb : Nat} {gs : sh_gL} {u z q B fr cl sp cw ifs cd kn tp li : Nat} {mc mm : sh_X} {f cdx nn : Nat} {r b σ : Nat → Nat} {k : Nat} {e' : sh_gL} {nk : Nat} {mck mmk : sh_X} {uk spk tpk : Nat} (h : se_Ak N K P V C p Q Rm un n bb gs u z q B fr cl sp cw ifs cd kn tp li mc mm f cdx nn r b σ k e' nk mck mmk uk spk tpk) : mmk.I 66 73 = Int32.ofNat un := h.2.2.2.2.2.2.2.1
theorem se_Ak.w41 {N : Nat} {K : Nat → Int32} {P V : Nat → Nat} {C : Nat → Nat → Int32} {p : Nat → Bool} {Q : sh_Q279} {Rm : Option (Bool × sh_X)} {un n bb : Nat} {gs : sh_gL} {u z q B fr cl sp cw ifs cd kn tp li : Nat} {mc mm : sh_X} {f cdx nn : Nat} {r b σ : Nat → Nat} {k : Nat} {e' : sh_gL} {nk : Nat} {mck mmk : sh_X} {uk spk tpk : Nat} (h : se_Ak N K P V C p Q Rm un n bb gs u z q B fr cl sp cw ifs cd kn tp li mc mm f cdx nn r b σ k e' nk mck mmk uk spk tpk) : mmk.I 66 41 = Int32.ofNat tpk := h.2.2.2.2.2.2.2.2.1
theorem se_Ak.w42 {N : Nat} {K : Nat → Int32} {P V : Nat → Nat} {C : Nat → Nat → Int32} {p : Nat → Bool} {Q : sh_Q279} {Rm : Option (Bool × sh_X)} {un n bb : Nat} {gs : sh_gL} {u z q B fr cl sp cw ifs cd kn tp li : Nat} {mc mm : sh_X} {f cdx nn : Nat} {r b σ : Nat → Nat} {k : Nat} {e' : sh_gL} {nk : Nat} {mck mmk : sh_X} {uk spk tpk : Nat} (h : se_Ak N K P V C p Q Rm un n bb gs u z q B fr cl sp cw ifs cd kn tp li mc mm f cdx nn r b σ k e' nk mck mmk uk spk tpk) : mmk.I 66 42 = Int32.ofNat spk := h.2.2.2.2.2.2.2.2.2.1
theorem se_Ak.lu {N : Nat} {K : Nat → Int32} {P V : Nat → Nat} {C : Nat → Nat → Int32} {p : Nat → Bool} {Q : sh_Q279} {Rm : Option (Bool × sh_X)} {un n bb : Nat} {gs : sh_gL} {u z q B fr cl sp cw ifs cd kn tp li : Nat} {mc mm : sh_X} {f cdx nn : Nat} {r b σ : Nat → Nat} {k : Nat} {e' : sh_gL} {nk : Nat} {mck mmk : sh_X} {uk spk tpk : Nat} (h : se_Ak N K P V C p Q Rm un n bb gs u z q B fr cl sp cw ifs cd kn tp li mc mm f cdx nn r b σ k e' nk mck mmk uk spk tpk) : u ≤ uk := h.2.2.2.2.2.2.2.2.2.2.1
theorem se_Ak.lsp {N : Nat} {K : Nat → Int32} {P V : Nat → Nat} {C : Nat → Nat → Int32} {p : Nat → Bool} {Q : sh_Q279} {Rm : Option (Bool × sh_X)} {un n bb : Nat} {gs : sh_gL} {u z q B fr cl sp cw ifs cd kn tp li : Nat} {mc mm : sh_X} {f cdx nn : Nat} {r b σ : Nat → Nat} {k : Nat} {e' : sh_gL} {nk : Nat} {mck mmk : sh_X} {uk spk tpk : Nat} (h : se_Ak N K P V C p Q Rm un n bb gs u z q B fr cl sp cw ifs cd kn tp li mc mm f cdx nn r b σ k e' nk mck mmk uk spk tpk) : sp ≤ spk := h.2.2.2.2.2.2.2.2.2.2.2.1
theorem se_Ak.sp3 {N : Nat} {K : Nat → Int32} {P V : Nat → Nat} {C : Nat → Nat → Int32} {p : Nat → Bool} {Q : sh_Q279} {Rm : Option (Bool × sh_X)} {un n bb : Nat} {gs : sh_gL} {u z q B fr cl sp cw ifs cd kn tp li : Nat} {mc mm : sh_X} {f cdx nn : Nat} {r b σ : Nat → Nat} {k : Nat} {e' : sh_gL} {nk : Nat} {mck mmk : sh_X} {uk spk tpk : Nat} (h : se_Ak N K P V C p Q Rm un n bb gs u z q B fr cl sp cw ifs cd kn tp li mc mm f cdx nn r b σ k e' nk mck mmk uk spk tpk) : spk ≤ 3000 := h.2.2.2.2.2.2.2.2.2.2.2.2.1
theorem se_Ak.ltp {N : Nat} {K : Nat → Int32} {P V : Nat → Nat} {C : Nat → Nat → Int32} {p : Nat → Bool} {Q : sh_Q279} {Rm : Option (Bool × sh_X)} {un n bb : Nat} {gs : sh_gL} {u z q B fr cl sp cw ifs cd kn tp li : Nat} {mc mm : sh_X} {f cdx nn : Nat} {r b σ : Nat → Nat} {k : Nat} {e' : sh_gL} {nk : Nat} {mck mmk : sh_X} {uk spk tpk : Nat} (h : se_Ak N K P V C p Q Rm un n bb gs u z q B fr cl sp cw ifs cd kn tp li mc mm f cdx nn r b σ k e' nk mck mmk uk spk tpk) : tp ≤ tpk := h.2.2.2.2.2.2.2.2.2.2.2.2.2.1
theorem se_Ak.t16 {N : Nat} {K : Nat → Int32} {P V : Nat → Nat} {C : Nat → Nat → Int32} {p : Nat → Bool} {Q : sh_Q279} {Rm : Option (Bool × sh_X)} {un n bb : Nat} {gs : sh_gL} {u z q B fr cl sp cw ifs cd kn tp li : Nat} {mc mm : sh_X} {f cdx nn : Nat} {r b σ : Nat → Nat} {k : Nat} {e' : sh_gL} {nk : Nat} {mck mmk : sh_X} {uk spk tpk : Nat} (h : se_Ak N K P V C p Q Rm un n bb gs u z q B fr cl sp cw ifs cd kn tp li mc mm f cdx nn r b σ k e' nk mck mmk uk spk tpk) : tpk ≤ 16 * (bb + σ k) := h.2.2.2.2.2.2.2.2.2.2.2.2.2.2.1
theorem se_Ak.n5 {N : Nat} {K : Nat → Int32} {P V : Nat → Nat} {C : Nat → Nat → Int32} {p : Nat → Bool} {Q : sh_Q279} {Rm : Option (Bool × sh_X)} {un n bb : Nat} {gs : sh_gL} {u z q B fr cl sp cw ifs cd kn tp li : Nat} {mc mm : sh_X} {f cdx nn : Nat} {r b σ : Nat → Nat} {k : Nat} {e' : sh_gL} {nk : Nat} {mck mmk : sh_X} {uk spk tpk : Nat} (h : se_Ak N K P V C p Q Rm un n bb gs u z q B fr cl sp cw ifs cd kn tp li mc mm f cdx nn r b σ k e' nk mck mmk uk spk tpk) : nk + 50 * (3000 - spk) ≤ n + 50 * (3000 - sp) + 46 * k := h.2.2.2.2.2.2.2.2.2.2.2.2.2.2.2.1
theorem se_Ak.g14 {N : Nat} {K : Nat → Int32} {P V : Nat → Nat} {C : Nat → Nat → Int32} {p : Nat → Bool} {Q : sh_Q279} {Rm : Option (Bool × sh_X)} {un n bb : Nat} {gs : sh_gL} {u z q B fr cl sp cw ifs cd kn tp li : Nat} {mc mm : sh_X} {f cdx nn : Nat} {r b σ : Nat → Nat} {k : Nat} {e' : sh_gL} {nk : Nat} {mck mmk : sh_X} {uk spk tpk : Nat} (h : se_Ak N K P V C p Q Rm un n bb gs u z q B fr cl sp cw ifs cd kn tp li mc mm f cdx nn r b σ k e' nk mck mmk uk spk tpk) : (e' ++ gs).length + 14 * (3000 - spk) ≤ gs.length + 14 * (3000 - sp) := h.2.2.2.2.2.2.2.2.2.2.2.2.2.2.2.2.1
theorem se_Ak.u5 {N : Nat} {K : Nat → Int32} {P V : Nat → Nat} {C : Nat → Nat → Int32} {p : Nat → Bool} {Q : sh_Q279} {Rm : Option (Bool × sh_X)} {un n bb : Nat} {gs : sh_gL} {u z q B fr cl sp cw ifs cd kn tp li : Nat} {mc mm : sh_X} {f cdx nn : Nat} {r b σ : Nat → Nat} {k : Nat} {e' : sh_gL} {nk : Nat} {mck mmk : sh_X} {uk spk tpk : Nat} (h : se_Ak N K P V C p Q Rm un n bb gs u z q B fr cl sp cw ifs cd kn tp li mc mm f cdx nn r b σ k e' nk mck mmk uk spk tpk) : 4 * uk + 5 * (3000 - spk) ≤ 4 * u + 5 * (3000 - sp) := h.2.2.2.2.2.2.2.2.2.2.2.2.2.2.2.2.2
theorem se_Ak.mk {N : Nat} {K : Nat → Int32} {P V : Nat → Nat} {C : Nat → Nat → Int32} {p : Nat → Bool} {Q : sh_Q279} {Rm : Option (Bool × sh_X)} {un n bb : Nat} {gs : sh_gL} {u z q B fr cl sp cw ifs cd kn tp li : Nat} {mc mm : sh_X} {f cdx nn : Nat} {r b σ : Nat → Nat} {k : Nat} {e' : sh_gL} {nk : Nat} {mck mmk : sh_X} {uk spk tpk : Nat} (ec : sf_78_10 (Int32.ofNat n) mc = sf_78_10 (Int32.ofNat nk) mck) (em : Rm = sf_315_177 Q (Int32.ofNat f) (Int32.ofNat k) (Int32.ofNat cdx) (Int32.ofNat tp) (Int32.ofNat li) (if k < nn then Int32.ofNat (r k) else -1) mmk) (at_ : mck.I 41 13 = Int32.ofNat (b k)) (hc : se_c N K P V C (e' ++ gs) uk (z + k) q B fr cl spk cw ifs cd kn mck) (hF : se_F u z q fr cl mc mck) (hG : se_G tp q un li (se_li (li + k) mm) mmk) (el : ∀ x, x < k → se_Ea C p f (e' ++ gs) uk z li tpk x mck mmk) (w73 : mmk.I 66 73 = Int32.ofNat un) (w41 : mmk.I 66 41 = Int32.ofNat tpk) (w42 : mmk.I 66 42 = Int32.ofNat spk) (lu : u ≤ uk) (lsp : sp ≤ spk) (sp3 : spk ≤ 3000) (ltp : tp ≤ tpk) (t16 : tpk ≤ 16 * (bb + σ k)) (n5 : nk + 50 * (3000 - spk) ≤ n + 50 * (3000 - sp) + 46 * k) (g14 : (e' ++ gs).length + 14 * (3000 - spk) ≤ gs.length + 14 * (3000 - sp)) (u5 : 4 * uk + 5 * (3000 - spk) ≤ 4 * u + 5 * (3000 - sp)) : se_Ak N K P V C p Q Rm un n bb gs u z q B fr cl sp cw ifs cd kn tp li mc mm f cdx nn r b σ k e' nk mck mmk uk spk tpk := ⟨ec, em, at_, hc, hF, hG, el, w73, w41, w42, lu, lsp, sp3, ltp, t16, n5, g14, u5⟩
section
variable {N : Nat} {K : Nat → Int32} {P V : Nat → Nat} {A C : Nat → Nat → Int32} {p : Nat → Bool} {pf : Nat → Nat} {F c2 un n len d bb sg : Nat} {gs : sh_gL} {u z q B M fr cl sp cw ifs cd kn inn tp li : Nat} {ac : Bool} {mc mm : sh_X} {f cdx nn g : Nat} {r b σ lk s : Nat → Nat} {Rm : Option (Bool × sh_X)}
/-- one argument more -/
theorem se_argS (hT : sh_Txt N K P V) (hm : se_m N K P V A q B sp ifs cd kn inn tp li ac mm) (hJ : se_J N K V p gs u q B M tp cw ac mc mm) (bd : se_Bd P pf F n gs.length u z q fr (cl + 1) sp cd kn tp li un g d len bb sg) (lB : B ≤ q) (c10 : C 28 10 = Int32.ofNat c2) (c6 : c2 ≤ 6000) (ifb : ifs ≤ bb ∧ inn ≤ sp) (hH : sh_Hds N K V A C F) (hf : f < F) (hF : F < 256) (h80 : A 80 f = Int32.ofNat nn) (n8 : nn ≤ 8) (h43 : mc.I 43 cl = Int32.ofNat f) (hcl : cl < 1000)
    (hσ : ∀ k, k < nn → σ k + lk k + 1 ≤ σ (k + 1) ∧ 1 ≤ lk k) (hσn : σ nn + 1 ≤ len) (hr : ∀ k, k < nn → r k < 9000 ∧ A 77 (r k) = (if k + 1 < nn then Int32.ofNat (r (k + 1)) else -1) ∧ A 78 (r k) = Int32.ofNat (s k) ∧ s k ≤ N ∧ b k + 1 ≤ b (k + 1) ∧ b (k + 1) ≤ c2 ∧ C 36 (b (k + 1) - 1) = 16 ∧ C 37 (b (k + 1) - 1) = Int32.ofNat (s k) ∧ C 38 (b (k + 1) - 1) = Int32.ofNat k)
    (ih : ∀ k, k < nn → se_OK N K P V A C p pf F c2 kn (r k) (b k) (b (k + 1) - 1) d (lk k))
    {k : Nat} {e' : sh_gL} {nk : Nat} {mck mmk : sh_X} {uk spk tpk : Nat} (hk : k < nn) (R : se_Ak N K P V C p (sq_279 (g + 1)) Rm un n bb gs u z q B fr (cl + 1) sp cw ifs cd kn tp li mc mm f cdx nn r b σ k e' nk mck mmk uk spk tpk) :
    se_bad N P mc mm (sf_78_10 (Int32.ofNat n) mc) Rm ∨
    ∃ e2 n2 mc2 mm2 u2 sp2 tp2, se_Ak N K P V C p (sq_279 (g + 1)) Rm un n bb gs u z q B fr (cl + 1) sp cw ifs cd kn tp li mc mm f cdx nn r b σ (k + 1) e2 n2 mc2 mm2 u2 sp2 tp2 := by
  have N4 := hT.N4
  have un4 := bd.un4
  have bb4 := bd.bb4
  have sg1 := se_sig hσ (nn - k) k (by omega)
  have hk1 := hσ k hk
  have sg2 := se_sig hσ (nn - (k + 1)) (k + 1) (by omega)
  obtain ⟨rk, r77, r78, sN, bk, bc, c16, w16, x16⟩ := hr k hk
  obtain ⟨nf, nt, rt, tt, h0, hp, _, _, _⟩ := hH f hf
  have enf : nf = nn := by
    have := h0.n8
    exact (sh_nIeq (by omega) (by omega)).mp (h0.a80.symm.trans h80)
  subst enf
  obtain ⟨hp1, hp2⟩ := hp k hk
  obtain ⟨_, _, _, _, hty⟩ := h0.pr k hk
  obtain ⟨k2, b2, n2', x, y1, y2, y3, y4, y5⟩ := se_tyw hT hty hp2 (by have := h0.tN k hk; omega)
  have hmk := (hm.li (l2 := li + k)).G R.hG R.w41 R.w42
  have Jk := (hJ.li (l2 := li + k)).keep (e := e') R.hF R.hG R.lu R.ltp
  obtain ⟨m1, p1, p2, p3, p4⟩ := se_psh0 (a := r k) R.w73 rk (by omega)
  have o8 : sh_okb (Int32.ofNat (8 * f + k)) 4800 = true := sh_okn' (by omega) (by omega)
  have i8 : (8 : Int32) * Int32.ofNat f + Int32.ofNat k = Int32.ofNat (8 * f + k) := by
    rw [show (8 : Int32) = Int32.ofNat 8 from rfl, sh_nImul, sh_nIadd]
  have x1 := R.n5
  have x2 := R.g14
  have x3 := R.u5
  have x4 := R.t16
  have x5 := R.lu
  have x6 := R.lsp
  have x7 := R.ltp
  have z2 := bd.z2
  have l2 := bd.l2
  have q4 := bd.q4
  have n5 := bd.n5
  have g14 := bd.g14
  have u5 := bd.u5
  have bdk : se_Bd P pf F nk (e' ++ gs).length uk (z + k) q fr (cl + 1) spk cd kn tpk (li + k) un g d (lk k) (bb + σ k) sg :=
    se_Bd.mk (by omega) x4 (by omega) (by omega) (by omega) (by omega) (by omega) (by omega) (by omega) bd.f4 bd.c1 bd.dq_ R.sp3 bd.cd2 bd.d40 bd.kF
  have P1 : se_P N K P V A C p pf F c2 un un (r k) (b k) nk (lk k) d (bb + σ k) sg g (e' ++ gs) uk (z + k) q B M fr (cl + 1) spk cw ifs cd kn inn tpk (li + k) ac mck m1 :=
    se_P.mk hT R.hc (p2.m hmk) (Jk.keep (e := []) (se_F.refl (u := uk) (z := z) (fr := fr) (cl := cl) mck) (p2.G (li := li)) (Nat.le_refl _) (Nat.le_refl _)) R.at_ p3 p4 bdk lB c10 c6 (by omega)
  have e82 : mmk.I 82 = A 82 := hmk.aa 82 (by omega) (by omega)
  have st1 : ∀ ro, sf_294_10 (sq_279 g) (Int32.ofNat un) m1 = ro → sf_315_177s (sq_279 (g + 1)) (Int32.ofNat f) (Int32.ofNat k) (Int32.ofNat cdx) (Int32.ofNat tp) (Int32.ofNat li) (Int32.ofNat (r k)) mmk = sh_bn ro fun r2 m12 => if r2 = true then (if sh_okb (Int32.ofNat (8 * f + k)) 4800 = true then sh_bc (sf_286 (m12.I 83 (8 * f + k)) m12) fun r3 => sh_bn (sf_317 (Int32.ofNat (r k)) (Int32.ofNat k2) (Int32.ofNat b2) r3 m12) fun r4 m14 => if r4 = true then (if sh_okb (m14.I 66 79) 2000 = true then (if sh_okb (m14.I 66 79) 2000 = true then (if sh_okb (m14.I 66 79) 2000 = true then (if sh_okb (m14.I 66 79) 2000 = true then (if sh_okb (Int32.ofNat (r k)) 9000 = true then some (.inl (Int32.ofNat k + 1, m14.I 77 (r k), (m14.T, sh_u2 (sh_u2 (sh_u2 (sh_u2 m14.I 112 (Int32.toNatClampNeg (m14.I 66 79)) (m14.I 66 43)) 113 (Int32.toNatClampNeg (m14.I 66 79)) (m14.I 66 44)) 114 (Int32.toNatClampNeg (m14.I 66 79)) (m14.I 66 45)) 66 79 ((m14.I 66 79) + 1), sh_u2 m14.J 115 (Int32.toNatClampNeg (m14.I 66 79)) (m14.J 66 46), m14.s))) else none) else none) else none) else none) else none) else some (.inr (false, m14)) else none) else some (.inr (false, m12)) := by
    intro ro hro
    unfold sf_315_177s
    rw [if_neg (sh_nI0 (by omega)), i8, if_pos o8, sh_nIc (by omega), e82, (y5 mmk hmk.we).1, sh_bc_some, y4, y3]
    have e294 : (sq_279 (g + 1)).f294 (Int32.ofNat (r k)) mmk = ro := by
      show sf_294 (sq_279 g) (Int32.ofNat (r k)) mmk = ro
      unfold sf_294
      rw [p1, sh_bn_some, R.w73, hro]
    rw [e294, sh_nIc (by omega)]
  have em := R.em
  rw [if_pos hk] at em
  rcases (ih k hk _ _ _ _ _ _ _ _ _ _ _ _ _ _ _ _ _ _ _ _ _ _ _ _ P1).out with bad | ⟨e2, n2, mc2, mm2, u2, sp2, tp2, kk, bk', nk', v, t, a1, a2, a3, Y⟩
  · left
    obtain ⟨kk, tt', x', y', q1, q2, q3, q4', q5⟩ := bad
    refine ⟨kk, tt', x', y', q1, by rw [R.ec, q2], R.hF.thenW q3, ?_, ((se_li_U.trans R.hG.U).trans (p2.G (tp := 0) (q := 0) (li := 0)).U).trans q5⟩
    rw [em]
    unfold sf_315_177
    rw [sh_while_eq, st1 _ q4']
    rfl
  · rw [se_294e a3] at a2
    have st2 := st1 _ a2
    rw [sh_bn_some, if_pos rfl, if_pos o8, Y.hm.aa 83 (by omega) (by omega), (y5 mm2 Y.hm.we).2, sh_bc_some] at st2
    -- ARGUMENT
    have y_n5 := Y.n5
    have y_sp3 := Y.sp3
    have y_lu := Y.lu
    have y_lsp := Y.lsp
    have y_u5 := Y.u5
    have y_g14 := Y.g14
    have y_t16 := Y.t16
    have y_ltp := Y.ltp
    have at1 := Y.hc.at (n := n2) (by omega) Y.at_ c10 (by omega) c6 c16 w16 x16
    have c1 := Y.hc.nx (i := b (k + 1) - 1 + 1)
    have f1 : se_F u2 (z + k + 1) q fr (cl + 1) mc2 (se_nx (b (k + 1) - 1 + 1) mc2) := se_nxFr
    have F1 := (R.hF.trans Y.hF R.lu (by omega) (Nat.le_refl _) (Nat.le_refl _) (Nat.le_refl _)).trans f1 (by omega) (by omega) (Nat.le_refl _) (Nat.le_refl _) (Nat.le_refl _)
    have b43 : (se_nx (b (k + 1) - 1 + 1) mc2).I 43 cl = Int32.ofNat f := (F1.cl_ cl (by omega)).trans h43
    have e158 : sf_158 (se_nx (b (k + 1) - 1 + 1) mc2) = some (Int32.ofNat f) := by
      unfold sf_158
      rw [c1.ccl, if_pos ((se_0lt (by omega)).mpr (by omega)), se_um1, if_pos (sh_okn' (by omega) (by omega)), sh_nIc (by omega), b43]
    have i8' : Int32.ofNat f * 8 + Int32.ofNat k = Int32.ofNat (8 * f + k) := by
      rw [show (8 : Int32) = Int32.ofNat 8 from rfl, sh_nImul, sh_nIadd, Nat.mul_comm]
    have cls : sf_78_10 (Int32.ofNat n) mc = se_go n2 (sh_bt (sf_125 (Int32.ofNat (sh_te k2 b2 n2')) (Int32.ofNat (s k)) (se_nx (b (k + 1) - 1 + 1) mc2)) (fun m => (none, m)) fun _ m12 => some (some (), m12)) := by
      rw [R.ec, a1, se_a16 at1]
      unfold sf_159
      rw [e158, sh_bc_some, i8', if_neg (sh_nI0 (by omega)), if_pos (show Int32.ofNat (8 * f + k) < 2048 from (sh_nIlt (b := 2048) (by omega) (by omega)).mpr (by omega)), if_pos (sh_okn' (by omega) (by omega)), sh_nIc (by omega), c1.cc 35 (by omega) (by omega), hp1, y2]
    have D1 := Y.hD.keep (e := []) f1 (by omega) (Nat.le_refl _)
    have Gm : se_G tpk q un (li + k) mmk mm2 := (p2.G (tp := tpk) (q := q) (li := li + k)).trans Y.hG (Nat.le_refl _) (Nat.le_refl _) (Nat.le_refl _) (Nat.le_refl _)
    have Gt : se_G tp q un li (se_li (li + k) mm) mm2 := R.hG.trans Gm (by omega) (Nat.le_refl _) (Nat.le_refl _) (by omega)
    rcases se_dem (e := r k) (w := s k) N4 c1 (by omega) D1 Y.tN Y.sp3 (by omega) Y.hm.we Y.hm.msp Y.hR rk (by rw [Y.hm.aa 73 (by omega) (by omega)]; exact Y.h73) (by rw [Y.hm.aa 78 (by omega) (by omega)]; exact r78) sN y1 with bad | ⟨mc3, mm3, d1, d2, e3, u3, sp3, Z1, Z2, Z3, Z4, Z5, Z6, Z7, Z8, Z9, Z10, Z11, Z12⟩
    · left
      obtain ⟨kk, tt', x', y', q1, q2, q3, q4', q5⟩ := bad
      refine ⟨kk, tt', x', y', q1, by rw [cls, q2]; rfl, F1.thenW q3, ?_, (se_li_U.trans Gt.U).trans q5⟩
      rw [em]
      unfold sf_315_177
      rw [sh_while_eq, st2, q4']
      rfl
    · right
      have m79 : mm3.I 66 79 = Int32.ofNat (li + k) := (Z4.F 79 (by omega) (by omega) (by omega) (by omega)).trans Y.hm.mli
      have o2 : sh_okb (Int32.ofNat (li + k)) 2000 = true := sh_okn' (by omega) (by omega)
      have m77 : mm3.I 77 (r k) = if k + 1 < nf then Int32.ofNat (r (k + 1)) else -1 := by rw [Z4.I 77 (by omega), Y.hm.aa 77 (by omega) (by omega)]; exact r77
      rw [d2, sh_bn_some, if_pos rfl, m79, if_pos o2, if_pos o2, if_pos o2, if_pos o2, if_pos (sh_okn' rk (by omega)), sh_nIc (by omega), m77, sh_nI1, sh_nI1] at st2
      obtain ⟨l1, l2', l3, l4, l5, l6⟩ := se_lst_ok (l := li + k) (tp := tp2) (q := q) (un := un) (m := mm3)
      have ee : e3 ++ (e2 ++ (e' ++ gs)) = (e3 ++ e2 ++ e') ++ gs := by rw [List.append_assoc, List.append_assoc]
      rw [ee] at Z1 Z3 Z11
      have F2 := F1.trans Z2 (by omega) (by omega) (Nat.le_refl _) (Nat.le_refl _) (Nat.le_refl _)
      have G3 : se_G tpk q un (li + k) mmk mm3 := Gm.trans (se_G.R Z4) (Nat.le_refl _) (Nat.le_refl _) (Nat.le_refl _) (Nat.le_refl _)
      have lk0 : li + k + 1 = li + (k + 1) := by omega
      refine ⟨e3 ++ e2 ++ e', n2 + 1, mc3, se_lst (li + k) mm3, u3, sp3, tp2, se_Ak.mk (by rw [cls, d1]; rfl) ?_ (by rw [Z7, se_nxA]; congr 1; omega) Z1 F2 ?_ ?_ ?_ ?_ ?_ (by omega) (by omega) Z10 (by omega) (by omega) (by omega) (by omega) (by omega)⟩
      · rw [em]
        unfold sf_315_177
        rw [sh_while_eq, st2]
        rfl
      · have g1 := (R.hG.trans G3 (by omega) (Nat.le_refl _) (Nat.le_refl _) (by omega)).li (li := li + k + 1)
        rw [se_lili] at g1
        exact g1.trans l1 (by omega) (Nat.le_refl _) (Nat.le_refl _) (by omega)
      · intro y hy
        by_cases hxk : y = k
        · subst hxk
          refine ⟨k2, b2, n2', v, Z3, by rw [hp1, y2], l2'.trans Z5.1, l3.trans (Z5.2.1 (by have := y1.k2; omega)), l4.trans Z5.2.2.1, fun w => l5.trans (Z5.2.2.2.1 w), fun w => ?_⟩
          obtain ⟨a, w1, w2, w3⟩ := Z5.2.2.2.2 w
          exact ⟨a, l5.trans w1, w2, fun i hi => by rw [← w3 i hi]; exact se_Jn (by omega)⟩
        · have fz : se_F uk (z + k) q fr (cl + 1) mck mc3 := (Y.hF.trans (f1.less (u := u2) (z := z + k) (q := q) (fr := fr) (cl := cl + 1) (Nat.le_refl _) (by omega) (Nat.le_refl _) (Nat.le_refl _) (Nat.le_refl _)) Y.lu (Nat.le_refl _) (Nat.le_refl _) (Nat.le_refl _) (Nat.le_refl _)).trans Z2 (by omega) (Nat.le_refl _) (Nat.le_refl _) (Nat.le_refl _) (Nat.le_refl _)
          have l0 : se_G0 tpk q un (li + k) mm3 (se_lst (li + k) mm3) := ((se_G0.wF (f := 79) (x := Int32.ofNat (li + k + 1)) (by omega)).trans (se_lst_ok (l := li + k) (tp := tpk) (q := q) (un := un) (m := mm3)).1.G0 (Nat.le_refl _) (Nat.le_refl _) (Nat.le_refl _) (Nat.le_refl _))
          have := (R.el y (by omega)).keep (e := e3 ++ e2) (u2 := u3) (tp2 := tp2) fz (by omega) (by omega) (G3.G0.trans l0 (Nat.le_refl _) (Nat.le_refl _) (Nat.le_refl _) (Nat.le_refl _)) (by omega) (by omega)
          rw [← List.append_assoc] at this
          exact this
      · exact (l6 73 (by omega)).trans ((Z4.F 73 (by omega) (by omega) (by omega) (by omega)).trans a3)
      · exact (l6 41 (by omega)).trans ((Z4.F 41 (by omega) (by omega) (by omega) (by omega)).trans Y.hm.mtp)
      · exact (l6 42 (by omega)).trans Z6
end
