/-! EVALUATION: rows: the loose ones become of the type -/
def se_Rw (N : Nat) (K : Nat → Int32) (P V : Nat → Nat) (C : Nat → Nat → Int32) (p : Nat → Bool) (gs : sh_gL) (u z q B fr cl sp cw ifs cd kn n un li tp ky bY : Nat) (K1 B1 N1 T1 R1 : Nat → Nat) (V1 : Nat → Nat → Int64) (mc mm : sh_X) (x : Nat) (e' : sh_gL) (u2 sp2 : Nat) (m m2 : sh_X) : Prop := (se_c N K P V C (e' ++ gs) u2 (z + n) q B fr cl sp2 cw ifs cd kn m) ∧ (se_F u z q fr cl mc m) ∧ (m.I 41 13 = mc.I 41 13) ∧ (∀ i, i < x → se_T p m (e' ++ gs) u2 (z + i) (if K1 i = 3 then ky else K1 i) (if K1 i = 3 then bY else B1 i) (N1 i) (V1 i)) ∧ (∀ i, x ≤ i → i < n → se_D p m (e' ++ gs) u2 (z + i) (T1 i) (K1 i) (B1 i) (N1 i) (V1 i)) ∧ (sh_We N K P V m2) ∧ (se_G tp q un li mm m2) ∧ (m2.I 66 42 = Int32.ofNat sp2) ∧ (m2.I 66 41 = mm.I 66 41) ∧ (m2.I 66 73 = mm.I 66 73) ∧ (∀ i, i < x → m2.I 112 (li + i) = Int32.ofNat (if K1 i = 3 then ky else K1 i) ∧ m2.I 113 (li + i) = Int32.ofNat (if K1 i = 3 then bY else B1 i)) ∧ (∀ i, x ≤ i → i < n → m2.I 112 (li + i) = Int32.ofNat (K1 i) ∧ (K1 i ≠ 3 → m2.I 113 (li + i) = Int32.ofNat (B1 i))) ∧ (∀ i, i < n → m2.I 114 (li + i) = Int32.ofNat (N1 i) ∧ (N1 i = 0 → m2.J 115 (li + i) = V1 i 0) ∧ m2.I 116 (li + i) = Int32.ofNat (R1 i)) ∧ (u ≤ u2) ∧ (sp ≤ sp2) ∧ (sp2 ≤ 3000) ∧ ((e' ++ gs).length + 14 * (3000 - sp2) ≤ gs.length + 14 * (3000 - sp)) ∧ (4 * u2 + 5 * (3000 - sp2) ≤ 4 * u + 5 * (3000 - sp))
theorem se_Rw.hc {N : Nat} {K : Nat → Int32} {P V : Nat → Nat} {C : Nat → Nat → Int32} {p : Nat → Bool} {gs : sh_gL} {u z q B fr cl sp cw ifs cd kn n un li tp ky bY : Nat} {K1 B1 N1 T1 R1 : Nat → Nat} {V1 : Nat → Nat → Int64} {mc mm : sh_X} {x : Nat} {e' : sh_gL} {u2 sp2 : Nat} {m m2 : sh_X} (h : se_Rw N K P V C p gs u z q B fr cl sp cw ifs cd kn n un li tp ky bY K1 B1 N1 T1 R1 V1 mc mm x e' u2 sp2 m m2) : se_c N K P V C (e' ++ gs) u2 (z + n) q B fr cl sp2 cw ifs cd kn m := h.1
theorem se_Rw.hF {N : Nat} {K : Nat → Int32} {P V : Nat → Nat} {C : Nat → Nat → Int32} {p : Nat → Bool} {gs : sh_gL} {u z q B fr cl sp cw ifs cd kn n un li tp ky bY : Nat} {K1 B1 N1 T1 R1 : Nat → Nat} {V1 : Nat → Nat → Int64} {mc mm : sh_X} {x : Nat} {e' : sh_gL} {u2 sp2 : Nat} {m m2 : sh_X} (h : se_Rw N K P V C p gs u z q B fr cl sp cw ifs cd kn n un li tp ky bY K1 B1 N1 T1 R1 V1 mc mm x e' u2 sp2 m m2) : se_F u z q fr cl mc m := h.2.1
theorem se_Rw.at_ {N : Nat} {K : Nat → Int32} {P V : Nat → Nat} {C : Nat → Nat → Int32} {p : Nat → Bool} {gs : sh_gL} {u z q B fr cl sp cw ifs cd kn n un li tp ky bY : Nat} {K1 B1 N1 T1 R1 : Nat → Nat} {V1 : Nat → Nat → Int64} {mc mm : sh_X} {x : Nat} {e' : sh_gL} {u2 sp2 : Nat} {m m2 : sh_X} (h : se_Rw N K P V C p gs u z q B fr cl sp cw ifs cd kn n un li tp ky bY K1 B1 N1 T1 R1 V1 mc mm x e' u2 sp2 m m2) : m.I 41 13 = mc.I 41 13 := h.2.2.1
theorem se_Rw.dn {N : Nat} {K : Nat → Int32} {P V : Nat → Nat} {C : Nat → Nat → Int32} {p : Nat → Bool} {gs : sh_gL} {u z q B fr cl sp cw ifs cd kn n un li tp ky bY : Nat} {K1 B1 N1 T1 R1 : Nat → Nat} {V1 : Nat → Nat → Int64} {mc mm : sh_X} {x : Nat} {e' : sh_gL} {u2 sp2 : Nat} {m m2 : sh_X} (h : se_Rw N K P V C p gs u z q B fr cl sp cw ifs cd kn n un li tp ky bY K1 B1 N1 T1 R1 V1 mc mm x e' u2 sp2 m m2) : ∀ i, i < x → se_T p m (e' ++ gs) u2 (z + i) (if K1 i = 3 then ky else K1 i) (if K1 i = 3 then bY else B1 i) (N1 i) (V1 i) := h.2.2.2.1
theorem se_Rw.up {N : Nat} {K : Nat → Int32} {P V : Nat → Nat} {C : Nat → Nat → Int32} {p : Nat → Bool} {gs : sh_gL} {u z q B fr cl sp cw ifs cd kn n un li tp ky bY : Nat} {K1 B1 N1 T1 R1 : Nat → Nat} {V1 : Nat → Nat → Int64} {mc mm : sh_X} {x : Nat} {e' : sh_gL} {u2 sp2 : Nat} {m m2 : sh_X} (h : se_Rw N K P V C p gs u z q B fr cl sp cw ifs cd kn n un li tp ky bY K1 B1 N1 T1 R1 V1 mc mm x e' u2 sp2 m m2) : ∀ i, x ≤ i → i < n → se_D p m (e' ++ gs) u2 (z + i) (T1 i) (K1 i) (B1 i) (N1 i) (V1 i) := h.2.2.2.2.1
theorem se_Rw.we {N : Nat} {K : Nat → Int32} {P V : Nat → Nat} {C : Nat → Nat → Int32} {p : Nat → Bool} {gs : sh_gL} {u z q B fr cl sp cw ifs cd kn n un li tp ky bY : Nat} {K1 B1 N1 T1 R1 : Nat → Nat} {V1 : Nat → Nat → Int64} {mc mm : sh_X} {x : Nat} {e' : sh_gL} {u2 sp2 : Nat} {m m2 : sh_X} (h : se_Rw N K P V C p gs u z q B fr cl sp cw ifs cd kn n un li tp ky bY K1 B1 N1 T1 R1 V1 mc mm x e' u2 sp2 m m2) : sh_We N K P V m2 := h.2.2.2.2.2.1
theorem se_Rw.G {N : Nat} {K : Nat → Int32} {P V : Nat → Nat} {C : Nat → Nat → Int32} {p : Nat → Bool} {gs : sh_gL} {u z q B fr cl sp cw ifs cd kn n un li tp ky bY : Nat} {K1 B1 N1 T1 R1 : Nat → Nat} {V1 : Nat → Nat → Int64} {mc mm : sh_X} {x : Nat} {e' : sh_gL} {u2 sp2 : Nat} {m m2 : sh_X} (h : se_Rw N K P V C p gs u z q B fr cl sp cw ifs cd kn n un li tp ky bY K1 B1 N1 T1 R1 V1 mc mm x e' u2 sp2 m m2) : se_G tp q un li mm m2 := h.2.2.2.2.2.2.1
theorem se_Rw.h42 {N : Nat} {K : Nat → Int32} {P V : Nat → Nat} {C : Nat → Nat → Int32} {p : Nat → Bool} {gs : sh_gL} {u z q B fr cl sp cw ifs cd kn n un li tp ky bY : Nat} {K1 B1 N1 T1 R1 : Nat → Nat} {V1 : Nat → Nat → Int64} {mc mm : sh_X} {x : Nat} {e' : sh_gL} {u2 sp2 : Nat} {m m2 : sh_X} (h : se_Rw N K P V C p gs u z q B fr cl sp cw ifs cd kn n un li tp ky bY K1 B1 N1 T1 R1 V1 mc mm x e' u2 sp2 m m2) : m2.I 66 42 = Int32.ofNat sp2 := h.2.2.2.2.2.2.2.1
theorem se_Rw.h41 {N : Nat} {K : Nat → Int32} {P V : Nat → Nat} {C : Nat → Nat → Int32} {p : Nat → Bool} {gs : sh_gL} {u z q B fr cl sp cw ifs cd kn n un li tp ky bY : Nat} {K1 B1 N1 T1 R1 : Nat → Nat} {V1 : Nat → Nat → Int64} {mc mm : sh_X} {x : Nat} {e' : sh_gL} {u2 sp2 : Nat} {m m2 : sh_X} (h : se_Rw N K P V C p gs u z q B fr cl sp cw ifs cd kn n un li tp ky bY K1 B1 N1 T1 R1 V1 mc mm x e' u2 sp2 m m2) : m2.I 66 41 = mm.I 66 41 := h.2.2.2.2.2.2.2.2.1
theorem se_Rw.h73 {N : Nat} {K : Nat → Int32} {P V : Nat → Nat} {C : Nat → Nat → Int32} {p : Nat → Bool} {gs : sh_gL} {u z q B fr cl sp cw ifs cd kn n un li tp ky bY : Nat} {K1 B1 N1 T1 R1 : Nat → Nat} {V1 : Nat → Nat → Int64} {mc mm : sh_X} {x : Nat} {e' : sh_gL} {u2 sp2 : Nat} {m m2 : sh_X} (h : se_Rw N K P V C p gs u z q B fr cl sp cw ifs cd kn n un li tp ky bY K1 B1 N1 T1 R1 V1 mc mm x e' u2 sp2 m m2) : m2.I 66 73 = mm.I 66 73 := h.2.2.2.2.2.2.2.2.2.1
theorem se_Rw.ld {N : Nat} {K : Nat → Int32} {P V : Nat → Nat} {C : Nat → Nat → Int32} {p : Nat → Bool} {gs : sh_gL} {u z q B fr cl sp cw ifs cd kn n un li tp ky bY : Nat} {K1 B1 N1 T1 R1 : Nat → Nat} {V1 : Nat → Nat → Int64} {mc mm : sh_X} {x : Nat} {e' : sh_gL} {u2 sp2 : Nat} {m m2 : sh_X} (h : se_Rw N K P V C p gs u z q B fr cl sp cw ifs cd kn n un li tp ky bY K1 B1 N1 T1 R1 V1 mc mm x e' u2 sp2 m m2) : ∀ i, i < x → m2.I 112 (li + i) = Int32.ofNat (if K1 i = 3 then ky else K1 i) ∧ m2.I 113 (li + i) = Int32.ofNat (if K1 i = 3 then bY else B1 i) := h.2.2.2.2.2.2.2.2.2.2.1
theorem se_Rw.lu {N : Nat} {K : Nat → Int32} {P V : Nat → Nat} {C : Nat → Nat → Int32} {p : Nat → Bool} {gs : sh_gL} {u z q B fr cl sp cw ifs cd kn n un li tp ky bY : Nat} {K1 B1 N1 T1 R1 : Nat → Nat} {V1 : Nat → Nat → Int64} {mc mm : sh_X} {x : Nat} {e' : sh_gL} {u2 sp2 : Nat} {m m2 : sh_X} (h : se_Rw N K P V C p gs u z q B fr cl sp cw ifs cd kn n un li tp ky bY K1 B1 N1 T1 R1 V1 mc mm x e' u2 sp2 m m2) : ∀ i, x ≤ i → i < n → m2.I 112 (li + i) = Int32.ofNat (K1 i) ∧ (K1 i ≠ 3 → m2.I 113 (li + i) = Int32.ofNat (B1 i)) := h.2.2.2.2.2.2.2.2.2.2.2.1
theorem se_Rw.l4 {N : Nat} {K : Nat → Int32} {P V : Nat → Nat} {C : Nat → Nat → Int32} {p : Nat → Bool} {gs : sh_gL} {u z q B fr cl sp cw ifs cd kn n un li tp ky bY : Nat} {K1 B1 N1 T1 R1 : Nat → Nat} {V1 : Nat → Nat → Int64} {mc mm : sh_X} {x : Nat} {e' : sh_gL} {u2 sp2 : Nat} {m m2 : sh_X} (h : se_Rw N K P V C p gs u z q B fr cl sp cw ifs cd kn n un li tp ky bY K1 B1 N1 T1 R1 V1 mc mm x e' u2 sp2 m m2) : ∀ i, i < n → m2.I 114 (li + i) = Int32.ofNat (N1 i) ∧ (N1 i = 0 → m2.J 115 (li + i) = V1 i 0) ∧ m2.I 116 (li + i) = Int32.ofNat (R1 i) := h.2.2.2.2.2.2.2.2.2.2.2.2.1
theorem se_Rw.lus {N : Nat} {K : Nat → Int32} {P V : Nat → Nat} {C : Nat → Nat → Int32} {p : Nat → Bool} {gs : sh_gL} {u z q B fr cl sp cw ifs cd kn n un li tp ky bY : Nat} {K1 B1 N1 T1 R1 : Nat → Nat} {V1 : Nat → Nat → Int64} {mc mm : sh_X} {x : Nat} {e' : sh_gL} {u2 sp2 : Nat} {m m2 : sh_X} (h : se_Rw N K P V C p gs u z q B fr cl sp cw ifs cd kn n un li tp ky bY K1 B1 N1 T1 R1 V1 mc mm x e' u2 sp2 m m2) : u ≤ u2 := h.2.2.2.2.2.2.2.2.2.2.2.2.2.1
theorem se_Rw.lsp {N : Nat} {K : Nat → Int32} {P V : Nat → Nat} {C : Nat → Nat → Int32} {p : Nat → Bool} {gs : sh_gL} {u z q B fr cl sp cw ifs cd kn n un li tp ky bY : Nat} {K1 B1 N1 T1 R1 : Nat → Nat} {V1 : Nat → Nat → Int64} {mc mm : sh_X} {x : Nat} {e' : sh_gL} {u2 sp2 : Nat} {m m2 : sh_X} (h : se_Rw N K P V C p gs u z q B fr cl sp cw ifs cd kn n un li tp ky bY K1 B1 N1 T1 R1 V1 mc mm x e' u2 sp2 m m2) : sp ≤ sp2 := h.2.2.2.2.2.2.2.2.2.2.2.2.2.2.1
theorem se_Rw.sp3 {N : Nat} {K : Nat → Int32} {P V : Nat → Nat} {C : Nat → Nat → Int32} {p : Nat → Bool} {gs : sh_gL} {u z q B fr cl sp cw ifs cd kn n un li tp ky bY : Nat} {K1 B1 N1 T1 R1 : Nat → Nat} {V1 : Nat → Nat → Int64} {mc mm : sh_X} {x : Nat} {e' : sh_gL} {u2 sp2 : Nat} {m m2 : sh_X} (h : se_Rw N K P V C p gs u z q B fr cl sp cw ifs cd kn n un li tp ky bY K1 B1 N1 T1 R1 V1 mc mm x e' u2 sp2 m m2) : sp2 ≤ 3000 := h.2.2.2.2.2.2.2.2.2.2.2.2.2.2.2.1
theorem se_Rw.g14 {N : Nat} {K : Nat → Int32} {P V : Nat → Nat} {C : Nat → Nat → Int32} {p : Nat → Bool} {gs : sh_gL} {u z q B fr cl sp cw ifs cd kn n un li tp ky bY : Nat} {K1 B1 N1 T1 R1 : Nat → Nat} {V1 : Nat → Nat → Int64} {mc mm : sh_X} {x : Nat} {e' : sh_gL} {u2 sp2 : Nat} {m m2 : sh_X} (h : se_Rw N K P V C p gs u z q B fr cl sp cw ifs cd kn n un li tp ky bY K1 B1 N1 T1 R1 V1 mc mm x e' u2 sp2 m m2) : (e' ++ gs).length + 14 * (3000 - sp2) ≤ gs.length + 14 * (3000 - sp) := h.2.2.2.2.2.2.2.2.2.2.2.2.2.2.2.2.1
theorem se_Rw.u5 {N : Nat} {K : Nat → Int32} {P V : Nat → Nat} {C : Nat → Nat → Int32} {p : Nat → Bool} {gs : sh_gL} {u z q B fr cl sp cw ifs cd kn n un li tp ky bY : Nat} {K1 B1 N1 T1 R1 : Nat → Nat} {V1 : Nat → Nat → Int64} {mc mm : sh_X} {x : Nat} {e' : sh_gL} {u2 sp2 : Nat} {m m2 : sh_X} (h : se_Rw N K P V C p gs u z q B fr cl sp cw ifs cd kn n un li tp ky bY K1 B1 N1 T1 R1 V1 mc mm x e' u2 sp2 m m2) : 4 * u2 + 5 * (3000 - sp2) ≤ 4 * u + 5 * (3000 - sp) := h.2.2.2.2.2.2.2.2.2.2.2.2.2.2.2.2.2
theorem se_Rw.mk {N : Nat} {K : Nat → Int32} {P V : Nat → Nat} {C : Nat → Nat → Int32} {p : Nat → Bool} {gs : sh_gL} {u z q B fr cl sp cw ifs cd kn n un li tp ky bY : Nat} {K1 B1 N1 T1 R1 : Nat → Nat} {V1 : Nat → Nat → Int64} {mc mm : sh_X} {x : Nat} {e' : sh_gL} {u2 sp2 : Nat} {m m2 : sh_X} (hc : se_c N K P V C (e' ++ gs) u2 (z + n) q B fr cl sp2 cw ifs cd kn m) (hF : se_F u z q fr cl mc m) (at_ : m.I 41 13 = mc.I 41 13) (dn : ∀ i, i < x → se_T p m (e' ++ gs) u2 (z + i) (if K1 i = 3 then ky else K1 i) (if K1 i = 3 then bY else B1 i) (N1 i) (V1 i)) (up : ∀ i, x ≤ i → i < n → se_D p m (e' ++ gs) u2 (z + i) (T1 i) (K1 i) (B1 i) (N1 i) (V1 i)) (we : sh_We N K P V m2) (G : se_G tp q un li mm m2) (h42 : m2.I 66 42 = Int32.ofNat sp2) (h41 : m2.I 66 41 = mm.I 66 41) (h73 : m2.I 66 73 = mm.I 66 73) (ld : ∀ i, i < x → m2.I 112 (li + i) = Int32.ofNat (if K1 i = 3 then ky else K1 i) ∧ m2.I 113 (li + i) = Int32.ofNat (if K1 i = 3 then bY else B1 i)) (lu : ∀ i, x ≤ i → i < n → m2.I 112 (li + i) = Int32.ofNat (K1 i) ∧ (K1 i ≠ 3 → m2.I 113 (li + i) = Int32.ofNat (B1 i))) (l4 : ∀ i, i < n → m2.I 114 (li + i) = Int32.ofNat (N1 i) ∧ (N1 i = 0 → m2.J 115 (li + i) = V1 i 0) ∧ m2.I 116 (li + i) = Int32.ofNat (R1 i)) (lus : u ≤ u2) (lsp : sp ≤ sp2) (sp3 : sp2 ≤ 3000) (g14 : (e' ++ gs).length + 14 * (3000 - sp2) ≤ gs.length + 14 * (3000 - sp)) (u5 : 4 * u2 + 5 * (3000 - sp2) ≤ 4 * u + 5 * (3000 - sp)) : se_Rw N K P V C p gs u z q B fr cl sp cw ifs cd kn n un li tp ky bY K1 B1 N1 T1 R1 V1 mc mm x e' u2 sp2 m m2 := ⟨hc, hF, at_, dn, up, we, G, h42, h41, h73, ld, lu, l4, lus, lsp, sp3, g14, u5⟩
section
variable {N : Nat} {K : Nat → Int32} {P V : Nat → Nat} {A C : Nat → Nat → Int32} {p : Nat → Bool} {gs : sh_gL} {u z q B fr cl sp cw ifs cd kn : Nat} {mc mm : sh_X} {n un li tp t0 e ky bY ny : Nat} {K1 B1 N1 T1 R1 : Nat → Nat} {V1 : Nat → Nat → Int64}
/-- the flag that the class keeps -/
def se_gf (K1 B1 N1 : Nat → Nat) (ky bY ny x : Nat) : Prop := ∀ i, i < x → (if K1 i = 3 then ky else K1 i) = ky ∧ (if K1 i = 3 then bY else B1 i) = bY ∧ N1 i = ny
theorem se_r2 (hN : N ≤ 4000) (ty : sh_typ ky bY ny) (hz : z + n ≤ 2048) (hl2 : li + n < 2000) (hT : ∀ x, x < n → T1 x ≤ N) (hR : ∀ x, x < n → R1 x < 9000 ∧ mm.I 73 (R1 x) = Int32.ofNat (T1 x)) (h79 : mm.I 66 79 = Int32.ofNat (li + n)) (hu : 4 * u + 5 * (3000 - sp) ≤ 32000) (y0 : Bool) :
    ∀ (d x : Nat) (g : Bool) (e' : sh_gL) (u2 sp2 : Nat) (m m2 : sh_X), x + d = n → (g = true ↔ y0 = true ∧ se_gf K1 B1 N1 ky bY ny x) → se_Rw N K P V C p gs u z q B fr cl sp cw ifs cd kn n un li tp ky bY K1 B1 N1 T1 R1 V1 mc mm x e' u2 sp2 m m2 →
    se_bad N P mc mm (sf_194_90 (Int32.ofNat t0) (Int32.ofNat n) (Int32.ofNat z) (Int32.ofNat (sh_te ky bY ny)) g (Int32.ofNat (z + x)) m) (sf_312_88 (Int32.ofNat e) (Int32.ofNat li) (Int32.ofNat ky) (Int32.ofNat bY) (Int32.ofNat ny) (Int32.ofNat (li + x)) m2) ∨
    ∃ (g3 : Bool) (e3 : sh_gL) (u3 sp3 : Nat) (m3 m4 : sh_X), sf_194_90 (Int32.ofNat t0) (Int32.ofNat n) (Int32.ofNat z) (Int32.ofNat (sh_te ky bY ny)) g (Int32.ofNat (z + x)) m = sf_194_90 (Int32.ofNat t0) (Int32.ofNat n) (Int32.ofNat z) (Int32.ofNat (sh_te ky bY ny)) g3 (Int32.ofNat (z + n)) m3 ∧ sf_312_88 (Int32.ofNat e) (Int32.ofNat li) (Int32.ofNat ky) (Int32.ofNat bY) (Int32.ofNat ny) (Int32.ofNat (li + x)) m2 = sf_312_88 (Int32.ofNat e) (Int32.ofNat li) (Int32.ofNat ky) (Int32.ofNat bY) (Int32.ofNat ny) (Int32.ofNat (li + n)) m4 ∧ (g3 = true ↔ y0 = true ∧ se_gf K1 B1 N1 ky bY ny n) ∧ se_Rw N K P V C p gs u z q B fr cl sp cw ifs cd kn n un li tp ky bY K1 B1 N1 T1 R1 V1 mc mm n e3 u3 sp3 m3 m4 := by
  intro d
  induction d with
  | zero =>
    intro x g e' u2 sp2 m m2 hx hg R
    have : x = n := by omega
    subst this
    exact Or.inr ⟨g, e', u2, sp2, m, m2, rfl, rfl, hg, R⟩
  | succ d ih =>
    intro x g e' u2 sp2 m m2 hx hg R
    have u5 := R.u5
    have D := R.up x (Nat.le_refl _) (by omega)
    have l2 := R.lu x (Nat.le_refl _) (by omega)
    have l4 := R.l4 x (by omega)
    have ltz : Int32.ofNat (z + x) < Int32.ofNat (z + n) := (sh_nIlt (by omega) (by omega)).mpr (by omega)
    have ltl : Int32.ofNat (li + x) < Int32.ofNat (li + n) := (sh_nIlt (by omega) (by omega)).mpr (by omega)
    have m79 : m2.I 66 79 = Int32.ofNat (li + n) := (R.G.F 79 (by omega)).trans h79
    have o : sh_okb (Int32.ofNat (li + x)) 2000 = true := sh_okn' (by omega) (by omega)
    have gn : ∀ {g' : Bool}, (g' = true ↔ g = true ∧ ((if K1 x = 3 then ky else K1 x) = ky ∧ (if K1 x = 3 then bY else B1 x) = bY ∧ N1 x = ny)) → (g' = true ↔ y0 = true ∧ se_gf K1 B1 N1 ky bY ny (x + 1)) := by
      intro g' hq
      rw [hq, hg]
      constructor
      · rintro ⟨⟨a, b⟩, c⟩
        refine ⟨a, fun i hi => ?_⟩
        by_cases w : i = x
        · rw [w]; exact c
        · exact b i (by omega)
      · rintro ⟨a, b⟩
        exact ⟨⟨a, fun i hi => b i (by omega)⟩, b x (by omega)⟩
    -- the class, behind the settling of the slot
    have cst : ∀ {m' : sh_X} {k b n' : Nat} {v : Nat → Int64} {e2 : sh_gL} {u' sp' : Nat}, sf_107 (Int32.ofNat (z + x)) (Int32.ofNat (sh_te ky bY ny)) m = some (some (), m') → se_c N K P V C e2 u' (z + n) q B fr cl sp' cw ifs cd kn m' → se_T p m' e2 u' (z + x) k b n' v → sf_194_90 (Int32.ofNat t0) (Int32.ofNat n) (Int32.ofNat z) (Int32.ofNat (sh_te ky bY ny)) g (Int32.ofNat (z + x)) m = sf_194_90 (Int32.ofNat t0) (Int32.ofNat n) (Int32.ofNat z) (Int32.ofNat (sh_te ky bY ny)) (g && decide (k = ky ∧ b = bY ∧ n' = ny)) (Int32.ofNat (z + (x + 1))) m' := by
      intro m' k b n' v e2 u' sp' h1 h2 h3
      unfold sf_194_90
      rw [sh_while_eq]
      have e1 : sf_194_90s (Int32.ofNat t0) (Int32.ofNat n) (Int32.ofNat z) (Int32.ofNat (sh_te ky bY ny)) g (Int32.ofNat (z + x)) m = some (.inl ((g && decide (k = ky ∧ b = bY ∧ n' = ny)), Int32.ofNat (z + (x + 1)), m')) := by
        unfold sf_194_90s
        rw [R.hc.cz, if_pos ltz, h1]
        show (if g = true then _ else _) = _
        unfold sf_194_133 sf_194_134
        have tt := sh_te_I h3.1 ty
        cases g with
        | false => rw [if_neg (by decide), sh_nI1]; rfl
        | true =>
          rw [if_pos rfl, (se_slot h2.cz (by omega : z + x < z + n) hz).1, sh_bc_some, h3.2.1, sh_nI1]
          by_cases w : k = ky ∧ b = bY ∧ n' = ny
          · rw [if_pos (tt.mpr w), decide_eq_true w]; rfl
          · rw [if_neg (fun r => w (tt.mp r)), decide_eq_false w]; rfl
      rw [e1]
    rcases D.lo with ⟨k3, n0, hL⟩ | ⟨hk, hT1⟩
    · -- loose
      have wA : sh_Rr m2 (m2.T, m2.I, sh_u2 m2.J 66 46 (m2.J 115 (li + x)), m2.s) := sh_Rr.wj
      have md : sf_312_88s (Int32.ofNat e) (Int32.ofNat li) (Int32.ofNat ky) (Int32.ofNat bY) (Int32.ofNat ny) (Int32.ofNat (li + x)) m2 = sh_bn (sf_299 (Int32.ofNat (R1 x)) (Int32.ofNat ky) (Int32.ofNat bY) (Int32.ofNat ny) (m2.T, m2.I, sh_u2 m2.J 66 46 (m2.J 115 (li + x)), m2.s)) fun r1 m11 => if r1 = true then (if sh_okb (Int32.ofNat (li + x)) 2000 = true then if sh_okb (Int32.ofNat (li + x)) 2000 = true then sf_312_162 (Int32.ofNat e) (Int32.ofNat li) (Int32.ofNat ky) (Int32.ofNat bY) (Int32.ofNat ny) (Int32.ofNat (li + x)) (m11.T, sh_u2 (sh_u2 m11.I 112 (li + x) (Int32.ofNat ky)) 113 (li + x) (Int32.ofNat bY), m11.J, m11.s) else none else none) else some (.inr (false, m11)) := by
        unfold sf_312_88s
        rw [m79, if_pos ltl, if_pos o, sh_nIc (by omega), l2.1, k3, if_pos (by decide), if_pos o, if_pos o, l4.2.2]
      rcases se_set (p := p) hN R.hc (by omega : z + x < z + n) hz hL (hT x (by omega)) ty R.sp3 (by omega) (wA.we R.we) (by exact R.h42) (by rw [se_Js]; exact l4.2.1 n0) (hR x (by omega)).1 (by show m2.I 73 (R1 x) = _; rw [R.G.I 73 (by omega) (by omega)]; exact (hR x (by omega)).2) with bad | ⟨ny0, hx3, e2, u3, mc2, mm2, a1, a2, a3, a4, a5, a6, a7, a8, a9, b1, b2, b3, b4, b5, b6, b7⟩
      · left
        obtain ⟨kk, tt, x', y, r1, r2, r3, r4, r5⟩ := bad
        refine ⟨kk, tt, x', y, r1, ?_, R.hF.thenW r3, ?_, (R.G.U.trans wA.U).trans r5⟩
        · unfold sf_194_90
          rw [sh_while_eq]
          have e1 : sf_194_90s (Int32.ofNat t0) (Int32.ofNat n) (Int32.ofNat z) (Int32.ofNat (sh_te ky bY ny)) g (Int32.ofNat (z + x)) m = some (.inr (none, sh_flt kk (Int32.ofNat (P tt)) x')) := by
            unfold sf_194_90s
            rw [R.hc.cz, if_pos ltz, r2]
            rfl
          rw [e1]
        · unfold sf_312_88
          rw [sh_while_eq]
          have e1 : sf_312_88s (Int32.ofNat e) (Int32.ofNat li) (Int32.ofNat ky) (Int32.ofNat bY) (Int32.ofNat ny) (Int32.ofNat (li + x)) m2 = some (.inr (false, sh_mft kk (Int32.ofNat (P tt)) y)) := by
            rw [md, r4]
            rfl
          rw [e1]
      · subst ny0
        have hl : (e2 ++ (e' ++ gs)).length ≤ (e' ++ gs).length := by rw [List.length_append]; omega
        have Tx : se_T p mc2 (e2 ++ (e' ++ gs)) u3 (z + x) ky bY 0 (V1 x) := by
          obtain ⟨x1, x2, w, x3, x4⟩ := a5
          exact ⟨x1, x2, w, x3, x4.cong (fun i hi => by have e : sh_mx 0 = 1 := rfl; rw [show i = 0 by omega])⟩
        have cs := cst a1 a2 Tx
        have ms : sf_312_88 (Int32.ofNat e) (Int32.ofNat li) (Int32.ofNat ky) (Int32.ofNat bY) (Int32.ofNat 0) (Int32.ofNat (li + x)) m2 = sf_312_88 (Int32.ofNat e) (Int32.ofNat li) (Int32.ofNat ky) (Int32.ofNat bY) (Int32.ofNat 0) (Int32.ofNat (li + (x + 1))) (mm2.T, sh_u2 (sh_u2 mm2.I 112 (li + x) (Int32.ofNat ky)) 113 (li + x) (Int32.ofNat bY), mm2.J, mm2.s) := by
          unfold sf_312_88
          rw [sh_while_eq]
          have e1 : sf_312_88s (Int32.ofNat e) (Int32.ofNat li) (Int32.ofNat ky) (Int32.ofNat bY) (Int32.ofNat 0) (Int32.ofNat (li + x)) m2 = some (.inl (Int32.ofNat (li + (x + 1)), (mm2.T, sh_u2 (sh_u2 mm2.I 112 (li + x) (Int32.ofNat ky)) 113 (li + x) (Int32.ofNat bY), mm2.J, mm2.s))) := by
            rw [md, b1, sh_bn_some, if_pos rfl, if_pos o, if_pos o]
            unfold sf_312_162
            rw [sh_nI1]
            rfl
          rw [e1]
        have rr := wA.trans b2
        have g1 : se_G tp q un li m2 (mm2.T, sh_u2 (sh_u2 mm2.I 112 (li + x) (Int32.ofNat ky)) 113 (li + x) (Int32.ofNat bY), mm2.J, mm2.s) := ((se_G.R rr).trans (se_G.wI (c := 112) (i := li + x) (x := Int32.ofNat ky) (by omega)) (Nat.le_refl _) (Nat.le_refl _) (Nat.le_refl _) (Nat.le_refl _)).trans (se_G.wI (c := 113) (i := li + x) (x := Int32.ofNat bY) (by omega)) (Nat.le_refl _) (Nat.le_refl _) (Nat.le_refl _) (Nat.le_refl _)
        have i12 : ∀ i, sh_X.I (mm2.T, sh_u2 (sh_u2 mm2.I 112 (li + x) (Int32.ofNat ky)) 113 (li + x) (Int32.ofNat bY), mm2.J, mm2.s) 112 i = if i = li + x then Int32.ofNat ky else m2.I 112 i := by
          intro i
          rw [se_Ic (by omega)]
          by_cases w : i = li + x
          · rw [if_pos w, w, sh_u2_same]
          · rw [if_neg w, sh_u2_idx w]; rw [rr.I 112 (by omega)]
        have i13 : ∀ i, sh_X.I (mm2.T, sh_u2 (sh_u2 mm2.I 112 (li + x) (Int32.ofNat ky)) 113 (li + x) (Int32.ofNat bY), mm2.J, mm2.s) 113 i = if i = li + x then Int32.ofNat bY else m2.I 113 i := by
          intro i
          by_cases w : i = li + x
          · rw [if_pos w, w]; exact se_Is
          · rw [if_neg w, se_In (by omega), sh_u2_cell (by omega), rr.I 113 (by omega)]
        have io : ∀ c i, c ≠ 112 → c ≠ 113 → sh_X.I (mm2.T, sh_u2 (sh_u2 mm2.I 112 (li + x) (Int32.ofNat ky)) 113 (li + x) (Int32.ofNat bY), mm2.J, mm2.s) c i = mm2.I c i := by
          intro c i h1 h2
          rw [se_Ic h2, sh_u2_cell h1]
        have nR : se_Rw N K P V C p gs u z q B fr cl sp cw ifs cd kn n un li tp ky bY K1 B1 N1 T1 R1 V1 mc mm (x + 1) (e2 ++ e') u3 (sp2 + bY) mc2 (mm2.T, sh_u2 (sh_u2 mm2.I 112 (li + x) (Int32.ofNat ky)) 113 (li + x) (Int32.ofNat bY), mm2.J, mm2.s) := by
          have lus := R.lus
          have lsp := R.lsp
          have g14 := R.g14
          rw [← List.append_assoc] at a2 Tx hl
          refine se_Rw.mk a2 (R.hF.trans a3 R.lus (by omega) (Nat.le_refl _) (Nat.le_refl _) (Nat.le_refl _)) (a9.trans R.at_) (fun i hi => ?_) (fun i h1 h2 => ?_) (R.we.same (g1.I 71 (by omega) (by omega)) (g1.I 68 (by omega) (by omega)) (g1.I 69 (by omega) (by omega)) (g1.I 70 (by omega) (by omega))) (R.G.trans g1 (Nat.le_refl _) (Nat.le_refl _) (Nat.le_refl _) (Nat.le_refl _)) ((io 66 42 (by omega) (by omega)).trans b6) ?_ ?_ (fun i hi => ?_) (fun i h1 h2 => ?_) (fun i hi => ?_) (by omega) (by omega) hx3 (by omega) (by omega)
          · by_cases w : i = x
            · subst w
              rw [if_pos k3, if_pos k3, n0]
              exact Tx
            · rw [List.append_assoc]
              exact (R.dn i (by omega)).slot (a4 (z + i) (by omega)) a6 a3.po
          · rw [List.append_assoc]
            exact (R.up i (by omega) h2).slot (a4 (z + i) (by omega)) a6 a3.po
          · rw [io 66 41 (by omega) (by omega), rr.F 41 (by omega) (by omega) (by omega) (by omega)]; exact R.h41
          · rw [io 66 73 (by omega) (by omega), rr.F 73 (by omega) (by omega) (by omega) (by omega)]; exact R.h73
          · by_cases w : i = x
            · subst w
              rw [if_pos k3, if_pos k3, i12, if_pos rfl, i13, if_pos rfl]
              exact ⟨rfl, rfl⟩
            · have nx : ¬ li + i = li + x := by omega
              rw [i12, if_neg nx, i13, if_neg nx]
              exact R.ld i (by omega)
          · have nx : ¬ li + i = li + x := by omega
            rw [i12, if_neg nx, i13, if_neg nx]
            exact R.lu i (by omega) h2
          · have q4 := R.l4 i hi
            rw [io 114 _ (by omega) (by omega), io 116 _ (by omega) (by omega), rr.I 114 (by omega), rr.I 116 (by omega)]
            refine ⟨q4.1, fun w => ?_, q4.2.2⟩
            show mm2.J 115 (li + i) = _
            rw [rr.J 115 (by omega)]
            exact q4.2.1 w
        rcases ih (x + 1) _ _ _ _ _ _ (by omega) (gn (g' := g && decide (ky = ky ∧ bY = bY ∧ 0 = 0)) (by
          rw [if_pos k3, if_pos k3, n0, Bool.and_eq_true, decide_eq_true_eq])) nR with bad | ⟨g3, e3, u4, sp4, m3, m4, r1, r2, r3, r4⟩
        · left
          rw [cs, ms]
          exact bad
        · right
          exact ⟨g3, e3, u4, sp4, m3, m4, cs.trans r1, ms.trans r2, r3, r4⟩
    · -- it has a type
      have k3 : ¬ K1 x = 3 := by omega
      have cs := cst (se_107T R.hc (by omega : z + x < z + n) hz (by rw [hT1.2.1]; exact sh_te_0 hT1.1) _) R.hc hT1
      have ms : sf_312_88 (Int32.ofNat e) (Int32.ofNat li) (Int32.ofNat ky) (Int32.ofNat bY) (Int32.ofNat ny) (Int32.ofNat (li + x)) m2 = sf_312_88 (Int32.ofNat e) (Int32.ofNat li) (Int32.ofNat ky) (Int32.ofNat bY) (Int32.ofNat ny) (Int32.ofNat (li + (x + 1))) m2 := by
        unfold sf_312_88
        rw [sh_while_eq]
        have e1 : sf_312_88s (Int32.ofNat e) (Int32.ofNat li) (Int32.ofNat ky) (Int32.ofNat bY) (Int32.ofNat ny) (Int32.ofNat (li + x)) m2 = some (.inl (Int32.ofNat (li + (x + 1)), m2)) := by
          unfold sf_312_88s sf_312_162
          rw [m79, if_pos ltl, if_pos o, sh_nIc (by omega), l2.1, if_neg (show ¬ Int32.ofNat (K1 x) = 3 from fun r => k3 ((sh_kI hk (c := 3) (by omega)).mp r)), sh_nI1]
          rfl
        rw [e1]
      have nR : se_Rw N K P V C p gs u z q B fr cl sp cw ifs cd kn n un li tp ky bY K1 B1 N1 T1 R1 V1 mc mm (x + 1) e' u2 sp2 m m2 := by
        refine se_Rw.mk R.hc R.hF R.at_ (fun i hi => ?_) (fun i h1 h2 => R.up i (by omega) h2) R.we R.G R.h42 R.h41 R.h73 (fun i hi => ?_) (fun i h1 h2 => R.lu i (by omega) h2) R.l4 R.lus R.lsp R.sp3 R.g14 R.u5
        · by_cases w : i = x
          · subst w
            rw [if_neg k3, if_neg k3]
            exact hT1
          · exact R.dn i (by omega)
        · by_cases w : i = x
          · subst w
            rw [if_neg k3, if_neg k3]
            exact ⟨l2.1, l2.2 k3⟩
          · exact R.ld i (by omega)
      rcases ih (x + 1) _ _ _ _ _ _ (by omega) (gn (g' := g && decide (K1 x = ky ∧ B1 x = bY ∧ N1 x = ny)) (by
        rw [if_neg k3, if_neg k3, Bool.and_eq_true, decide_eq_true_eq])) nR with bad | ⟨g3, e3, u4, sp4, m3, m4, r1, r2, r3, r4⟩
      · left
        rw [cs, ms]
        exact bad
      · right
        exact ⟨g3, e3, u4, sp4, m3, m4, cs.trans r1, ms.trans r2, r3, r4⟩
end
