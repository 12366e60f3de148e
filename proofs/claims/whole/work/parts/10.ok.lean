/-! THE TABLES ARE AS THE WORDS HAVE THEM, printed by gen11.py -/
theorem sh_memT {w : Cond} {p : Nat} (h : lw_tbl[p]? = some w) (hk : sh_kw w = true) : w ∈ sh_T sh_G0 := List.mem_filter.mpr ⟨List.mem_of_getElem? h, hk⟩
theorem sh_wsT {ws : List Cond} {ps : List Nat} (h : ps.map (fun p => lw_tbl[p]?) = ws.map some) (hk : ws.all sh_kw = true) : ∀ w ∈ ws, w ∈ sh_T sh_G0 := by
  intro w hw
  obtain ⟨i, hi⟩ := List.getElem?_of_mem hw
  have h1 : (ps.map (fun p => lw_tbl[p]?))[i]? = some (some w) := by rw [h, List.getElem?_map, hi]; rfl
  rw [List.getElem?_map] at h1
  cases hp : ps[i]? with
  | none => rw [hp] at h1; cases h1
  | some q =>
    rw [hp] at h1
    exact sh_memT (Option.some.inj h1) (List.all_eq_true.mp hk w hw)
theorem sh_look_mem {α : Type} {t : List (List (Nat × Nat × α))} {o idx : Nat} {v : α} (h : sh_look t o idx = some v) : ∃ p, (idx, p, v) ∈ t.getD o [] := by
  unfold sh_look at h
  cases hf : (t.getD o []).find? (fun e => e.1 == idx) with
  | none => rw [hf] at h; cases h
  | some e =>
    rw [hf] at h
    obtain ⟨i, p, w⟩ := e
    have h1 : i = idx := by simpa using List.find?_some hf
    have h2 : w = v := Option.some.inj h
    subst h1
    subst h2
    exact ⟨p, List.mem_of_find?_eq_some hf⟩
theorem sh_all_at {α : Type} {t : List (List (Nat × Nat × α))} {f : Nat → (Nat × Nat × α) → Bool} (h : ((List.range t.length).all (fun o => (t.getD o []).all (f o))) = true) {o : Nat} {e : Nat × Nat × α} (hm : e ∈ t.getD o []) : o < t.length ∧ f o e = true := by
  have ho : o < t.length := by
    rcases Nat.lt_or_ge o t.length with q | q
    · exact q
    · rw [List.getD_eq_getElem?_getD, List.getElem?_eq_none q] at hm
      cases hm
  exact ⟨ho, List.all_eq_true.mp (List.all_eq_true.mp h o (List.mem_range.mpr ho)) e hm⟩
theorem sh_mT_out {k : Nat} (h : 353 ≤ k) : sh_mT k = sh_mN := by
  unfold sh_mT
  rw [show Nat.ble 353 k = true from Nat.ble_eq_true_of_le h]
  rfl
theorem sh_lT_out {k : Nat} (h : 353 ≤ k) : sh_lT k = [] := by
  unfold sh_lT
  rw [show Nat.ble 353 k = true from Nat.ble_eq_true_of_le h]
  rfl
set_option maxRecDepth 100000 in
theorem sh_own_all : ((List.range 353).all (fun k => decide ((sh_mT k).2.2.2.2.1.2 < 19 ∧ (sh_mT k).2.2.2.2.1.1 = sh_own.getD (sh_mT k).2.2.2.2.1.2 ""))) = true := by decide +kernel
theorem sh_own_k {k : Nat} (h : sh_On sh_G0 k < 19) : sh_O sh_G0 k = sh_own.getD (sh_On sh_G0 k) "" := by
  rcases Nat.lt_or_ge k 353 with q | q
  · have h1 := List.all_eq_true.mp sh_own_all k (List.mem_range.mpr q)
    exact (of_decide_eq_true h1).2
  · have h1 : sh_On sh_G0 k = 99 := by
      show (sh_mT k).2.2.2.2.1.2 = 99
      rw [sh_mT_out q]
      rfl
    omega
set_option maxRecDepth 100000 in
theorem sh_okI0_0 : ∀ k, 0 ≤ k → k < 16 → ((sh_lT k).all (fun e => decide (decode (sh_B sh_G0 k) e.1 = .ok e.2))) = true := by
  intro k h1 h2
  have h3 : k = 0 ∨ k = 1 ∨ k = 2 ∨ k = 3 ∨ k = 4 ∨ k = 5 ∨ k = 6 ∨ k = 7 ∨ k = 8 ∨ k = 9 ∨ k = 10 ∨ k = 11 ∨ k = 12 ∨ k = 13 ∨ k = 14 ∨ k = 15 := by omega
  rcases h3 with rfl | rfl | rfl | rfl | rfl | rfl | rfl | rfl | rfl | rfl | rfl | rfl | rfl | rfl | rfl | rfl
  · exact sh_lj0
  · exact sh_lj1
  · exact sh_lj2
  · exact sh_lj3
  · exact sh_lj4
  · exact sh_lj5
  · exact sh_lj6
  · exact sh_lj7
  · exact sh_lj8
  · exact sh_lj9
  · exact sh_lj10
  · exact sh_lj11
  · exact sh_lj12
  · exact sh_lj13
  · exact sh_lj14
  · exact sh_lj15
set_option maxRecDepth 100000 in
theorem sh_okI0_1 : ∀ k, 16 ≤ k → k < 32 → ((sh_lT k).all (fun e => decide (decode (sh_B sh_G0 k) e.1 = .ok e.2))) = true := by
  intro k h1 h2
  have h3 : k = 16 ∨ k = 17 ∨ k = 18 ∨ k = 19 ∨ k = 20 ∨ k = 21 ∨ k = 22 ∨ k = 23 ∨ k = 24 ∨ k = 25 ∨ k = 26 ∨ k = 27 ∨ k = 28 ∨ k = 29 ∨ k = 30 ∨ k = 31 := by omega
  rcases h3 with rfl | rfl | rfl | rfl | rfl | rfl | rfl | rfl | rfl | rfl | rfl | rfl | rfl | rfl | rfl | rfl
  · exact sh_lj16
  · exact sh_lj17
  · exact sh_lj18
  · exact sh_lj19
  · exact sh_lj20
  · exact sh_lj21
  · exact sh_lj22
  · exact sh_lj23
  · exact sh_lj24
  · exact sh_lj25
  · exact sh_lj26
  · exact sh_lj27
  · exact sh_lj28
  · exact sh_lj29
  · exact sh_lj30
  · exact sh_lj31
set_option maxRecDepth 100000 in
theorem sh_okI0_2 : ∀ k, 32 ≤ k → k < 48 → ((sh_lT k).all (fun e => decide (decode (sh_B sh_G0 k) e.1 = .ok e.2))) = true := by
  intro k h1 h2
  have h3 : k = 32 ∨ k = 33 ∨ k = 34 ∨ k = 35 ∨ k = 36 ∨ k = 37 ∨ k = 38 ∨ k = 39 ∨ k = 40 ∨ k = 41 ∨ k = 42 ∨ k = 43 ∨ k = 44 ∨ k = 45 ∨ k = 46 ∨ k = 47 := by omega
  rcases h3 with rfl | rfl | rfl | rfl | rfl | rfl | rfl | rfl | rfl | rfl | rfl | rfl | rfl | rfl | rfl | rfl
  · exact sh_lj32
  · exact sh_lj33
  · exact sh_lj34
  · exact sh_lj35
  · exact sh_lj36
  · exact sh_lj37
  · exact sh_lj38
  · exact sh_lj39
  · exact sh_lj40
  · exact sh_lj41
  · exact sh_lj42
  · exact sh_lj43
  · exact sh_lj44
  · exact sh_lj45
  · exact sh_lj46
  · exact sh_lj47
set_option maxRecDepth 100000 in
theorem sh_okI0_3 : ∀ k, 48 ≤ k → k < 64 → ((sh_lT k).all (fun e => decide (decode (sh_B sh_G0 k) e.1 = .ok e.2))) = true := by
  intro k h1 h2
  have h3 : k = 48 ∨ k = 49 ∨ k = 50 ∨ k = 51 ∨ k = 52 ∨ k = 53 ∨ k = 54 ∨ k = 55 ∨ k = 56 ∨ k = 57 ∨ k = 58 ∨ k = 59 ∨ k = 60 ∨ k = 61 ∨ k = 62 ∨ k = 63 := by omega
  rcases h3 with rfl | rfl | rfl | rfl | rfl | rfl | rfl | rfl | rfl | rfl | rfl | rfl | rfl | rfl | rfl | rfl
  · exact sh_lj48
  · exact sh_lj49
  · exact sh_lj50
  · exact sh_lj51
  · exact sh_lj52
  · exact sh_lj53
  · exact sh_lj54
  · exact sh_lj55
  · exact sh_lj56
  · exact sh_lj57
  · exact sh_lj58
  · exact sh_lj59
  · exact sh_lj60
  · exact sh_lj61
  · exact sh_lj62
  · exact sh_lj63
set_option maxRecDepth 100000 in
theorem sh_okI0_4 : ∀ k, 64 ≤ k → k < 80 → ((sh_lT k).all (fun e => decide (decode (sh_B sh_G0 k) e.1 = .ok e.2))) = true := by
  intro k h1 h2
  have h3 : k = 64 ∨ k = 65 ∨ k = 66 ∨ k = 67 ∨ k = 68 ∨ k = 69 ∨ k = 70 ∨ k = 71 ∨ k = 72 ∨ k = 73 ∨ k = 74 ∨ k = 75 ∨ k = 76 ∨ k = 77 ∨ k = 78 ∨ k = 79 := by omega
  rcases h3 with rfl | rfl | rfl | rfl | rfl | rfl | rfl | rfl | rfl | rfl | rfl | rfl | rfl | rfl | rfl | rfl
  · exact sh_lj64
  · exact sh_lj65
  · exact sh_lj66
  · exact sh_lj67
  · exact sh_lj68
  · exact sh_lj69
  · exact sh_lj70
  · exact sh_lj71
  · exact sh_lj72
  · exact sh_lj73
  · exact sh_lj74
  · exact sh_lj75
  · exact sh_lj76
  · exact sh_lj77
  · exact sh_lj78
  · exact sh_lj79
set_option maxRecDepth 100000 in
theorem sh_okI0_5 : ∀ k, 80 ≤ k → k < 96 → ((sh_lT k).all (fun e => decide (decode (sh_B sh_G0 k) e.1 = .ok e.2))) = true := by
  intro k h1 h2
  have h3 : k = 80 ∨ k = 81 ∨ k = 82 ∨ k = 83 ∨ k = 84 ∨ k = 85 ∨ k = 86 ∨ k = 87 ∨ k = 88 ∨ k = 89 ∨ k = 90 ∨ k = 91 ∨ k = 92 ∨ k = 93 ∨ k = 94 ∨ k = 95 := by omega
  rcases h3 with rfl | rfl | rfl | rfl | rfl | rfl | rfl | rfl | rfl | rfl | rfl | rfl | rfl | rfl | rfl | rfl
  · exact sh_lj80
  · exact sh_lj81
  · exact sh_lj82
  · exact sh_lj83
  · exact sh_lj84
  · exact sh_lj85
  · exact sh_lj86
  · exact sh_lj87
  · exact sh_lj88
  · exact sh_lj89
  · exact sh_lj90
  · exact sh_lj91
  · exact sh_lj92
  · exact sh_lj93
  · exact sh_lj94
  · exact sh_lj95
set_option maxRecDepth 100000 in
theorem sh_okI0_6 : ∀ k, 96 ≤ k → k < 112 → ((sh_lT k).all (fun e => decide (decode (sh_B sh_G0 k) e.1 = .ok e.2))) = true := by
  intro k h1 h2
  have h3 : k = 96 ∨ k = 97 ∨ k = 98 ∨ k = 99 ∨ k = 100 ∨ k = 101 ∨ k = 102 ∨ k = 103 ∨ k = 104 ∨ k = 105 ∨ k = 106 ∨ k = 107 ∨ k = 108 ∨ k = 109 ∨ k = 110 ∨ k = 111 := by omega
  rcases h3 with rfl | rfl | rfl | rfl | rfl | rfl | rfl | rfl | rfl | rfl | rfl | rfl | rfl | rfl | rfl | rfl
  · exact sh_lj96
  · exact sh_lj97
  · exact sh_lj98
  · exact sh_lj99
  · exact sh_lj100
  · exact sh_lj101
  · exact sh_lj102
  · exact sh_lj103
  · exact sh_lj104
  · exact sh_lj105
  · exact sh_lj106
  · exact sh_lj107
  · exact sh_lj108
  · exact sh_lj109
  · exact sh_lj110
  · exact sh_lj111
set_option maxRecDepth 100000 in
theorem sh_okI0_7 : ∀ k, 112 ≤ k → k < 128 → ((sh_lT k).all (fun e => decide (decode (sh_B sh_G0 k) e.1 = .ok e.2))) = true := by
  intro k h1 h2
  have h3 : k = 112 ∨ k = 113 ∨ k = 114 ∨ k = 115 ∨ k = 116 ∨ k = 117 ∨ k = 118 ∨ k = 119 ∨ k = 120 ∨ k = 121 ∨ k = 122 ∨ k = 123 ∨ k = 124 ∨ k = 125 ∨ k = 126 ∨ k = 127 := by omega
  rcases h3 with rfl | rfl | rfl | rfl | rfl | rfl | rfl | rfl | rfl | rfl | rfl | rfl | rfl | rfl | rfl | rfl
  · exact sh_lj112
  · exact sh_lj113
  · exact sh_lj114
  · exact sh_lj115
  · exact sh_lj116
  · exact sh_lj117
  · exact sh_lj118
  · exact sh_lj119
  · exact sh_lj120
  · exact sh_lj121
  · exact sh_lj122
  · exact sh_lj123
  · exact sh_lj124
  · exact sh_lj125
  · exact sh_lj126
  · exact sh_lj127
set_option maxRecDepth 100000 in
theorem sh_okI0_8 : ∀ k, 128 ≤ k → k < 144 → ((sh_lT k).all (fun e => decide (decode (sh_B sh_G0 k) e.1 = .ok e.2))) = true := by
  intro k h1 h2
  have h3 : k = 128 ∨ k = 129 ∨ k = 130 ∨ k = 131 ∨ k = 132 ∨ k = 133 ∨ k = 134 ∨ k = 135 ∨ k = 136 ∨ k = 137 ∨ k = 138 ∨ k = 139 ∨ k = 140 ∨ k = 141 ∨ k = 142 ∨ k = 143 := by omega
  rcases h3 with rfl | rfl | rfl | rfl | rfl | rfl | rfl | rfl | rfl | rfl | rfl | rfl | rfl | rfl | rfl | rfl
  · exact sh_lj128
  · exact sh_lj129
  · exact sh_lj130
  · exact sh_lj131
  · exact sh_lj132
  · exact sh_lj133
  · exact sh_lj134
  · exact sh_lj135
  · exact sh_lj136
  · exact sh_lj137
  · exact sh_lj138
  · exact sh_lj139
  · exact sh_lj140
  · exact sh_lj141
  · exact sh_lj142
  · exact sh_lj143
set_option maxRecDepth 100000 in
theorem sh_okI0_9 : ∀ k, 144 ≤ k → k < 160 → ((sh_lT k).all (fun e => decide (decode (sh_B sh_G0 k) e.1 = .ok e.2))) = true := by
  intro k h1 h2
  have h3 : k = 144 ∨ k = 145 ∨ k = 146 ∨ k = 147 ∨ k = 148 ∨ k = 149 ∨ k = 150 ∨ k = 151 ∨ k = 152 ∨ k = 153 ∨ k = 154 ∨ k = 155 ∨ k = 156 ∨ k = 157 ∨ k = 158 ∨ k = 159 := by omega
  rcases h3 with rfl | rfl | rfl | rfl | rfl | rfl | rfl | rfl | rfl | rfl | rfl | rfl | rfl | rfl | rfl | rfl
  · exact sh_lj144
  · exact sh_lj145
  · exact sh_lj146
  · exact sh_lj147
  · exact sh_lj148
  · exact sh_lj149
  · exact sh_lj150
  · exact sh_lj151
  · exact sh_lj152
  · exact sh_lj153
  · exact sh_lj154
  · exact sh_lj155
  · exact sh_lj156
  · exact sh_lj157
  · exact sh_lj158
  · exact sh_lj159
set_option maxRecDepth 100000 in
theorem sh_okI0_10 : ∀ k, 160 ≤ k → k < 176 → ((sh_lT k).all (fun e => decide (decode (sh_B sh_G0 k) e.1 = .ok e.2))) = true := by
  intro k h1 h2
  have h3 : k = 160 ∨ k = 161 ∨ k = 162 ∨ k = 163 ∨ k = 164 ∨ k = 165 ∨ k = 166 ∨ k = 167 ∨ k = 168 ∨ k = 169 ∨ k = 170 ∨ k = 171 ∨ k = 172 ∨ k = 173 ∨ k = 174 ∨ k = 175 := by omega
  rcases h3 with rfl | rfl | rfl | rfl | rfl | rfl | rfl | rfl | rfl | rfl | rfl | rfl | rfl | rfl | rfl | rfl
  · exact sh_lj160
  · exact sh_lj161
  · exact sh_lj162
  · exact sh_lj163
  · exact sh_lj164
  · exact sh_lj165
  · exact sh_lj166
  · exact sh_lj167
  · exact sh_lj168
  · exact sh_lj169
  · exact sh_lj170
  · exact sh_lj171
  · exact sh_lj172
  · exact sh_lj173
  · exact sh_lj174
  · exact sh_lj175
set_option maxRecDepth 100000 in
theorem sh_okI0_11 : ∀ k, 176 ≤ k → k < 192 → ((sh_lT k).all (fun e => decide (decode (sh_B sh_G0 k) e.1 = .ok e.2))) = true := by
  intro k h1 h2
  have h3 : k = 176 ∨ k = 177 ∨ k = 178 ∨ k = 179 ∨ k = 180 ∨ k = 181 ∨ k = 182 ∨ k = 183 ∨ k = 184 ∨ k = 185 ∨ k = 186 ∨ k = 187 ∨ k = 188 ∨ k = 189 ∨ k = 190 ∨ k = 191 := by omega
  rcases h3 with rfl | rfl | rfl | rfl | rfl | rfl | rfl | rfl | rfl | rfl | rfl | rfl | rfl | rfl | rfl | rfl
  · exact sh_lj176
  · exact sh_lj177
  · exact sh_lj178
  · exact sh_lj179
  · exact sh_lj180
  · exact sh_lj181
  · exact sh_lj182
  · exact sh_lj183
  · exact sh_lj184
  · exact sh_lj185
  · exact sh_lj186
  · exact sh_lj187
  · exact sh_lj188
  · exact sh_lj189
  · exact sh_lj190
  · exact sh_lj191
set_option maxRecDepth 100000 in
theorem sh_okI0_12 : ∀ k, 192 ≤ k → k < 208 → ((sh_lT k).all (fun e => decide (decode (sh_B sh_G0 k) e.1 = .ok e.2))) = true := by
  intro k h1 h2
  have h3 : k = 192 ∨ k = 193 ∨ k = 194 ∨ k = 195 ∨ k = 196 ∨ k = 197 ∨ k = 198 ∨ k = 199 ∨ k = 200 ∨ k = 201 ∨ k = 202 ∨ k = 203 ∨ k = 204 ∨ k = 205 ∨ k = 206 ∨ k = 207 := by omega
  rcases h3 with rfl | rfl | rfl | rfl | rfl | rfl | rfl | rfl | rfl | rfl | rfl | rfl | rfl | rfl | rfl | rfl
  · exact sh_lj192
  · exact sh_lj193
  · exact sh_lj194
  · exact sh_lj195
  · exact sh_lj196
  · exact sh_lj197
  · exact sh_lj198
  · exact sh_lj199
  · exact sh_lj200
  · exact sh_lj201
  · exact sh_lj202
  · exact sh_lj203
  · exact sh_lj204
  · exact sh_lj205
  · exact sh_lj206
  · exact sh_lj207
set_option maxRecDepth 100000 in
theorem sh_okI0_13 : ∀ k, 208 ≤ k → k < 224 → ((sh_lT k).all (fun e => decide (decode (sh_B sh_G0 k) e.1 = .ok e.2))) = true := by
  intro k h1 h2
  have h3 : k = 208 ∨ k = 209 ∨ k = 210 ∨ k = 211 ∨ k = 212 ∨ k = 213 ∨ k = 214 ∨ k = 215 ∨ k = 216 ∨ k = 217 ∨ k = 218 ∨ k = 219 ∨ k = 220 ∨ k = 221 ∨ k = 222 ∨ k = 223 := by omega
  rcases h3 with rfl | rfl | rfl | rfl | rfl | rfl | rfl | rfl | rfl | rfl | rfl | rfl | rfl | rfl | rfl | rfl
  · exact sh_lj208
  · exact sh_lj209
  · exact sh_lj210
  · exact sh_lj211
  · exact sh_lj212
  · exact sh_lj213
  · exact sh_lj214
  · exact sh_lj215
  · exact sh_lj216
  · exact sh_lj217
  · exact sh_lj218
  · exact sh_lj219
  · exact sh_lj220
  · exact sh_lj221
  · exact sh_lj222
  · exact sh_lj223
set_option maxRecDepth 100000 in
theorem sh_okI0_14 : ∀ k, 224 ≤ k → k < 240 → ((sh_lT k).all (fun e => decide (decode (sh_B sh_G0 k) e.1 = .ok e.2))) = true := by
  intro k h1 h2
  have h3 : k = 224 ∨ k = 225 ∨ k = 226 ∨ k = 227 ∨ k = 228 ∨ k = 229 ∨ k = 230 ∨ k = 231 ∨ k = 232 ∨ k = 233 ∨ k = 234 ∨ k = 235 ∨ k = 236 ∨ k = 237 ∨ k = 238 ∨ k = 239 := by omega
  rcases h3 with rfl | rfl | rfl | rfl | rfl | rfl | rfl | rfl | rfl | rfl | rfl | rfl | rfl | rfl | rfl | rfl
  · exact sh_lj224
  · exact sh_lj225
  · exact sh_lj226
  · exact sh_lj227
  · exact sh_lj228
  · exact sh_lj229
  · exact sh_lj230
  · exact sh_lj231
  · exact sh_lj232
  · exact sh_lj233
  · exact sh_lj234
  · exact sh_lj235
  · exact sh_lj236
  · exact sh_lj237
  · exact sh_lj238
  · exact sh_lj239
set_option maxRecDepth 100000 in
theorem sh_okI0_15 : ∀ k, 240 ≤ k → k < 256 → ((sh_lT k).all (fun e => decide (decode (sh_B sh_G0 k) e.1 = .ok e.2))) = true := by
  intro k h1 h2
  have h3 : k = 240 ∨ k = 241 ∨ k = 242 ∨ k = 243 ∨ k = 244 ∨ k = 245 ∨ k = 246 ∨ k = 247 ∨ k = 248 ∨ k = 249 ∨ k = 250 ∨ k = 251 ∨ k = 252 ∨ k = 253 ∨ k = 254 ∨ k = 255 := by omega
  rcases h3 with rfl | rfl | rfl | rfl | rfl | rfl | rfl | rfl | rfl | rfl | rfl | rfl | rfl | rfl | rfl | rfl
  · exact sh_lj240
  · exact sh_lj241
  · exact sh_lj242
  · exact sh_lj243
  · exact sh_lj244
  · exact sh_lj245
  · exact sh_lj246
  · exact sh_lj247
  · exact sh_lj248
  · exact sh_lj249
  · exact sh_lj250
  · exact sh_lj251
  · exact sh_lj252
  · exact sh_lj253
  · exact sh_lj254
  · exact sh_lj255
set_option maxRecDepth 100000 in
theorem sh_okI0_16 : ∀ k, 256 ≤ k → k < 272 → ((sh_lT k).all (fun e => decide (decode (sh_B sh_G0 k) e.1 = .ok e.2))) = true := by
  intro k h1 h2
  have h3 : k = 256 ∨ k = 257 ∨ k = 258 ∨ k = 259 ∨ k = 260 ∨ k = 261 ∨ k = 262 ∨ k = 263 ∨ k = 264 ∨ k = 265 ∨ k = 266 ∨ k = 267 ∨ k = 268 ∨ k = 269 ∨ k = 270 ∨ k = 271 := by omega
  rcases h3 with rfl | rfl | rfl | rfl | rfl | rfl | rfl | rfl | rfl | rfl | rfl | rfl | rfl | rfl | rfl | rfl
  · exact sh_lj256
  · exact sh_lj257
  · exact sh_lj258
  · exact sh_lj259
  · exact sh_lj260
  · exact sh_lj261
  · exact sh_lj262
  · exact sh_lj263
  · exact sh_lj264
  · exact sh_lj265
  · exact sh_lj266
  · exact sh_lj267
  · exact sh_lj268
  · exact sh_lj269
  · exact sh_lj270
  · exact sh_lj271
set_option maxRecDepth 100000 in
theorem sh_okI0_17 : ∀ k, 272 ≤ k → k < 288 → ((sh_lT k).all (fun e => decide (decode (sh_B sh_G0 k) e.1 = .ok e.2))) = true := by
  intro k h1 h2
  have h3 : k = 272 ∨ k = 273 ∨ k = 274 ∨ k = 275 ∨ k = 276 ∨ k = 277 ∨ k = 278 ∨ k = 279 ∨ k = 280 ∨ k = 281 ∨ k = 282 ∨ k = 283 ∨ k = 284 ∨ k = 285 ∨ k = 286 ∨ k = 287 := by omega
  rcases h3 with rfl | rfl | rfl | rfl | rfl | rfl | rfl | rfl | rfl | rfl | rfl | rfl | rfl | rfl | rfl | rfl
  · exact sh_lj272
  · exact sh_lj273
  · exact sh_lj274
  · exact sh_lj275
  · exact sh_lj276
  · exact sh_lj277
  · exact sh_lj278
  · exact sh_lj279
  · exact sh_lj280
  · exact sh_lj281
  · exact sh_lj282
  · exact sh_lj283
  · exact sh_lj284
  · exact sh_lj285
  · exact sh_lj286
  · exact sh_lj287
set_option maxRecDepth 100000 in
theorem sh_okI0_18 : ∀ k, 288 ≤ k → k < 304 → ((sh_lT k).all (fun e => decide (decode (sh_B sh_G0 k) e.1 = .ok e.2))) = true := by
  intro k h1 h2
  have h3 : k = 288 ∨ k = 289 ∨ k = 290 ∨ k = 291 ∨ k = 292 ∨ k = 293 ∨ k = 294 ∨ k = 295 ∨ k = 296 ∨ k = 297 ∨ k = 298 ∨ k = 299 ∨ k = 300 ∨ k = 301 ∨ k = 302 ∨ k = 303 := by omega
  rcases h3 with rfl | rfl | rfl | rfl | rfl | rfl | rfl | rfl | rfl | rfl | rfl | rfl | rfl | rfl | rfl | rfl
  · exact sh_lj288
  · exact sh_lj289
  · exact sh_lj290
  · exact sh_lj291
  · exact sh_lj292
  · exact sh_lj293
  · exact sh_lj294
  · exact sh_lj295
  · exact sh_lj296
  · exact sh_lj297
  · exact sh_lj298
  · exact sh_lj299
  · exact sh_lj300
  · exact sh_lj301
  · exact sh_lj302
  · exact sh_lj303
set_option maxRecDepth 100000 in
theorem sh_okI0_19 : ∀ k, 304 ≤ k → k < 320 → ((sh_lT k).all (fun e => decide (decode (sh_B sh_G0 k) e.1 = .ok e.2))) = true := by
  intro k h1 h2
  have h3 : k = 304 ∨ k = 305 ∨ k = 306 ∨ k = 307 ∨ k = 308 ∨ k = 309 ∨ k = 310 ∨ k = 311 ∨ k = 312 ∨ k = 313 ∨ k = 314 ∨ k = 315 ∨ k = 316 ∨ k = 317 ∨ k = 318 ∨ k = 319 := by omega
  rcases h3 with rfl | rfl | rfl | rfl | rfl | rfl | rfl | rfl | rfl | rfl | rfl | rfl | rfl | rfl | rfl | rfl
  · exact sh_lj304
  · exact sh_lj305
  · exact sh_lj306
  · exact sh_lj307
  · exact sh_lj308
  · exact sh_lj309
  · exact sh_lj310
  · exact sh_lj311
  · exact sh_lj312
  · exact sh_lj313
  · exact sh_lj314
  · exact sh_lj315
  · exact sh_lj316
  · exact sh_lj317
  · exact sh_lj318
  · exact sh_lj319
set_option maxRecDepth 100000 in
theorem sh_okI0_20 : ∀ k, 320 ≤ k → k < 336 → ((sh_lT k).all (fun e => decide (decode (sh_B sh_G0 k) e.1 = .ok e.2))) = true := by
  intro k h1 h2
  have h3 : k = 320 ∨ k = 321 ∨ k = 322 ∨ k = 323 ∨ k = 324 ∨ k = 325 ∨ k = 326 ∨ k = 327 ∨ k = 328 ∨ k = 329 ∨ k = 330 ∨ k = 331 ∨ k = 332 ∨ k = 333 ∨ k = 334 ∨ k = 335 := by omega
  rcases h3 with rfl | rfl | rfl | rfl | rfl | rfl | rfl | rfl | rfl | rfl | rfl | rfl | rfl | rfl | rfl | rfl
  · exact sh_lj320
  · exact sh_lj321
  · exact sh_lj322
  · exact sh_lj323
  · exact sh_lj324
  · exact sh_lj325
  · exact sh_lj326
  · exact sh_lj327
  · exact sh_lj328
  · exact sh_lj329
  · exact sh_lj330
  · exact sh_lj331
  · exact sh_lj332
  · exact sh_lj333
  · exact sh_lj334
  · exact sh_lj335
set_option maxRecDepth 100000 in
theorem sh_okI0_21 : ∀ k, 336 ≤ k → k < 352 → ((sh_lT k).all (fun e => decide (decode (sh_B sh_G0 k) e.1 = .ok e.2))) = true := by
  intro k h1 h2
  have h3 : k = 336 ∨ k = 337 ∨ k = 338 ∨ k = 339 ∨ k = 340 ∨ k = 341 ∨ k = 342 ∨ k = 343 ∨ k = 344 ∨ k = 345 ∨ k = 346 ∨ k = 347 ∨ k = 348 ∨ k = 349 ∨ k = 350 ∨ k = 351 := by omega
  rcases h3 with rfl | rfl | rfl | rfl | rfl | rfl | rfl | rfl | rfl | rfl | rfl | rfl | rfl | rfl | rfl | rfl
  · exact sh_lj336
  · exact sh_lj337
  · exact sh_lj338
  · exact sh_lj339
  · exact sh_lj340
  · exact sh_lj341
  · exact sh_lj342
  · exact sh_lj343
  · exact sh_lj344
  · exact sh_lj345
  · exact sh_lj346
  · exact sh_lj347
  · exact sh_lj348
  · exact sh_lj349
  · exact sh_lj350
  · exact sh_lj351
set_option maxRecDepth 100000 in
theorem sh_okI0_22 : ∀ k, 352 ≤ k → k < 353 → ((sh_lT k).all (fun e => decide (decode (sh_B sh_G0 k) e.1 = .ok e.2))) = true := by
  intro k h1 h2
  have h3 : k = 352 := by omega
  rcases h3 with rfl
  · exact sh_lj352
theorem sh_okI0 : ∀ k, k < 353 → ((sh_lT k).all (fun e => decide (decode (sh_B sh_G0 k) e.1 = .ok e.2))) = true := by
  intro k hk
  rcases Nat.lt_or_ge k 16 with h | h
  · exact sh_okI0_0 k (by omega) h
  rcases Nat.lt_or_ge k 32 with h | h
  · exact sh_okI0_1 k (by omega) h
  rcases Nat.lt_or_ge k 48 with h | h
  · exact sh_okI0_2 k (by omega) h
  rcases Nat.lt_or_ge k 64 with h | h
  · exact sh_okI0_3 k (by omega) h
  rcases Nat.lt_or_ge k 80 with h | h
  · exact sh_okI0_4 k (by omega) h
  rcases Nat.lt_or_ge k 96 with h | h
  · exact sh_okI0_5 k (by omega) h
  rcases Nat.lt_or_ge k 112 with h | h
  · exact sh_okI0_6 k (by omega) h
  rcases Nat.lt_or_ge k 128 with h | h
  · exact sh_okI0_7 k (by omega) h
  rcases Nat.lt_or_ge k 144 with h | h
  · exact sh_okI0_8 k (by omega) h
  rcases Nat.lt_or_ge k 160 with h | h
  · exact sh_okI0_9 k (by omega) h
  rcases Nat.lt_or_ge k 176 with h | h
  · exact sh_okI0_10 k (by omega) h
  rcases Nat.lt_or_ge k 192 with h | h
  · exact sh_okI0_11 k (by omega) h
  rcases Nat.lt_or_ge k 208 with h | h
  · exact sh_okI0_12 k (by omega) h
  rcases Nat.lt_or_ge k 224 with h | h
  · exact sh_okI0_13 k (by omega) h
  rcases Nat.lt_or_ge k 240 with h | h
  · exact sh_okI0_14 k (by omega) h
  rcases Nat.lt_or_ge k 256 with h | h
  · exact sh_okI0_15 k (by omega) h
  rcases Nat.lt_or_ge k 272 with h | h
  · exact sh_okI0_16 k (by omega) h
  rcases Nat.lt_or_ge k 288 with h | h
  · exact sh_okI0_17 k (by omega) h
  rcases Nat.lt_or_ge k 304 with h | h
  · exact sh_okI0_18 k (by omega) h
  rcases Nat.lt_or_ge k 320 with h | h
  · exact sh_okI0_19 k (by omega) h
  rcases Nat.lt_or_ge k 336 with h | h
  · exact sh_okI0_20 k (by omega) h
  rcases Nat.lt_or_ge k 352 with h | h
  · exact sh_okI0_21 k (by omega) h
  exact sh_okI0_22 k (by omega) (by omega)
theorem sh_okI (k pc : Nat) (i : Instr) (len : Nat) (h : sh_gI sh_G0 k pc = some (i, len)) : decode (sh_B sh_G0 k) pc = .ok (i, len) := by
  have h0 : sh_ins k pc = some (i, len) := h
  unfold sh_ins at h0
  rcases Nat.lt_or_ge k 353 with q | q
  · cases hf : (sh_lT k).find? (fun e => e.1 == pc) with
    | none => rw [hf] at h0; cases h0
    | some e =>
      rw [hf] at h0
      obtain ⟨a, b⟩ := e
      have h1 : a = pc := by simpa using List.find?_some hf
      have h2 : b = (i, len) := Option.some.inj h0
      have h3 := List.all_eq_true.mp (sh_okI0 k q) _ (List.mem_of_find?_eq_some hf)
      have h4 := of_decide_eq_true h3
      subst h1
      subst h2
      exact h4
  · rw [sh_lT_out q] at h0
    cases h0
set_option maxRecDepth 100000 in
theorem sh_kw0 : ([639, 641, 643, 645, 647, 649, 651, 653, 655, 657, 659, 661, 663, 665, 667] : List Nat).map (fun p => lw_tbl[p]?) = (u_ws "SecretHouse" sh_F0 15).map some := by decide +kernel
set_option maxRecDepth 100000 in
theorem sh_kk0 : (u_ws "SecretHouse" sh_F0 15).all sh_kw = true := by decide +kernel
set_option maxRecDepth 100000 in
theorem sh_kn0 : ∀ a, a < 15 → ∀ b, b < 15 → a ≠ b → (sh_F0 a).2.1 ≠ (sh_F0 b).2.1 := by decide +kernel
set_option maxRecDepth 100000 in
theorem sh_kp0 : ∀ j, j < 15 → (parseFieldDescriptor (sh_F0 j).2.2.1).isSome = true := by decide +kernel
set_option maxRecDepth 100000 in
theorem sh_kw1 : ([252, 254, 256, 258, 260, 262, 264, 266, 268, 270, 272] : List Nat).map (fun p => lw_tbl[p]?) = (u_ws "SecretHouse$Words" sh_F1 11).map some := by decide +kernel
set_option maxRecDepth 100000 in
theorem sh_kk1 : (u_ws "SecretHouse$Words" sh_F1 11).all sh_kw = true := by decide +kernel
set_option maxRecDepth 100000 in
theorem sh_kn1 : ∀ a, a < 11 → ∀ b, b < 11 → a ≠ b → (sh_F1 a).2.1 ≠ (sh_F1 b).2.1 := by decide +kernel
set_option maxRecDepth 100000 in
theorem sh_kp1 : ∀ j, j < 11 → (parseFieldDescriptor (sh_F1 j).2.2.1).isSome = true := by decide +kernel
set_option maxRecDepth 100000 in
theorem sh_kw2 : ([292, 294, 296, 298] : List Nat).map (fun p => lw_tbl[p]?) = (u_ws "SecretHouse$Gates" sh_F2 4).map some := by decide +kernel
set_option maxRecDepth 100000 in
theorem sh_kk2 : (u_ws "SecretHouse$Gates" sh_F2 4).all sh_kw = true := by decide +kernel
set_option maxRecDepth 100000 in
theorem sh_kn2 : ∀ a, a < 4 → ∀ b, b < 4 → a ≠ b → (sh_F2 a).2.1 ≠ (sh_F2 b).2.1 := by decide +kernel
set_option maxRecDepth 100000 in
theorem sh_kp2 : ∀ j, j < 4 → (parseFieldDescriptor (sh_F2 j).2.2.1).isSome = true := by decide +kernel
set_option maxRecDepth 100000 in
theorem sh_kw3 : ([320, 322, 324, 326, 328, 330] : List Nat).map (fun p => lw_tbl[p]?) = (u_ws "SecretHouse$Elements" sh_F3 6).map some := by decide +kernel
set_option maxRecDepth 100000 in
theorem sh_kk3 : (u_ws "SecretHouse$Elements" sh_F3 6).all sh_kw = true := by decide +kernel
set_option maxRecDepth 100000 in
theorem sh_kn3 : ∀ a, a < 6 → ∀ b, b < 6 → a ≠ b → (sh_F3 a).2.1 ≠ (sh_F3 b).2.1 := by decide +kernel
set_option maxRecDepth 100000 in
theorem sh_kp3 : ∀ j, j < 6 → (parseFieldDescriptor (sh_F3 j).2.2.1).isSome = true := by decide +kernel
set_option maxRecDepth 100000 in
theorem sh_kw4 : ([369, 371, 373, 375, 377, 379, 381, 383, 385, 387, 389, 391, 393] : List Nat).map (fun p => lw_tbl[p]?) = (u_ws "SecretHouse$Code" sh_F4 13).map some := by decide +kernel
set_option maxRecDepth 100000 in
theorem sh_kk4 : (u_ws "SecretHouse$Code" sh_F4 13).all sh_kw = true := by decide +kernel
set_option maxRecDepth 100000 in
theorem sh_kn4 : ∀ a, a < 13 → ∀ b, b < 13 → a ≠ b → (sh_F4 a).2.1 ≠ (sh_F4 b).2.1 := by decide +kernel
set_option maxRecDepth 100000 in
theorem sh_kp4 : ∀ j, j < 13 → (parseFieldDescriptor (sh_F4 j).2.2.1).isSome = true := by decide +kernel
set_option maxRecDepth 100000 in
theorem sh_kw5 : ([407, 409, 411, 413, 415] : List Nat).map (fun p => lw_tbl[p]?) = (u_ws "SecretHouse$Parser" sh_F5 5).map some := by decide +kernel
set_option maxRecDepth 100000 in
theorem sh_kk5 : (u_ws "SecretHouse$Parser" sh_F5 5).all sh_kw = true := by decide +kernel
set_option maxRecDepth 100000 in
theorem sh_kn5 : ∀ a, a < 5 → ∀ b, b < 5 → a ≠ b → (sh_F5 a).2.1 ≠ (sh_F5 b).2.1 := by decide +kernel
set_option maxRecDepth 100000 in
theorem sh_kp5 : ∀ j, j < 5 → (parseFieldDescriptor (sh_F5 j).2.2.1).isSome = true := by decide +kernel
set_option maxRecDepth 100000 in
theorem sh_kw6 : ([515, 517, 519, 521, 523, 525, 527, 529, 531, 533, 535, 537, 539, 541, 543, 545, 547, 549, 551] : List Nat).map (fun p => lw_tbl[p]?) = (u_ws "SecretHouse$Doer" sh_F6 19).map some := by decide +kernel
set_option maxRecDepth 100000 in
theorem sh_kk6 : (u_ws "SecretHouse$Doer" sh_F6 19).all sh_kw = true := by decide +kernel
set_option maxRecDepth 100000 in
theorem sh_kn6 : ∀ a, a < 19 → ∀ b, b < 19 → a ≠ b → (sh_F6 a).2.1 ≠ (sh_F6 b).2.1 := by decide +kernel
set_option maxRecDepth 100000 in
theorem sh_kp6 : ∀ j, j < 19 → (parseFieldDescriptor (sh_F6 j).2.2.1).isSome = true := by decide +kernel
set_option maxRecDepth 100000 in
theorem sh_kw7 : ([435, 437, 439, 441, 443] : List Nat).map (fun p => lw_tbl[p]?) = (u_ws "SecretHouse$Reckoner" sh_F7 5).map some := by decide +kernel
set_option maxRecDepth 100000 in
theorem sh_kk7 : (u_ws "SecretHouse$Reckoner" sh_F7 5).all sh_kw = true := by decide +kernel
set_option maxRecDepth 100000 in
theorem sh_kn7 : ∀ a, a < 5 → ∀ b, b < 5 → a ≠ b → (sh_F7 a).2.1 ≠ (sh_F7 b).2.1 := by decide +kernel
set_option maxRecDepth 100000 in
theorem sh_kp7 : ∀ j, j < 5 → (parseFieldDescriptor (sh_F7 j).2.2.1).isSome = true := by decide +kernel
set_option maxRecDepth 100000 in
theorem sh_kw8 : ([458, 460, 462, 464, 466] : List Nat).map (fun p => lw_tbl[p]?) = (u_ws "SecretHouse$Values" sh_F8 5).map some := by decide +kernel
set_option maxRecDepth 100000 in
theorem sh_kk8 : (u_ws "SecretHouse$Values" sh_F8 5).all sh_kw = true := by decide +kernel
set_option maxRecDepth 100000 in
theorem sh_kn8 : ∀ a, a < 5 → ∀ b, b < 5 → a ≠ b → (sh_F8 a).2.1 ≠ (sh_F8 b).2.1 := by decide +kernel
set_option maxRecDepth 100000 in
theorem sh_kp8 : ∀ j, j < 5 → (parseFieldDescriptor (sh_F8 j).2.2.1).isSome = true := by decide +kernel
set_option maxRecDepth 100000 in
theorem sh_kw9 : ([483, 485, 487, 489, 491, 493] : List Nat).map (fun p => lw_tbl[p]?) = (u_ws "SecretHouse$Names" sh_F9 6).map some := by decide +kernel
set_option maxRecDepth 100000 in
theorem sh_kk9 : (u_ws "SecretHouse$Names" sh_F9 6).all sh_kw = true := by decide +kernel
set_option maxRecDepth 100000 in
theorem sh_kn9 : ∀ a, a < 6 → ∀ b, b < 6 → a ≠ b → (sh_F9 a).2.1 ≠ (sh_F9 b).2.1 := by decide +kernel
set_option maxRecDepth 100000 in
theorem sh_kp9 : ∀ j, j < 6 → (parseFieldDescriptor (sh_F9 j).2.2.1).isSome = true := by decide +kernel
set_option maxRecDepth 100000 in
theorem sh_kw10 : ([573, 575, 577, 579, 581, 583, 585, 587, 589, 591, 593, 595] : List Nat).map (fun p => lw_tbl[p]?) = (u_ws "SecretHouse$CircuitReader" sh_F10 12).map some := by decide +kernel
set_option maxRecDepth 100000 in
theorem sh_kk10 : (u_ws "SecretHouse$CircuitReader" sh_F10 12).all sh_kw = true := by decide +kernel
set_option maxRecDepth 100000 in
theorem sh_kn10 : ∀ a, a < 12 → ∀ b, b < 12 → a ≠ b → (sh_F10 a).2.1 ≠ (sh_F10 b).2.1 := by decide +kernel
set_option maxRecDepth 100000 in
theorem sh_kp10 : ∀ j, j < 12 → (parseFieldDescriptor (sh_F10 j).2.2.1).isSome = true := by decide +kernel
set_option maxRecDepth 100000 in
theorem sh_kw11 : ([611, 613, 615, 617, 619, 621] : List Nat).map (fun p => lw_tbl[p]?) = (u_ws "SecretHouse$Garbling" sh_F11 6).map some := by decide +kernel
set_option maxRecDepth 100000 in
theorem sh_kk11 : (u_ws "SecretHouse$Garbling" sh_F11 6).all sh_kw = true := by decide +kernel
set_option maxRecDepth 100000 in
theorem sh_kn11 : ∀ a, a < 6 → ∀ b, b < 6 → a ≠ b → (sh_F11 a).2.1 ≠ (sh_F11 b).2.1 := by decide +kernel
set_option maxRecDepth 100000 in
theorem sh_kp11 : ∀ j, j < 6 → (parseFieldDescriptor (sh_F11 j).2.2.1).isSome = true := by decide +kernel
set_option maxRecDepth 100000 in
theorem sh_kw12 : ([1915, 1917, 1919, 1921, 1923, 1925, 1927, 1929, 1931, 1933, 1935, 1937, 1939, 1941, 1943, 1945, 1947, 1949, 1951, 1953, 1955, 1957, 1959, 1961, 1963, 1965, 1967, 1969, 1971, 1973, 1975, 1977, 1979, 1981, 1983, 1985, 1987, 1989, 1991, 1993, 1995, 1997, 1999, 2001, 2003, 2005, 2007, 2009, 2011, 2013, 2015, 2017, 2019, 2021, 2023, 2025, 2027, 2029, 2031, 2033, 2035, 2037, 2039, 2041, 2043, 2045, 2047, 2049, 2051, 2053, 2055, 2057, 2059, 2061, 2063, 2065, 2067, 2069, 2071, 2073, 2075, 2077, 2079, 2081, 2083, 2085, 2087, 2089, 2091, 2093, 2095, 2097, 2099, 2101] : List Nat).map (fun p => lw_tbl[p]?) = (u_ws "SecretHouseModel" sh_F12 94).map some := by decide +kernel
set_option maxRecDepth 100000 in
theorem sh_kk12 : (u_ws "SecretHouseModel" sh_F12 94).all sh_kw = true := by decide +kernel
set_option maxRecDepth 100000 in
theorem sh_kn12 : ∀ a, a < 94 → ∀ b, b < 94 → a ≠ b → (sh_F12 a).2.1 ≠ (sh_F12 b).2.1 := by decide +kernel
set_option maxRecDepth 100000 in
theorem sh_kp12 : ∀ j, j < 94 → (parseFieldDescriptor (sh_F12 j).2.2.1).isSome = true := by decide +kernel
set_option maxRecDepth 100000 in
theorem sh_kw13 : ([] : List Nat).map (fun p => lw_tbl[p]?) = (u_ws "java/lang/IllegalStateException" sh_F13 0).map some := by decide +kernel
set_option maxRecDepth 100000 in
theorem sh_kk13 : (u_ws "java/lang/IllegalStateException" sh_F13 0).all sh_kw = true := by decide +kernel
set_option maxRecDepth 100000 in
theorem sh_kn13 : ∀ a, a < 0 → ∀ b, b < 0 → a ≠ b → (sh_F13 a).2.1 ≠ (sh_F13 b).2.1 := by decide +kernel
set_option maxRecDepth 100000 in
theorem sh_kp13 : ∀ j, j < 0 → (parseFieldDescriptor (sh_F13 j).2.2.1).isSome = true := by decide +kernel
set_option maxRecDepth 100000 in
theorem sh_kw14 : ([] : List Nat).map (fun p => lw_tbl[p]?) = (u_ws "java/util/NoSuchElementException" sh_F14 0).map some := by decide +kernel
set_option maxRecDepth 100000 in
theorem sh_kk14 : (u_ws "java/util/NoSuchElementException" sh_F14 0).all sh_kw = true := by decide +kernel
set_option maxRecDepth 100000 in
theorem sh_kn14 : ∀ a, a < 0 → ∀ b, b < 0 → a ≠ b → (sh_F14 a).2.1 ≠ (sh_F14 b).2.1 := by decide +kernel
set_option maxRecDepth 100000 in
theorem sh_kp14 : ∀ j, j < 0 → (parseFieldDescriptor (sh_F14 j).2.2.1).isSome = true := by decide +kernel
theorem sh_ok1 (ci : Nat) (C : String) (T : u_T) (N : Nat) (h : (sh_cl sh_G0)[ci]? = some (C, T, N)) : (∀ w ∈ u_ws C T N, w ∈ sh_T sh_G0) ∧ (∀ a, a < N → ∀ b, b < N → a ≠ b → (T a).2.1 ≠ (T b).2.1) ∧ (∀ j, j < N → (parseFieldDescriptor (T j).2.2.1).isSome = true) := by
  match ci, h with
  | 0, h => cases h; exact ⟨sh_wsT sh_kw0 sh_kk0, sh_kn0, sh_kp0⟩
  | 1, h => cases h; exact ⟨sh_wsT sh_kw1 sh_kk1, sh_kn1, sh_kp1⟩
  | 2, h => cases h; exact ⟨sh_wsT sh_kw2 sh_kk2, sh_kn2, sh_kp2⟩
  | 3, h => cases h; exact ⟨sh_wsT sh_kw3 sh_kk3, sh_kn3, sh_kp3⟩
  | 4, h => cases h; exact ⟨sh_wsT sh_kw4 sh_kk4, sh_kn4, sh_kp4⟩
  | 5, h => cases h; exact ⟨sh_wsT sh_kw5 sh_kk5, sh_kn5, sh_kp5⟩
  | 6, h => cases h; exact ⟨sh_wsT sh_kw6 sh_kk6, sh_kn6, sh_kp6⟩
  | 7, h => cases h; exact ⟨sh_wsT sh_kw7 sh_kk7, sh_kn7, sh_kp7⟩
  | 8, h => cases h; exact ⟨sh_wsT sh_kw8 sh_kk8, sh_kn8, sh_kp8⟩
  | 9, h => cases h; exact ⟨sh_wsT sh_kw9 sh_kk9, sh_kn9, sh_kp9⟩
  | 10, h => cases h; exact ⟨sh_wsT sh_kw10 sh_kk10, sh_kn10, sh_kp10⟩
  | 11, h => cases h; exact ⟨sh_wsT sh_kw11 sh_kk11, sh_kn11, sh_kp11⟩
  | 12, h => cases h; exact ⟨sh_wsT sh_kw12 sh_kk12, sh_kn12, sh_kp12⟩
  | 13, h => cases h; exact ⟨sh_wsT sh_kw13 sh_kk13, sh_kn13, sh_kp13⟩
  | 14, h => cases h; exact ⟨sh_wsT sh_kw14 sh_kk14, sh_kn14, sh_kp14⟩
  | n + 15, h => cases h
def sh_ckF (o : Nat) (e : Nat × Nat × Nat × Nat × FieldType × Bool) : Bool := match sh_cl0[e.2.2.1]? with
  | some q => decide (e.2.2.2.1 < q.2.2) && decide (lw_tbl[e.2.1]? = some (.fieldLink (sh_own.getD o "") e.1 (q.2.1 e.2.2.2.1).1 (q.2.1 e.2.2.2.1).2.1 (q.2.1 e.2.2.2.1).2.2.1)) && decide (parseFieldDescriptor (q.2.1 e.2.2.2.1).2.2.1 = some e.2.2.2.2.1) && decide ((q.2.1 e.2.2.2.1).2.2.2 = e.2.2.2.2.2) && decide ((q.2.1 e.2.2.2.1).1 = q.1)
  | none => false
set_option maxRecDepth 100000 in
theorem sh_ckF_all : ((List.range sh_fT.length).all (fun o => (sh_fT.getD o []).all (sh_ckF o))) = true := by decide +kernel
theorem sh_ok2 (k idx ci f : Nat) (ty : FieldType) (fin : Bool) (h : sh_gF sh_G0 (sh_On sh_G0 k) idx = some (ci, f, ty, fin)) : ∃ (C : String) (T : u_T) (N : Nat), (sh_cl sh_G0)[ci]? = some (C, T, N) ∧ f < N ∧ Cond.fieldLink (sh_O sh_G0 k) idx (T f).1 (T f).2.1 (T f).2.2.1 ∈ sh_T sh_G0 ∧ parseFieldDescriptor (T f).2.2.1 = some ty ∧ (T f).2.2.2 = fin ∧ (T f).1 = C := by
  obtain ⟨p, hm⟩ := sh_look_mem (t := sh_fT) h
  obtain ⟨ho, hc⟩ := sh_all_at sh_ckF_all hm
  rw [sh_own_k ho]
  unfold sh_ckF at hc
  dsimp only at hc
  split at hc
  · rename_i q hq
    obtain ⟨C, T, N⟩ := q
    simp only [Bool.and_eq_true, decide_eq_true_eq] at hc
    obtain ⟨⟨⟨⟨c1, c2⟩, c3⟩, c4⟩, c5⟩ := hc
    exact ⟨C, T, N, hq, c1, sh_memT c2 rfl, c3, c4, c5⟩
  · cases hc
def sh_clP : List (Nat × Nat) := [(226, 199), (234, 200), (279, 201), (302, 202), (334, 203), (397, 204), (419, 205), (425, 206), (447, 207), (470, 208), (555, 209), (599, 210), (1815, 211), (763, 218), (1785, 224)]
def sh_ckN (o : Nat) (e : Nat × Nat × Nat × Nat × List Value) : Bool := match sh_cl0[e.2.2.1]?, sh_clP[e.2.2.1]? with
  | some q, some z => decide (lw_tbl[e.2.1]? = some (.classLink (sh_own.getD o "") e.1 q.1)) && decide (lw_tbl[z.1]? = some (.instantiable q.1 e.2.2.2.1)) && decide (lw_tbl[z.2]? = some (.initialized q.1)) && (List.range q.2.2).all (fun j => decide ((parseFieldDescriptor (q.2.1 j).2.2.1).map defaultValue = some (vp_V e.2.2.2.2 j))) && e.2.2.2.2.all (fun v => match v with | .ref _ => false | _ => true)
  | _, _ => false
set_option maxRecDepth 100000 in
theorem sh_ckN_all : ((List.range sh_nT.length).all (fun o => (sh_nT.getD o []).all (sh_ckN o))) = true := by decide +kernel
theorem sh_ok3 (k idx ci n : Nat) (fs : List Value) (h : sh_gN sh_G0 (sh_On sh_G0 k) idx = some (ci, n, fs)) : ∃ (C : String) (T : u_T) (N : Nat), (sh_cl sh_G0)[ci]? = some (C, T, N) ∧ Cond.classLink (sh_O sh_G0 k) idx C ∈ sh_T sh_G0 ∧ Cond.instantiable C n ∈ sh_T sh_G0 ∧ Cond.initialized C ∈ sh_T sh_G0 ∧ (∀ j, j < N → (parseFieldDescriptor (T j).2.2.1).map defaultValue = some (vp_V fs j)) ∧ (∀ v ∈ fs, ∀ ad : Nat → Nat, sh_v ad v = v) := by
  obtain ⟨p, hm⟩ := sh_look_mem (t := sh_nT) h
  obtain ⟨ho, hc⟩ := sh_all_at sh_ckN_all hm
  rw [sh_own_k ho]
  unfold sh_ckN at hc
  dsimp only at hc
  split at hc
  · rename_i q z hq hz
    obtain ⟨C, T, N⟩ := q
    simp only [Bool.and_eq_true, decide_eq_true_eq] at hc
    obtain ⟨⟨⟨⟨c1, c2⟩, c3⟩, c4⟩, c5⟩ := hc
    refine ⟨C, T, N, hq, sh_memT c1 rfl, sh_memT c2 rfl, sh_memT c3 rfl, fun j hj => ?_, fun v hv ad => ?_⟩
    · exact of_decide_eq_true (List.all_eq_true.mp c4 j (List.mem_range.mpr hj))
    · have h9 := List.all_eq_true.mp c5 v hv
      cases v <;> first | rfl | cases h9
  · cases hc
def sh_ckK (o : Nat) (e : Nat × Nat × Value) : Bool := match e.2.2 with
  | .int x => decide (lw_tbl[e.2.1]? = some (.constant (sh_own.getD o "") e.1 x))
  | .long x => decide (lw_tbl[e.2.1]? = some (.constantLong (sh_own.getD o "") e.1 x))
  | _ => false
set_option maxRecDepth 100000 in
theorem sh_ckK_all : ((List.range sh_kT.length).all (fun o => (sh_kT.getD o []).all (sh_ckK o))) = true := by decide +kernel
theorem sh_ok4 (k idx : Nat) (x : Int32) (h : sh_gK sh_G0 (sh_On sh_G0 k) idx = some (.int x)) : Cond.constant (sh_O sh_G0 k) idx x ∈ sh_T sh_G0 := by
  obtain ⟨p, hm⟩ := sh_look_mem (t := sh_kT) h
  obtain ⟨ho, hc⟩ := sh_all_at sh_ckK_all hm
  rw [sh_own_k ho]
  exact sh_memT (of_decide_eq_true hc) rfl
theorem sh_ok5 (k idx : Nat) (x : Int64) (h : sh_gK sh_G0 (sh_On sh_G0 k) idx = some (.long x)) : Cond.constantLong (sh_O sh_G0 k) idx x ∈ sh_T sh_G0 := by
  obtain ⟨p, hm⟩ := sh_look_mem (t := sh_kT) h
  obtain ⟨ho, hc⟩ := sh_all_at sh_ckK_all hm
  rw [sh_own_k ho]
  exact sh_memT (of_decide_eq_true hc) rfl
def sh_ckT (o : Nat) (e : Nat × Nat × Nat) : Bool := bif e.2.2 == 0 then decide (lw_tbl[e.2.1]? = some (.fieldLink (sh_own.getD o "") e.1 "java/lang/String" "value" "[B")) else decide (lw_tbl[e.2.1]? = some (.fieldLink (sh_own.getD o "") e.1 "java/lang/String" "coder" "B"))
set_option maxRecDepth 100000 in
theorem sh_ckT_all : ((List.range sh_tT.length).all (fun o => (sh_tT.getD o []).all (sh_ckT o))) = true := by decide +kernel
theorem sh_ok8 (k idx f : Nat) (h : sh_gT sh_G0 (sh_On sh_G0 k) idx = some f) : (f = 0 → Cond.fieldLink (sh_O sh_G0 k) idx "java/lang/String" "value" "[B" ∈ sh_T sh_G0) ∧ (f ≠ 0 → Cond.fieldLink (sh_O sh_G0 k) idx "java/lang/String" "coder" "B" ∈ sh_T sh_G0) := by
  obtain ⟨p, hm⟩ := sh_look_mem (t := sh_tT) h
  obtain ⟨ho, hc⟩ := sh_all_at sh_ckT_all hm
  rw [sh_own_k ho]
  unfold sh_ckT at hc
  dsimp only at hc
  refine ⟨fun hf => ?_, fun hf => ?_⟩
  · subst hf
    exact sh_memT (of_decide_eq_true hc) rfl
  · rw [show (f == 0) = false by simp [hf]] at hc
    exact sh_memT (of_decide_eq_true hc) rfl
def sh_ckZ (o : Nat) (e : Nat × Nat × Value) : Bool := match e.2.2 with
  | .int x => decide (x = 1) && decide (lw_tbl[e.2.1]? = some (.fieldLink (sh_own.getD o "") e.1 "java/lang/String" "COMPACT_STRINGS" "Z"))
  | .ref q => decide (q = 3000001) && decide (lw_tbl[e.2.1]? = some (.fieldLink (sh_own.getD o "") e.1 "jdk/internal/util/Preconditions" "SIOOBE_FORMATTER" "Ljava/util/function/BiFunction;"))
  | _ => false
set_option maxRecDepth 100000 in
theorem sh_ckZ_all : ((List.range sh_zT.length).all (fun o => (sh_zT.getD o []).all (sh_ckZ o))) = true := by decide +kernel
theorem sh_ok9 (k idx : Nat) (v : Value) (h : sh_gZ sh_G0 (sh_On sh_G0 k) idx = some v) : (v = .int 1 ∧ Cond.fieldLink (sh_O sh_G0 k) idx "java/lang/String" "COMPACT_STRINGS" "Z" ∈ sh_T sh_G0) ∨ (v = .ref 3000001 ∧ Cond.fieldLink (sh_O sh_G0 k) idx "jdk/internal/util/Preconditions" "SIOOBE_FORMATTER" "Ljava/util/function/BiFunction;" ∈ sh_T sh_G0) := by
  obtain ⟨p, hm⟩ := sh_look_mem (t := sh_zT) h
  obtain ⟨ho, hc⟩ := sh_all_at sh_ckZ_all hm
  rw [sh_own_k ho]
  unfold sh_ckZ at hc
  dsimp only at hc
  split at hc
  · simp only [Bool.and_eq_true, decide_eq_true_eq] at hc
    obtain ⟨rfl, c2⟩ := hc
    exact Or.inl ⟨rfl, sh_memT c2 rfl⟩
  · simp only [Bool.and_eq_true, decide_eq_true_eq] at hc
    obtain ⟨rfl, c2⟩ := hc
    exact Or.inr ⟨rfl, sh_memT c2 rfl⟩
  · cases hc
