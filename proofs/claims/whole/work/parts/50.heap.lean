/-! ===== the heap of class and reference, as rows ===== -/
abbrev h_C : Type := Nat → Nat → Nat → Int
abbrev h_M : Type := Nat → Nat → Int
def up (r : Nat → Int) (k : Nat) (x : Int) : Nat → Int := fun j => if j = k then x else r j
def sr (c : h_C) (f i : Nat) (r : Nat → Int) : h_C := fun g => if g = f then (fun j => if j = i then r else c f j) else c g
def sm (m : h_M) (f : Nat) (r : Nat → Int) : h_M := fun g => if g = f then r else m g
def wc (c : h_C) (f i k : Nat) (x : Int) : h_C := sr c f i (up (c f i) k x)
def wm (m : h_M) (f k : Nat) (x : Int) : h_M := sm m f (up (m f) k x)
def cp (s : Nat → Int) (sp : Nat) (d : Nat → Int) (dp n : Nat) : Nat → Int := fun j => if dp ≤ j ∧ j < dp + n then s (sp + (j - dp)) else d j
def fl (r : Nat → Int) (n : Nat) (x : Int) : Nat → Int := fun j => if j < n then x else r j
/-- a cell of the class: its row, its place among such cells, its tag, its length -/
def h_W (w o : Nat) : Nat × Nat × Nat × Nat :=
  if 14 ≤ o ∧ o < 214 then
    (if (o - 14) % 5 = 0 then (0, 40 * w + (o - 14) / 5 + 1, 0, 20) else if (o - 14) % 5 = 1 then (2010, 40 * w + (o - 14) / 5 + 1, 100, 3) else if (o - 14) % 5 = 2 then (2011, 40 * w + (o - 14) / 5 + 1, 101, 3) else if (o - 14) % 5 = 3 then (2012, 40 * w + (o - 14) / 5 + 1, 100, 8) else (2013, 40 * w + (o - 14) / 5 + 1, 100, 330))
  else if 214 ≤ o ∧ o < 334 then
    (if (o - 214) % 4 = 0 then (100, 31 * w + (o - 210) / 4, 4, 14) else if (o - 214) % 4 = 1 then (2014, 31 * w + (o - 210) / 4, 100, 16) else if (o - 214) % 4 = 2 then (2015, 31 * w + (o - 210) / 4, 100, 12) else (2016, 31 * w + (o - 210) / 4, 100, 1110))
  else if o = 0 then (200, w, 9, 15) else if o = 1 then (300, w, 7, 10) else if o = 2 then (2001, w, 105, 40) else if o = 3 then (2002, w, 106, 31) else if o = 4 then (2003, w, 100, 12)
  else if o = 5 then (400, 2 * w, 2, 6) else if o = 6 then (2004, 2 * w, 100, 30) else if o = 7 then (2005, 2 * w, 100, 200) else if o = 8 then (2006, 2 * w, 100, 6000)
  else if o = 9 then (400, 2 * w + 1, 2, 6) else if o = 10 then (2004, 2 * w + 1, 100, 30) else if o = 11 then (2005, 2 * w + 1, 100, 150) else if o = 12 then (2006, 2 * w + 1, 100, 4500) else if o = 13 then (2007, w, 100, 480)
  else if o = 334 then (500, w, 6, 9) else if o = 335 then (2020, w, 100, 12) else if o = 336 then (2021, w, 100, 12) else if o = 337 then (2022, w, 100, 48) else if o = 338 then (2023, w, 100, 48) else if o = 339 then (2024, w, 100, 48) else if o = 340 then (2025, w, 100, 48) else if o = 341 then (2026, w, 100, 200)
  else if o = 342 then (2030, w, 103, 16) else if 343 ≤ o ∧ o < 359 then (2031, 16 * w + (o - 343), 100, 4) else if o = 359 then (2032, w, 100, 16) else if o = 360 then (2033, w, 103, 4) else if 361 ≤ o ∧ o < 365 then (2034, 4 * w + (o - 361), 100, 8)
  else if o = 365 then (2035, w, 100, 4) else if o = 366 then (2036, w, 100, 4) else if o = 367 then (2037, w, 100, 60) else (2038, w, 100, 40)
def h_D (a : Nat) : Nat × Nat × Nat × Nat :=
  if 3 ≤ a ∧ a < 1110 then h_W ((a - 3) / 369) ((a - 3) % 369)
  else if a = 1 then (600, 0, 10, 9) else if a = 2 then (2000, 0, 104, 3) else if a = 1110 then (700, 0, 3, 2) else if a = 1111 then (2040, 0, 100, 2001) else if a = 1112 then (800, 0, 8, 5) else if a = 1113 then (900, 0, 5, 5) else if a = 1114 then (2041, 0, 100, 8) else if a = 1115 then (1000, 0, 1, 4)
  else if a = 1116 then (500, 3, 6, 9) else if a = 1117 then (2020, 3, 100, 12) else if a = 1118 then (2021, 3, 100, 12) else if a = 1119 then (2022, 3, 100, 48) else if a = 1120 then (2023, 3, 100, 48) else if a = 1121 then (2024, 3, 100, 48) else if a = 1122 then (2025, 3, 100, 48) else if a = 1123 then (2026, 3, 100, 200) else if a = 1124 then (2042, 0, 100, 200) else (9000, a, 0, 0)
/-- the rows of the reference: field, tag, length -/
def h_ml : List (Nat × Nat × Nat) := [(3, 100, 3), (4, 100, 3), (5, 100, 120), (6, 100, 120), (7, 100, 120), (8, 100, 360), (9, 100, 120), (10, 100, 120), (11, 101, 240), (12, 100, 120), (13, 100, 120), (14, 102, 120), (15, 100, 120), (16, 100, 120), (17, 100, 120), (18, 100, 120), (19, 100, 120), (20, 100, 120), (21, 100, 120), (22, 100, 960), (24, 100, 2001), (25, 100, 2001), (26, 100, 2001), (27, 100, 2001), (28, 100, 2001), (29, 100, 2001), (30, 100, 2001), (31, 100, 2001), (32, 100, 24012), (33, 100, 2001), (34, 100, 32016), (35, 102, 2001), (36, 102, 2001), (37, 100, 2001), (38, 100, 3), (39, 100, 3), (40, 100, 3), (41, 100, 360), (42, 100, 3), (43, 100, 600), (44, 100, 3), (45, 100, 180), (46, 100, 200), (48, 100, 3), (49, 100, 36), (50, 100, 36), (51, 100, 36), (52, 100, 144), (53, 100, 144), (54, 100, 144), (55, 100, 144), (56, 100, 3), (57, 100, 48), (58, 100, 192), (59, 100, 12), (60, 100, 12), (61, 100, 96), (62, 100, 12), (63, 100, 12), (64, 100, 48), (65, 100, 48), (66, 100, 48), (67, 100, 48), (74, 100, 40), (79, 100, 8), (81, 100, 3), (82, 100, 3), (83, 100, 234000), (88, 100, 40)]
def h_mq (a : Nat) : Nat × Nat × Nat := h_ml.getD (a - 1126) (0, 0, 0)
def h_T (a : Nat) : Nat := if a = 0 then 0 else if a ≤ 1124 then (h_D a).2.2.1 else if a = 1125 then 11 else if a ≤ 1194 then (h_mq a).2.1 else 100
def h_L (a : Nat) : Nat := if a = 0 then 0 else if a ≤ 1124 then (h_D a).2.2.2 else if a = 1125 then 90 else if a ≤ 1194 then (h_mq a).2.2 else 8
def h_Z (c : h_C) (m : h_M) (a k : Nat) : Int := if a = 0 then 0 else if a ≤ 1124 then (if (h_D a).2.2.1 < 100 then (if k < 100 then c ((h_D a).1 + k) (h_D a).2.1 0 else 0) else c (h_D a).1 (h_D a).2.1 k) else if a = 1125 then (if k < 100 then m (100 + k) 0 else 0) else if a ≤ 1194 then m (h_mq a).1 k else 0
/-- the references: all but hand (5000), the stepper's (5001, 5002, 5003) and the judge's letters (5004) stay as they are made -/
def h_mr (k : Nat) : Nat := if k = 3 then 1126 else if k = 4 then 1127 else if k = 5 then 1128 else if k = 6 then 1129 else if k = 7 then 1130 else if k = 8 then 1131 else if k = 9 then 1132 else if k = 10 then 1133 else if k = 11 then 1134 else if k = 12 then 1135 else if k = 13 then 1136 else if k = 14 then 1137 else if k = 15 then 1138 else if k = 16 then 1139 else if k = 17 then 1140 else if k = 18 then 1141 else if k = 19 then 1142 else if k = 20 then 1143 else if k = 21 then 1144 else if k = 22 then 1145 else if k = 24 then 1146 else if k = 25 then 1147 else if k = 26 then 1148 else if k = 27 then 1149 else if k = 28 then 1150 else if k = 29 then 1151 else if k = 30 then 1152 else if k = 31 then 1153 else if k = 32 then 1154 else if k = 33 then 1155 else if k = 34 then 1156 else if k = 35 then 1157 else if k = 36 then 1158 else if k = 37 then 1159 else if k = 38 then 1160 else if k = 39 then 1161 else if k = 40 then 1162 else if k = 41 then 1163 else if k = 42 then 1164 else if k = 43 then 1165 else if k = 44 then 1166 else if k = 45 then 1167 else if k = 46 then 1168 else if k = 48 then 1169 else if k = 49 then 1170 else if k = 50 then 1171 else if k = 51 then 1172 else if k = 52 then 1173 else if k = 53 then 1174 else if k = 54 then 1175 else if k = 55 then 1176 else if k = 56 then 1177 else if k = 57 then 1178 else if k = 58 then 1179 else if k = 59 then 1180 else if k = 60 then 1181 else if k = 61 then 1182 else if k = 62 then 1183 else if k = 63 then 1184 else if k = 64 then 1185 else if k = 65 then 1186 else if k = 66 then 1187 else if k = 67 then 1188 else if k = 74 then 1189 else if k = 79 then 1190 else if k = 81 then 1191 else if k = 82 then 1192 else if k = 83 then 1193 else if k = 88 then 1194 else 0
def h_r (t a k : Nat) : Nat :=
  if t = 0 then (if k = 4 then a + 1 else if k = 5 then a + 2 else if k = 17 then a + 3 else if k = 18 then a + 4 else 0)
  else if t = 4 then (if k = 10 then a + 1 else if k = 12 then a + 2 else if k = 13 then a + 3 else 0)
  else if t = 2 then (if k = 5 then a + 1 else if k = 2 then a + 2 else if k = 4 then a + 3 else 0)
  else if t = 6 then (if 1 ≤ k ∧ k ≤ 7 then a + k else 0)
  else if t = 7 then (if k = 4 then a + 1 else if k = 5 then a + 2 else if k = 6 then a + 3 else if k = 7 then a + 4 else if k = 8 then a + 8 else if k = 9 then a + 12 else 0)
  else if t = 9 then (if k = 1 then a + 1 else if k = 3 then a + 334 else if k = 4 then a + 342 else if k = 5 then a + 359 else if k = 7 then a + 360 else if k = 8 then a + 365 else if k = 9 then a + 366 else if k = 10 then a + 367 else if k = 14 then a + 368 else 0)
  else if t = 10 then (if k = 0 then 2 else if k = 2 then 1110 else if k = 3 then 1112 else if k = 4 then 1115 else if k = 5 then 1124 else 0)
  else if t = 3 then (if k = 0 then 1111 else 0)
  else if t = 8 then (if k = 0 then 1113 else 0)
  else if t = 5 then (if k = 4 then 1114 else 0)
  else if t = 1 then (if k = 0 then 1116 else 0)
  else if t = 104 then (if k < 3 then 3 + 369 * k else 0)
  else if t = 105 then (if k < 40 then a + 12 + 5 * k else 0)
  else if t = 106 then (if 1 ≤ k ∧ k < 31 then a + 207 + 4 * k else 0)
  else if t = 103 then (if k < h_L a then a + 1 + k else 0)
  else if t = 11 then h_mr k else 0
def h_R1 (a k : Nat) : Nat := if a = 0 then 0 else h_r (h_T a) a k
def h_aW (x : Int) : Nat := if x < 0 then 0 else 3 + 369 * x.toNat
def h_aS (x : Int) : Nat := if x < 0 then 0 else 4 + 369 * x.toNat
def h_R (c : h_C) (a k : Nat) : Nat := if a = 1 ∧ k = 1 then h_aW (c 5000 0 0) else if a = 1112 ∧ k = 1 then (if c 5001 0 0 = 1 then 1110 else 0) else if a = 1112 ∧ k = 2 then h_aW (c 5002 0 0) else if a = 1112 ∧ k = 3 then h_aS (c 5003 0 0) else if a = 1115 ∧ k = 1 then (if c 5004 0 0 = 1 then 1124 else 0) else h_R1 a k
def h_H (c : h_C) (m : h_M) : p_Hp := (1194, 506758, h_T, h_L, h_Z c m, h_R c)
/-- a cell of the class out of its row and place -/
def h_A (f i : Nat) : Nat :=
  if f = 0 then (if i = 0 then 0 else 17 + 369 * ((i - 1) / 40) + 5 * ((i - 1) % 40)) else if f = 2010 then 18 + 369 * ((i - 1) / 40) + 5 * ((i - 1) % 40) else if f = 2011 then 19 + 369 * ((i - 1) / 40) + 5 * ((i - 1) % 40) else if f = 2012 then 20 + 369 * ((i - 1) / 40) + 5 * ((i - 1) % 40) else if f = 2013 then 21 + 369 * ((i - 1) / 40) + 5 * ((i - 1) % 40)
  else if f = 100 then (if i = 0 then 0 else 213 + 369 * (i / 31) + 4 * (i % 31)) else if f = 2014 then 214 + 369 * (i / 31) + 4 * (i % 31) else if f = 2015 then 215 + 369 * (i / 31) + 4 * (i % 31) else if f = 2016 then 216 + 369 * (i / 31) + 4 * (i % 31)
  else if f = 200 then 3 + 369 * i else if f = 300 then 4 + 369 * i else if f = 2001 then 5 + 369 * i else if f = 2002 then 6 + 369 * i else if f = 2003 then 7 + 369 * i
  else if f = 400 then 8 + 369 * (i / 2) + 4 * (i % 2) else if f = 2004 then 9 + 369 * (i / 2) + 4 * (i % 2) else if f = 2005 then 10 + 369 * (i / 2) + 4 * (i % 2) else if f = 2006 then 11 + 369 * (i / 2) + 4 * (i % 2) else if f = 2007 then 16 + 369 * i
  else if f = 500 then (if i = 3 then 1116 else 337 + 369 * i) else if 2020 ≤ f ∧ f ≤ 2026 then (if i = 3 then 1117 + (f - 2020) else 338 + (f - 2020) + 369 * i)
  else if f = 2030 then 345 + 369 * i else if f = 2031 then 346 + 369 * (i / 16) + i % 16 else if f = 2032 then 362 + 369 * i else if f = 2033 then 363 + 369 * i else if f = 2034 then 364 + 369 * (i / 4) + i % 4
  else if f = 2035 then 368 + 369 * i else if f = 2036 then 369 + 369 * i else if f = 2037 then 370 + 369 * i else if f = 2038 then 371 + 369 * i
  else if f = 600 then 1 else if f = 2000 then 2 else if f = 700 then 1110 else if f = 2040 then 1111 else if f = 800 then 1112 else if f = 900 then 1113 else if f = 2041 then 1114 else if f = 1000 then 1115 else if f = 2042 then 1124 else 0
theorem h_inv0 : (List.range 1125).all (fun a => decide (a = 0 ∨ (h_A (h_D a).1 (h_D a).2.1 = a ∧ ((h_D a).2.2.1 < 100 → (h_D a).1 % 100 = 0 ∧ (h_D a).1 < 2000) ∧ (100 ≤ (h_D a).2.2.1 → 2000 ≤ (h_D a).1 ∧ (h_D a).1 < 5000)))) = true := by decide +kernel
theorem h_inv {a : Nat} (h0 : a ≠ 0) (h1 : a ≤ 1124) : h_A (h_D a).1 (h_D a).2.1 = a ∧ ((h_D a).2.2.1 < 100 → (h_D a).1 % 100 = 0 ∧ (h_D a).1 < 2000) ∧ (100 ≤ (h_D a).2.2.1 → 2000 ≤ (h_D a).1 ∧ (h_D a).1 < 5000) := by
  have h := of_decide_eq_true (List.all_eq_true.mp h_inv0 a (List.mem_range.mpr (by omega)))
  exact h.resolve_left h0
theorem up_eq (r : Nat → Int) (k : Nat) (x : Int) : up r k x k = x := if_pos rfl
theorem up_ne {r : Nat → Int} {k j : Nat} {x : Int} (h : j ≠ k) : up r k x j = r j := if_neg h
theorem sr_ff (c : h_C) (f i : Nat) (r : Nat → Int) : sr c f i r f i = r := by unfold sr; rw [if_pos rfl, if_pos rfl]
theorem sr_nf {c : h_C} {f i g : Nat} {r : Nat → Int} (h : g ≠ f) : sr c f i r g = c g := by unfold sr; rw [if_neg h]
theorem sr_ni {c : h_C} {f i j : Nat} {r : Nat → Int} (h : j ≠ i) : sr c f i r f j = c f j := by unfold sr; rw [if_pos rfl, if_neg h]
theorem sr_n {c : h_C} {f i g j : Nat} {r : Nat → Int} (h : ¬ (g = f ∧ j = i)) : sr c f i r g j = c g j := by
  by_cases hg : g = f
  · subst hg; exact sr_ni (fun w => h ⟨rfl, w⟩)
  · rw [sr_nf hg]
theorem sm_f (m : h_M) (f : Nat) (r : Nat → Int) : sm m f r f = r := by unfold sm; rw [if_pos rfl]
theorem sm_n {m : h_M} {f g : Nat} {r : Nat → Int} (h : g ≠ f) : sm m f r g = m g := by unfold sm; rw [if_neg h]
theorem h_Zarr (c : h_C) (m : h_M) {a : Nat} (h0 : a ≠ 0) (h1 : a ≤ 1124) (ht : 100 ≤ (h_D a).2.2.1) (k : Nat) : p_Z (h_H c m) a k = c (h_D a).1 (h_D a).2.1 k := by
  show h_Z c m a k = _
  unfold h_Z
  rw [if_neg h0, if_pos h1, if_neg (by omega)]
theorem h_Zobj (c : h_C) (m : h_M) {a k : Nat} (h0 : a ≠ 0) (h1 : a ≤ 1124) (ht : (h_D a).2.2.1 < 100) (hk : k < 100) : p_Z (h_H c m) a k = c ((h_D a).1 + k) (h_D a).2.1 0 := by
  show h_Z c m a k = _
  unfold h_Z
  rw [if_neg h0, if_pos h1, if_pos ht, if_pos hk]
theorem h_Rsr (c : h_C) {f i : Nat} {r : Nat → Int} (hf : f < 5000) : h_R (sr c f i r) = h_R c := by
  funext a k
  unfold h_R
  rw [sr_nf (g := 5000) (by omega), sr_nf (g := 5001) (by omega), sr_nf (g := 5002) (by omega), sr_nf (g := 5003) (by omega), sr_nf (g := 5004) (by omega)]
theorem h_Zsr (c : h_C) (m : h_M) {a : Nat} (h0 : a ≠ 0) (h1 : a ≤ 1124) (ht : 100 ≤ (h_D a).2.2.1) (r : Nat → Int) (b j : Nat) : h_Z (sr c (h_D a).1 (h_D a).2.1 r) m b j = if b = a then r j else h_Z c m b j := by
  have ia := h_inv h0 h1
  unfold h_Z
  by_cases hb : b = a
  · subst hb
    rw [if_pos rfl, if_neg h0, if_pos h1, if_neg (by omega), sr_ff]
  · rw [if_neg hb]
    by_cases hb0 : b = 0
    · rw [if_pos hb0, if_pos hb0]
    · rw [if_neg hb0, if_neg hb0]
      by_cases hb1 : b ≤ 1124
      · rw [if_pos hb1, if_pos hb1]
        have ib := h_inv hb0 hb1
        by_cases ho : (h_D b).2.2.1 < 100
        · rw [if_pos ho, if_pos ho]
          by_cases hj : j < 100
          · rw [if_pos hj, if_pos hj, sr_nf (by have := (ib.2.1 ho); have := ia.2.2 ht; omega)]
          · rw [if_neg hj, if_neg hj]
        · rw [if_neg ho, if_neg ho, sr_n (fun w => hb (by rw [← ib.1, ← ia.1, w.1, w.2]))]
      · rw [if_neg hb1, if_neg hb1]
theorem h_Zso (c : h_C) (m : h_M) {a k : Nat} (h0 : a ≠ 0) (h1 : a ≤ 1124) (ht : (h_D a).2.2.1 < 100) (hk : k < 100) (r : Nat → Int) (b j : Nat) : h_Z (sr c ((h_D a).1 + k) (h_D a).2.1 r) m b j = if b = a ∧ j = k then r 0 else h_Z c m b j := by
  have ia := h_inv h0 h1
  have ia2 := ia.2.1 ht
  unfold h_Z
  by_cases hb0 : b = 0
  · rw [if_pos hb0, if_neg (fun w => h0 (w.1.symm.trans hb0)), if_pos hb0]
  · rw [if_neg hb0, if_neg hb0]
    by_cases hb1 : b ≤ 1124
    · rw [if_pos hb1, if_pos hb1]
      have ib := h_inv hb0 hb1
      by_cases ho : (h_D b).2.2.1 < 100
      · rw [if_pos ho, if_pos ho]
        have ib2 := ib.2.1 ho
        by_cases hj : j < 100
        · rw [if_pos hj, if_pos hj]
          by_cases hc : b = a ∧ j = k
          · obtain ⟨e1, e2⟩ := hc
            subst e1 e2
            rw [if_pos ⟨rfl, rfl⟩, sr_ff]
          · rw [if_neg hc, sr_n (fun w => hc ?_)]
            have e1 : (h_D b).1 = (h_D a).1 := by omega
            exact ⟨by rw [← ib.1, ← ia.1, e1, w.2], by omega⟩
        · rw [if_neg hj, if_neg (show ¬ (b = a ∧ j = k) from fun w => hj (w.2 ▸ hk)), if_neg hj]
      · rw [if_neg ho, if_neg (show ¬ (b = a ∧ j = k) from fun w => ho (w.1 ▸ ht)), if_neg ho, sr_nf (by have := ib.2.2 (by omega); omega)]
    · rw [if_neg hb1, if_neg (show ¬ (b = a ∧ j = k) from fun w => hb1 (w.1 ▸ h1)), if_neg hb1]
theorem h_Ht (c c' : h_C) (m m' : h_M) (hz : ∀ b j, h_Z c m b j = h_Z c' m' b j) (hr : h_R c = h_R c') : h_H c m = h_H c' m' := by
  have e : h_Z c m = h_Z c' m' := by funext b j; exact hz b j
  unfold h_H
  rw [e, hr]
theorem h_wArr (c : h_C) (m : h_M) {a : Nat} (h0 : a ≠ 0) (h1 : a ≤ 1124) (ht : 100 ≤ (h_D a).2.2.1) (k : Nat) (x : Int) : p_wZ (h_H c m) a k x = h_H (wc c (h_D a).1 (h_D a).2.1 k x) m := by
  have ia := (h_inv h0 h1).2.2 ht
  have e : (fun b j => if b = a ∧ j = k then x else h_Z c m b j) = h_Z (wc c (h_D a).1 (h_D a).2.1 k x) m := by
    funext b j
    unfold wc
    rw [h_Zsr c m h0 h1 ht]
    by_cases hb : b = a
    · subst hb
      rw [if_pos rfl]
      by_cases hj : j = k
      · rw [if_pos ⟨rfl, hj⟩, hj, up_eq]
      · rw [if_neg (fun w => hj w.2), up_ne hj]
        exact h_Zarr c m h0 h1 ht j
    · rw [if_neg hb, if_neg (fun w => hb w.1)]
  have e2 : h_R (wc c (h_D a).1 (h_D a).2.1 k x) = h_R c := h_Rsr c (by omega)
  show (_, _, _, _, (fun b j => if b = a ∧ j = k then x else h_Z c m b j), h_R c) = h_H _ m
  rw [e, ← e2]
  rfl
theorem h_wObj (c : h_C) (m : h_M) {a k : Nat} (h0 : a ≠ 0) (h1 : a ≤ 1124) (ht : (h_D a).2.2.1 < 100) (hk : k < 100) (x : Int) : p_wZ (h_H c m) a k x = h_H (wc c ((h_D a).1 + k) (h_D a).2.1 0 x) m := by
  have ia := (h_inv h0 h1).2.1 ht
  have e : (fun b j => if b = a ∧ j = k then x else h_Z c m b j) = h_Z (wc c ((h_D a).1 + k) (h_D a).2.1 0 x) m := by
    funext b j
    unfold wc
    rw [h_Zso c m h0 h1 ht hk, up_eq]
  have e2 : h_R (wc c ((h_D a).1 + k) (h_D a).2.1 0 x) = h_R c := h_Rsr c (by omega)
  show (_, _, _, _, (fun b j => if b = a ∧ j = k then x else h_Z c m b j), h_R c) = h_H _ m
  rw [e, ← e2]
  rfl
theorem h_cArr (c : h_C) (m : h_M) {a b : Nat} (h0 : a ≠ 0) (h1 : a ≤ 1124) (ht : 100 ≤ (h_D a).2.2.1) (g0 : b ≠ 0) (g1 : b ≤ 1124) (gt : 100 ≤ (h_D b).2.2.1) (sp dp n : Nat) : p_cp (h_H c m) a sp b dp n = h_H (sr c (h_D b).1 (h_D b).2.1 (cp (c (h_D a).1 (h_D a).2.1) sp (c (h_D b).1 (h_D b).2.1) dp n)) m := by
  have ib := (h_inv g0 g1).2.2 gt
  have e : (fun d j => if d = b ∧ dp ≤ j ∧ j < dp + n then h_Z c m a (sp + (j - dp)) else h_Z c m d j) = h_Z (sr c (h_D b).1 (h_D b).2.1 (cp (c (h_D a).1 (h_D a).2.1) sp (c (h_D b).1 (h_D b).2.1) dp n)) m := by
    funext d j
    rw [h_Zsr c m g0 g1 gt]
    by_cases hb : d = b
    · subst hb
      rw [if_pos rfl]
      unfold cp
      by_cases hj : dp ≤ j ∧ j < dp + n
      · rw [if_pos ⟨rfl, hj⟩, if_pos hj]
        exact h_Zarr c m h0 h1 ht _
      · rw [if_neg (fun w => hj w.2), if_neg hj]
        exact h_Zarr c m g0 g1 gt j
    · rw [if_neg hb, if_neg (fun w => hb w.1)]
  have e2 : h_R (sr c (h_D b).1 (h_D b).2.1 (cp (c (h_D a).1 (h_D a).2.1) sp (c (h_D b).1 (h_D b).2.1) dp n)) = h_R c := h_Rsr c (by omega)
  show (_, _, _, _, (fun d j => if d = b ∧ dp ≤ j ∧ j < dp + n then h_Z c m a (sp + (j - dp)) else h_Z c m d j), h_R c) = h_H _ m
  rw [e, ← e2]
  rfl
theorem h_wR5000 (c : h_C) (m : h_M) (w : Nat) : p_wR (h_H c m) 1 1 (h_A 200 w) = h_H (wc c 5000 0 0 (w : Int)) m := by
  have e : (fun b j => if b = 1 ∧ j = 1 then (h_A 200 w) else h_R c b j) = h_R (wc c 5000 0 0 (w : Int)) := by
    funext b j
    by_cases hb : b = 1 ∧ j = 1
    · obtain ⟨e1, e2⟩ := hb
      subst e1 e2
      show (h_A 200 w) = h_aW (wc c 5000 0 0 (w : Int) 5000 0 0)
      unfold wc
      rw [sr_ff, up_eq]; unfold h_aW; rw [if_neg (by omega), Int.toNat_natCast]; rfl
    · rw [if_neg hb]
      unfold h_R wc
      rw [sr_nf (g := 5001) (by decide)]
      rw [sr_nf (g := 5002) (by decide)]
      rw [sr_nf (g := 5003) (by decide)]
      rw [sr_nf (g := 5004) (by decide)]
      simp only [hb, if_false]
  have e2 : h_Z c m = h_Z (wc c 5000 0 0 (w : Int)) m := by
    funext b j
    unfold h_Z wc
    by_cases hb0 : b = 0
    · rw [if_pos hb0, if_pos hb0]
    · rw [if_neg hb0, if_neg hb0]
      by_cases hb1 : b ≤ 1124
      · rw [if_pos hb1, if_pos hb1]
        have ib := h_inv hb0 hb1
        by_cases ho : (h_D b).2.2.1 < 100
        · rw [if_pos ho, if_pos ho]
          by_cases hj : j < 100
          · rw [if_pos hj, if_pos hj, sr_nf (by have := ib.2.1 ho; omega)]
          · rw [if_neg hj, if_neg hj]
        · rw [if_neg ho, if_neg ho, sr_nf (by have := ib.2.2 (by omega); omega)]
      · rw [if_neg hb1, if_neg hb1]
  show (_, _, _, _, h_Z c m, (fun b j => if b = 1 ∧ j = 1 then (h_A 200 w) else h_R c b j)) = h_H _ m
  rw [e, e2]
  rfl
theorem h_wR5001 (c : h_C) (m : h_M) : p_wR (h_H c m) 1112 1 1110 = h_H (wc c 5001 0 0 1) m := by
  have e : (fun b j => if b = 1112 ∧ j = 1 then 1110 else h_R c b j) = h_R (wc c 5001 0 0 1) := by
    funext b j
    by_cases hb : b = 1112 ∧ j = 1
    · obtain ⟨e1, e2⟩ := hb
      subst e1 e2
      show 1110 = (if wc c 5001 0 0 1 5001 0 0 = 1 then 1110 else 0)
      unfold wc
      rw [sr_ff, up_eq]; rfl
    · rw [if_neg hb]
      unfold h_R wc
      rw [sr_nf (g := 5000) (by decide)]
      rw [sr_nf (g := 5002) (by decide)]
      rw [sr_nf (g := 5003) (by decide)]
      rw [sr_nf (g := 5004) (by decide)]
      simp only [hb, if_false]
  have e2 : h_Z c m = h_Z (wc c 5001 0 0 1) m := by
    funext b j
    unfold h_Z wc
    by_cases hb0 : b = 0
    · rw [if_pos hb0, if_pos hb0]
    · rw [if_neg hb0, if_neg hb0]
      by_cases hb1 : b ≤ 1124
      · rw [if_pos hb1, if_pos hb1]
        have ib := h_inv hb0 hb1
        by_cases ho : (h_D b).2.2.1 < 100
        · rw [if_pos ho, if_pos ho]
          by_cases hj : j < 100
          · rw [if_pos hj, if_pos hj, sr_nf (by have := ib.2.1 ho; omega)]
          · rw [if_neg hj, if_neg hj]
        · rw [if_neg ho, if_neg ho, sr_nf (by have := ib.2.2 (by omega); omega)]
      · rw [if_neg hb1, if_neg hb1]
  show (_, _, _, _, h_Z c m, (fun b j => if b = 1112 ∧ j = 1 then 1110 else h_R c b j)) = h_H _ m
  rw [e, e2]
  rfl
theorem h_wR5002 (c : h_C) (m : h_M) (w : Nat) : p_wR (h_H c m) 1112 2 (h_A 200 w) = h_H (wc c 5002 0 0 (w : Int)) m := by
  have e : (fun b j => if b = 1112 ∧ j = 2 then (h_A 200 w) else h_R c b j) = h_R (wc c 5002 0 0 (w : Int)) := by
    funext b j
    by_cases hb : b = 1112 ∧ j = 2
    · obtain ⟨e1, e2⟩ := hb
      subst e1 e2
      show (h_A 200 w) = h_aW (wc c 5002 0 0 (w : Int) 5002 0 0)
      unfold wc
      rw [sr_ff, up_eq]; unfold h_aW; rw [if_neg (by omega), Int.toNat_natCast]; rfl
    · rw [if_neg hb]
      unfold h_R wc
      rw [sr_nf (g := 5000) (by decide)]
      rw [sr_nf (g := 5001) (by decide)]
      rw [sr_nf (g := 5003) (by decide)]
      rw [sr_nf (g := 5004) (by decide)]
      simp only [hb, if_false]
  have e2 : h_Z c m = h_Z (wc c 5002 0 0 (w : Int)) m := by
    funext b j
    unfold h_Z wc
    by_cases hb0 : b = 0
    · rw [if_pos hb0, if_pos hb0]
    · rw [if_neg hb0, if_neg hb0]
      by_cases hb1 : b ≤ 1124
      · rw [if_pos hb1, if_pos hb1]
        have ib := h_inv hb0 hb1
        by_cases ho : (h_D b).2.2.1 < 100
        · rw [if_pos ho, if_pos ho]
          by_cases hj : j < 100
          · rw [if_pos hj, if_pos hj, sr_nf (by have := ib.2.1 ho; omega)]
          · rw [if_neg hj, if_neg hj]
        · rw [if_neg ho, if_neg ho, sr_nf (by have := ib.2.2 (by omega); omega)]
      · rw [if_neg hb1, if_neg hb1]
  show (_, _, _, _, h_Z c m, (fun b j => if b = 1112 ∧ j = 2 then (h_A 200 w) else h_R c b j)) = h_H _ m
  rw [e, e2]
  rfl
theorem h_wR5003 (c : h_C) (m : h_M) (w : Nat) : p_wR (h_H c m) 1112 3 (h_A 300 w) = h_H (wc c 5003 0 0 (w : Int)) m := by
  have e : (fun b j => if b = 1112 ∧ j = 3 then (h_A 300 w) else h_R c b j) = h_R (wc c 5003 0 0 (w : Int)) := by
    funext b j
    by_cases hb : b = 1112 ∧ j = 3
    · obtain ⟨e1, e2⟩ := hb
      subst e1 e2
      show (h_A 300 w) = h_aS (wc c 5003 0 0 (w : Int) 5003 0 0)
      unfold wc
      rw [sr_ff, up_eq]; unfold h_aS; rw [if_neg (by omega), Int.toNat_natCast]; rfl
    · rw [if_neg hb]
      unfold h_R wc
      rw [sr_nf (g := 5000) (by decide)]
      rw [sr_nf (g := 5001) (by decide)]
      rw [sr_nf (g := 5002) (by decide)]
      rw [sr_nf (g := 5004) (by decide)]
      simp only [hb, if_false]
  have e2 : h_Z c m = h_Z (wc c 5003 0 0 (w : Int)) m := by
    funext b j
    unfold h_Z wc
    by_cases hb0 : b = 0
    · rw [if_pos hb0, if_pos hb0]
    · rw [if_neg hb0, if_neg hb0]
      by_cases hb1 : b ≤ 1124
      · rw [if_pos hb1, if_pos hb1]
        have ib := h_inv hb0 hb1
        by_cases ho : (h_D b).2.2.1 < 100
        · rw [if_pos ho, if_pos ho]
          by_cases hj : j < 100
          · rw [if_pos hj, if_pos hj, sr_nf (by have := ib.2.1 ho; omega)]
          · rw [if_neg hj, if_neg hj]
        · rw [if_neg ho, if_neg ho, sr_nf (by have := ib.2.2 (by omega); omega)]
      · rw [if_neg hb1, if_neg hb1]
  show (_, _, _, _, h_Z c m, (fun b j => if b = 1112 ∧ j = 3 then (h_A 300 w) else h_R c b j)) = h_H _ m
  rw [e, e2]
  rfl
theorem h_wR5004 (c : h_C) (m : h_M) : p_wR (h_H c m) 1115 1 1124 = h_H (wc c 5004 0 0 1) m := by
  have e : (fun b j => if b = 1115 ∧ j = 1 then 1124 else h_R c b j) = h_R (wc c 5004 0 0 1) := by
    funext b j
    by_cases hb : b = 1115 ∧ j = 1
    · obtain ⟨e1, e2⟩ := hb
      subst e1 e2
      show 1124 = (if wc c 5004 0 0 1 5004 0 0 = 1 then 1124 else 0)
      unfold wc
      rw [sr_ff, up_eq]; rfl
    · rw [if_neg hb]
      unfold h_R wc
      rw [sr_nf (g := 5000) (by decide)]
      rw [sr_nf (g := 5001) (by decide)]
      rw [sr_nf (g := 5002) (by decide)]
      rw [sr_nf (g := 5003) (by decide)]
      simp only [hb, if_false]
  have e2 : h_Z c m = h_Z (wc c 5004 0 0 1) m := by
    funext b j
    unfold h_Z wc
    by_cases hb0 : b = 0
    · rw [if_pos hb0, if_pos hb0]
    · rw [if_neg hb0, if_neg hb0]
      by_cases hb1 : b ≤ 1124
      · rw [if_pos hb1, if_pos hb1]
        have ib := h_inv hb0 hb1
        by_cases ho : (h_D b).2.2.1 < 100
        · rw [if_pos ho, if_pos ho]
          by_cases hj : j < 100
          · rw [if_pos hj, if_pos hj, sr_nf (by have := ib.2.1 ho; omega)]
          · rw [if_neg hj, if_neg hj]
        · rw [if_neg ho, if_neg ho, sr_nf (by have := ib.2.2 (by omega); omega)]
      · rw [if_neg hb1, if_neg hb1]
  show (_, _, _, _, h_Z c m, (fun b j => if b = 1115 ∧ j = 1 then 1124 else h_R c b j)) = h_H _ m
  rw [e, e2]
  rfl
