/-! ===== a row a field of class and reference ===== -/
def h_d (a f j t n : Nat) : Prop := h_D a = (f, j, t, n) ∧ a ≠ 0 ∧ a ≤ 1124
theorem zO (c : h_C) (m : h_M) {a f j t n : Nat} (d : h_d a f j t n) (ht : t < 100) (k : Nat) (hk : k < 100) : p_Z (h_H c m) a k = c (f + k) j 0 := by
  obtain ⟨e, h0, h1⟩ := d
  have h := h_Zobj c m h0 h1 (by rw [e]; exact ht) hk
  rw [e] at h
  exact h
theorem zA (c : h_C) (m : h_M) {a f j t n : Nat} (d : h_d a f j t n) (ht : 100 ≤ t) (k : Nat) : p_Z (h_H c m) a k = c f j k := by
  obtain ⟨e, h0, h1⟩ := d
  have h := h_Zarr c m h0 h1 (by rw [e]; exact ht) k
  rw [e] at h
  exact h
theorem wO (c : h_C) (m : h_M) {a f j t n : Nat} (d : h_d a f j t n) (ht : t < 100) (k : Nat) (hk : k < 100) (x : Int) : p_wZ (h_H c m) a k x = h_H (wc c (f + k) j 0 x) m := by
  obtain ⟨e, h0, h1⟩ := d
  have h := h_wObj c m h0 h1 (by rw [e]; exact ht) hk x
  rw [e] at h
  exact h
theorem wA (c : h_C) (m : h_M) {a f j t n : Nat} (d : h_d a f j t n) (ht : 100 ≤ t) (k : Nat) (x : Int) : p_wZ (h_H c m) a k x = h_H (wc c f j k x) m := by
  obtain ⟨e, h0, h1⟩ := d
  have h := h_wArr c m h0 h1 (by rw [e]; exact ht) k x
  rw [e] at h
  exact h
theorem cA (c : h_C) (m : h_M) {a f j t n b f' j' t' n' : Nat} (d : h_d a f j t n) (ht : 100 ≤ t) (d' : h_d b f' j' t' n') (ht' : 100 ≤ t') (sp dp k : Nat) : p_cp (h_H c m) a sp b dp k = h_H (sr c f' j' (cp (c f j) sp (c f' j') dp k)) m := by
  obtain ⟨e, h0, h1⟩ := d
  obtain ⟨e', g0, g1⟩ := d'
  have h := h_cArr c m h0 h1 (by rw [e]; exact ht) g0 g1 (by rw [e']; exact ht') sp dp k
  rw [e, e'] at h
  exact h
theorem isD (c : h_C) (m : h_M) {a f j t n : Nat} (d : h_d a f j t n) : p_is (h_H c m) a t := by
  obtain ⟨e, h0, h1⟩ := d
  refine ⟨by omega, by show a ≤ 1194; omega, ?_⟩
  show h_T a = t
  unfold h_T
  rw [if_neg h0, if_pos h1, e]
theorem lenD (c : h_C) (m : h_M) {a f j t n : Nat} (d : h_d a f j t n) : p_L (h_H c m) a = n := by
  obtain ⟨e, h0, h1⟩ := d
  show h_L a = n
  unfold h_L
  rw [if_neg h0, if_pos h1, e]
theorem rD (c : h_C) (m : h_M) {a k b : Nat} (h : a ≠ 1 ∧ a ≠ 1112 ∧ a ≠ 1115 ∧ h_R1 a k = b) : p_R (h_H c m) a k = b := by
  show h_R c a k = b
  unfold h_R
  rw [if_neg (fun w => h.1 w.1), if_neg (fun w => h.2.1 w.1), if_neg (fun w => h.2.1 w.1), if_neg (fun w => h.2.1 w.1), if_neg (fun w => h.2.2.1 w.1)]
  exact h.2.2.2
abbrev vG (j : Nat) : Prop := 1 ≤ j ∧ j ≤ 120
abbrev vP (j : Nat) : Prop := j % 31 ≠ 0 ∧ j < 93
abbrev vW (j : Nat) : Prop := j < 3
abbrev vL (j : Nat) : Prop := j < 6
abbrev vR (j : Nat) : Prop := j < 4
abbrev vQ (j : Nat) : Prop := j < 48
abbrev vU (j : Nat) : Prop := j < 12
theorem d0_0 : (List.range 121).all (fun j => decide (vG j → h_D (h_A 0 j) = (0, j, 0, 20) ∧ h_A 0 j ≠ 0 ∧ h_A 0 j ≤ 1124)) = true := by decide +kernel
theorem d0 {j : Nat} (h : vG j) : h_d (h_A 0 j) 0 j 0 20 := of_decide_eq_true (List.all_eq_true.mp d0_0 j (List.mem_range.mpr (by omega))) h
theorem d2010_0 : (List.range 121).all (fun j => decide (vG j → h_D (h_A 2010 j) = (2010, j, 100, 3) ∧ h_A 2010 j ≠ 0 ∧ h_A 2010 j ≤ 1124)) = true := by decide +kernel
theorem d2010 {j : Nat} (h : vG j) : h_d (h_A 2010 j) 2010 j 100 3 := of_decide_eq_true (List.all_eq_true.mp d2010_0 j (List.mem_range.mpr (by omega))) h
theorem d2011_0 : (List.range 121).all (fun j => decide (vG j → h_D (h_A 2011 j) = (2011, j, 101, 3) ∧ h_A 2011 j ≠ 0 ∧ h_A 2011 j ≤ 1124)) = true := by decide +kernel
theorem d2011 {j : Nat} (h : vG j) : h_d (h_A 2011 j) 2011 j 101 3 := of_decide_eq_true (List.all_eq_true.mp d2011_0 j (List.mem_range.mpr (by omega))) h
theorem d2012_0 : (List.range 121).all (fun j => decide (vG j → h_D (h_A 2012 j) = (2012, j, 100, 8) ∧ h_A 2012 j ≠ 0 ∧ h_A 2012 j ≤ 1124)) = true := by decide +kernel
theorem d2012 {j : Nat} (h : vG j) : h_d (h_A 2012 j) 2012 j 100 8 := of_decide_eq_true (List.all_eq_true.mp d2012_0 j (List.mem_range.mpr (by omega))) h
theorem d2013_0 : (List.range 121).all (fun j => decide (vG j → h_D (h_A 2013 j) = (2013, j, 100, 330) ∧ h_A 2013 j ≠ 0 ∧ h_A 2013 j ≤ 1124)) = true := by decide +kernel
theorem d2013 {j : Nat} (h : vG j) : h_d (h_A 2013 j) 2013 j 100 330 := of_decide_eq_true (List.all_eq_true.mp d2013_0 j (List.mem_range.mpr (by omega))) h
theorem d100_0 : (List.range 93).all (fun j => decide (vP j → h_D (h_A 100 j) = (100, j, 4, 14) ∧ h_A 100 j ≠ 0 ∧ h_A 100 j ≤ 1124)) = true := by decide +kernel
theorem d100 {j : Nat} (h : vP j) : h_d (h_A 100 j) 100 j 4 14 := of_decide_eq_true (List.all_eq_true.mp d100_0 j (List.mem_range.mpr (by omega))) h
theorem d2014_0 : (List.range 93).all (fun j => decide (vP j → h_D (h_A 2014 j) = (2014, j, 100, 16) ∧ h_A 2014 j ≠ 0 ∧ h_A 2014 j ≤ 1124)) = true := by decide +kernel
theorem d2014 {j : Nat} (h : vP j) : h_d (h_A 2014 j) 2014 j 100 16 := of_decide_eq_true (List.all_eq_true.mp d2014_0 j (List.mem_range.mpr (by omega))) h
theorem d2015_0 : (List.range 93).all (fun j => decide (vP j → h_D (h_A 2015 j) = (2015, j, 100, 12) ∧ h_A 2015 j ≠ 0 ∧ h_A 2015 j ≤ 1124)) = true := by decide +kernel
theorem d2015 {j : Nat} (h : vP j) : h_d (h_A 2015 j) 2015 j 100 12 := of_decide_eq_true (List.all_eq_true.mp d2015_0 j (List.mem_range.mpr (by omega))) h
theorem d2016_0 : (List.range 93).all (fun j => decide (vP j → h_D (h_A 2016 j) = (2016, j, 100, 1110) ∧ h_A 2016 j ≠ 0 ∧ h_A 2016 j ≤ 1124)) = true := by decide +kernel
theorem d2016 {j : Nat} (h : vP j) : h_d (h_A 2016 j) 2016 j 100 1110 := of_decide_eq_true (List.all_eq_true.mp d2016_0 j (List.mem_range.mpr (by omega))) h
theorem d200_0 : (List.range 3).all (fun j => decide (vW j → h_D (h_A 200 j) = (200, j, 9, 15) ∧ h_A 200 j ≠ 0 ∧ h_A 200 j ≤ 1124)) = true := by decide +kernel
theorem d200 {j : Nat} (h : vW j) : h_d (h_A 200 j) 200 j 9 15 := of_decide_eq_true (List.all_eq_true.mp d200_0 j (List.mem_range.mpr (by omega))) h
theorem d300_0 : (List.range 3).all (fun j => decide (vW j → h_D (h_A 300 j) = (300, j, 7, 10) ∧ h_A 300 j ≠ 0 ∧ h_A 300 j ≤ 1124)) = true := by decide +kernel
theorem d300 {j : Nat} (h : vW j) : h_d (h_A 300 j) 300 j 7 10 := of_decide_eq_true (List.all_eq_true.mp d300_0 j (List.mem_range.mpr (by omega))) h
theorem d2001_0 : (List.range 3).all (fun j => decide (vW j → h_D (h_A 2001 j) = (2001, j, 105, 40) ∧ h_A 2001 j ≠ 0 ∧ h_A 2001 j ≤ 1124)) = true := by decide +kernel
theorem d2001 {j : Nat} (h : vW j) : h_d (h_A 2001 j) 2001 j 105 40 := of_decide_eq_true (List.all_eq_true.mp d2001_0 j (List.mem_range.mpr (by omega))) h
theorem d2002_0 : (List.range 3).all (fun j => decide (vW j → h_D (h_A 2002 j) = (2002, j, 106, 31) ∧ h_A 2002 j ≠ 0 ∧ h_A 2002 j ≤ 1124)) = true := by decide +kernel
theorem d2002 {j : Nat} (h : vW j) : h_d (h_A 2002 j) 2002 j 106 31 := of_decide_eq_true (List.all_eq_true.mp d2002_0 j (List.mem_range.mpr (by omega))) h
theorem d2003_0 : (List.range 3).all (fun j => decide (vW j → h_D (h_A 2003 j) = (2003, j, 100, 12) ∧ h_A 2003 j ≠ 0 ∧ h_A 2003 j ≤ 1124)) = true := by decide +kernel
theorem d2003 {j : Nat} (h : vW j) : h_d (h_A 2003 j) 2003 j 100 12 := of_decide_eq_true (List.all_eq_true.mp d2003_0 j (List.mem_range.mpr (by omega))) h
theorem d400_0 : (List.range 6).all (fun j => decide (vL j → h_D (h_A 400 j) = (400, j, 2, 6) ∧ h_A 400 j ≠ 0 ∧ h_A 400 j ≤ 1124)) = true := by decide +kernel
theorem d400 {j : Nat} (h : vL j) : h_d (h_A 400 j) 400 j 2 6 := of_decide_eq_true (List.all_eq_true.mp d400_0 j (List.mem_range.mpr (by omega))) h
theorem d2004_0 : (List.range 6).all (fun j => decide (vL j → h_D (h_A 2004 j) = (2004, j, 100, 30) ∧ h_A 2004 j ≠ 0 ∧ h_A 2004 j ≤ 1124)) = true := by decide +kernel
theorem d2004 {j : Nat} (h : vL j) : h_d (h_A 2004 j) 2004 j 100 30 := of_decide_eq_true (List.all_eq_true.mp d2004_0 j (List.mem_range.mpr (by omega))) h
theorem d2007_0 : (List.range 3).all (fun j => decide (vW j → h_D (h_A 2007 j) = (2007, j, 100, 480) ∧ h_A 2007 j ≠ 0 ∧ h_A 2007 j ≤ 1124)) = true := by decide +kernel
theorem d2007 {j : Nat} (h : vW j) : h_d (h_A 2007 j) 2007 j 100 480 := of_decide_eq_true (List.all_eq_true.mp d2007_0 j (List.mem_range.mpr (by omega))) h
theorem d500_0 : (List.range 4).all (fun j => decide (vR j → h_D (h_A 500 j) = (500, j, 6, 9) ∧ h_A 500 j ≠ 0 ∧ h_A 500 j ≤ 1124)) = true := by decide +kernel
theorem d500 {j : Nat} (h : vR j) : h_d (h_A 500 j) 500 j 6 9 := of_decide_eq_true (List.all_eq_true.mp d500_0 j (List.mem_range.mpr (by omega))) h
theorem d2020_0 : (List.range 4).all (fun j => decide (vR j → h_D (h_A 2020 j) = (2020, j, 100, 12) ∧ h_A 2020 j ≠ 0 ∧ h_A 2020 j ≤ 1124)) = true := by decide +kernel
theorem d2020 {j : Nat} (h : vR j) : h_d (h_A 2020 j) 2020 j 100 12 := of_decide_eq_true (List.all_eq_true.mp d2020_0 j (List.mem_range.mpr (by omega))) h
theorem d2021_0 : (List.range 4).all (fun j => decide (vR j → h_D (h_A 2021 j) = (2021, j, 100, 12) ∧ h_A 2021 j ≠ 0 ∧ h_A 2021 j ≤ 1124)) = true := by decide +kernel
theorem d2021 {j : Nat} (h : vR j) : h_d (h_A 2021 j) 2021 j 100 12 := of_decide_eq_true (List.all_eq_true.mp d2021_0 j (List.mem_range.mpr (by omega))) h
theorem d2022_0 : (List.range 4).all (fun j => decide (vR j → h_D (h_A 2022 j) = (2022, j, 100, 48) ∧ h_A 2022 j ≠ 0 ∧ h_A 2022 j ≤ 1124)) = true := by decide +kernel
theorem d2022 {j : Nat} (h : vR j) : h_d (h_A 2022 j) 2022 j 100 48 := of_decide_eq_true (List.all_eq_true.mp d2022_0 j (List.mem_range.mpr (by omega))) h
theorem d2023_0 : (List.range 4).all (fun j => decide (vR j → h_D (h_A 2023 j) = (2023, j, 100, 48) ∧ h_A 2023 j ≠ 0 ∧ h_A 2023 j ≤ 1124)) = true := by decide +kernel
theorem d2023 {j : Nat} (h : vR j) : h_d (h_A 2023 j) 2023 j 100 48 := of_decide_eq_true (List.all_eq_true.mp d2023_0 j (List.mem_range.mpr (by omega))) h
theorem d2024_0 : (List.range 4).all (fun j => decide (vR j → h_D (h_A 2024 j) = (2024, j, 100, 48) ∧ h_A 2024 j ≠ 0 ∧ h_A 2024 j ≤ 1124)) = true := by decide +kernel
theorem d2024 {j : Nat} (h : vR j) : h_d (h_A 2024 j) 2024 j 100 48 := of_decide_eq_true (List.all_eq_true.mp d2024_0 j (List.mem_range.mpr (by omega))) h
theorem d2025_0 : (List.range 4).all (fun j => decide (vR j → h_D (h_A 2025 j) = (2025, j, 100, 48) ∧ h_A 2025 j ≠ 0 ∧ h_A 2025 j ≤ 1124)) = true := by decide +kernel
theorem d2025 {j : Nat} (h : vR j) : h_d (h_A 2025 j) 2025 j 100 48 := of_decide_eq_true (List.all_eq_true.mp d2025_0 j (List.mem_range.mpr (by omega))) h
theorem d2026_0 : (List.range 4).all (fun j => decide (vR j → h_D (h_A 2026 j) = (2026, j, 100, 200) ∧ h_A 2026 j ≠ 0 ∧ h_A 2026 j ≤ 1124)) = true := by decide +kernel
theorem d2026 {j : Nat} (h : vR j) : h_d (h_A 2026 j) 2026 j 100 200 := of_decide_eq_true (List.all_eq_true.mp d2026_0 j (List.mem_range.mpr (by omega))) h
theorem d2030_0 : (List.range 3).all (fun j => decide (vW j → h_D (h_A 2030 j) = (2030, j, 103, 16) ∧ h_A 2030 j ≠ 0 ∧ h_A 2030 j ≤ 1124)) = true := by decide +kernel
theorem d2030 {j : Nat} (h : vW j) : h_d (h_A 2030 j) 2030 j 103 16 := of_decide_eq_true (List.all_eq_true.mp d2030_0 j (List.mem_range.mpr (by omega))) h
theorem d2031_0 : (List.range 48).all (fun j => decide (vQ j → h_D (h_A 2031 j) = (2031, j, 100, 4) ∧ h_A 2031 j ≠ 0 ∧ h_A 2031 j ≤ 1124)) = true := by decide +kernel
theorem d2031 {j : Nat} (h : vQ j) : h_d (h_A 2031 j) 2031 j 100 4 := of_decide_eq_true (List.all_eq_true.mp d2031_0 j (List.mem_range.mpr (by omega))) h
theorem d2032_0 : (List.range 3).all (fun j => decide (vW j → h_D (h_A 2032 j) = (2032, j, 100, 16) ∧ h_A 2032 j ≠ 0 ∧ h_A 2032 j ≤ 1124)) = true := by decide +kernel
theorem d2032 {j : Nat} (h : vW j) : h_d (h_A 2032 j) 2032 j 100 16 := of_decide_eq_true (List.all_eq_true.mp d2032_0 j (List.mem_range.mpr (by omega))) h
theorem d2033_0 : (List.range 3).all (fun j => decide (vW j → h_D (h_A 2033 j) = (2033, j, 103, 4) ∧ h_A 2033 j ≠ 0 ∧ h_A 2033 j ≤ 1124)) = true := by decide +kernel
theorem d2033 {j : Nat} (h : vW j) : h_d (h_A 2033 j) 2033 j 103 4 := of_decide_eq_true (List.all_eq_true.mp d2033_0 j (List.mem_range.mpr (by omega))) h
theorem d2034_0 : (List.range 12).all (fun j => decide (vU j → h_D (h_A 2034 j) = (2034, j, 100, 8) ∧ h_A 2034 j ≠ 0 ∧ h_A 2034 j ≤ 1124)) = true := by decide +kernel
theorem d2034 {j : Nat} (h : vU j) : h_d (h_A 2034 j) 2034 j 100 8 := of_decide_eq_true (List.all_eq_true.mp d2034_0 j (List.mem_range.mpr (by omega))) h
theorem d2035_0 : (List.range 3).all (fun j => decide (vW j → h_D (h_A 2035 j) = (2035, j, 100, 4) ∧ h_A 2035 j ≠ 0 ∧ h_A 2035 j ≤ 1124)) = true := by decide +kernel
theorem d2035 {j : Nat} (h : vW j) : h_d (h_A 2035 j) 2035 j 100 4 := of_decide_eq_true (List.all_eq_true.mp d2035_0 j (List.mem_range.mpr (by omega))) h
theorem d2036_0 : (List.range 3).all (fun j => decide (vW j → h_D (h_A 2036 j) = (2036, j, 100, 4) ∧ h_A 2036 j ≠ 0 ∧ h_A 2036 j ≤ 1124)) = true := by decide +kernel
theorem d2036 {j : Nat} (h : vW j) : h_d (h_A 2036 j) 2036 j 100 4 := of_decide_eq_true (List.all_eq_true.mp d2036_0 j (List.mem_range.mpr (by omega))) h
theorem d2037_0 : (List.range 3).all (fun j => decide (vW j → h_D (h_A 2037 j) = (2037, j, 100, 60) ∧ h_A 2037 j ≠ 0 ∧ h_A 2037 j ≤ 1124)) = true := by decide +kernel
theorem d2037 {j : Nat} (h : vW j) : h_d (h_A 2037 j) 2037 j 100 60 := of_decide_eq_true (List.all_eq_true.mp d2037_0 j (List.mem_range.mpr (by omega))) h
theorem d2038_0 : (List.range 3).all (fun j => decide (vW j → h_D (h_A 2038 j) = (2038, j, 100, 40) ∧ h_A 2038 j ≠ 0 ∧ h_A 2038 j ≤ 1124)) = true := by decide +kernel
theorem d2038 {j : Nat} (h : vW j) : h_d (h_A 2038 j) 2038 j 100 40 := of_decide_eq_true (List.all_eq_true.mp d2038_0 j (List.mem_range.mpr (by omega))) h
theorem d2005_0 : (List.range 6).all (fun j => decide (vL j → h_D (h_A 2005 j) = (2005, j, 100, if j % 2 = 0 then 200 else 150) ∧ h_A 2005 j ≠ 0 ∧ h_A 2005 j ≤ 1124)) = true := by decide +kernel
theorem d2005 {j : Nat} (h : vL j) : h_d (h_A 2005 j) 2005 j 100 (if j % 2 = 0 then 200 else 150) := of_decide_eq_true (List.all_eq_true.mp d2005_0 j (List.mem_range.mpr (by omega))) h
theorem d2006_0 : (List.range 6).all (fun j => decide (vL j → h_D (h_A 2006 j) = (2006, j, 100, if j % 2 = 0 then 6000 else 4500) ∧ h_A 2006 j ≠ 0 ∧ h_A 2006 j ≤ 1124)) = true := by decide +kernel
theorem d2006 {j : Nat} (h : vL j) : h_d (h_A 2006 j) 2006 j 100 (if j % 2 = 0 then 6000 else 4500) := of_decide_eq_true (List.all_eq_true.mp d2006_0 j (List.mem_range.mpr (by omega))) h
theorem d600 : h_d 1 600 0 10 9 := ⟨rfl, by decide, by decide⟩
theorem d2000 : h_d 2 2000 0 104 3 := ⟨rfl, by decide, by decide⟩
theorem d700 : h_d 1110 700 0 3 2 := ⟨rfl, by decide, by decide⟩
theorem d2040 : h_d 1111 2040 0 100 2001 := ⟨rfl, by decide, by decide⟩
theorem d800 : h_d 1112 800 0 8 5 := ⟨rfl, by decide, by decide⟩
theorem d900 : h_d 1113 900 0 5 5 := ⟨rfl, by decide, by decide⟩
theorem d2041 : h_d 1114 2041 0 100 8 := ⟨rfl, by decide, by decide⟩
theorem d1000 : h_d 1115 1000 0 1 4 := ⟨rfl, by decide, by decide⟩
theorem d2042 : h_d 1124 2042 0 100 200 := ⟨rfl, by decide, by decide⟩
theorem rr0_4_0 : (List.range 121).all (fun j => decide (vG j → h_A 0 j ≠ 1 ∧ h_A 0 j ≠ 1112 ∧ h_A 0 j ≠ 1115 ∧ h_R1 (h_A 0 j) 4 = h_A 2010 j)) = true := by decide +kernel
theorem rr0_4 {j : Nat} (h : vG j) : h_A 0 j ≠ 1 ∧ h_A 0 j ≠ 1112 ∧ h_A 0 j ≠ 1115 ∧ h_R1 (h_A 0 j) 4 = h_A 2010 j := of_decide_eq_true (List.all_eq_true.mp rr0_4_0 j (List.mem_range.mpr (by omega))) h
theorem rr0_5_0 : (List.range 121).all (fun j => decide (vG j → h_A 0 j ≠ 1 ∧ h_A 0 j ≠ 1112 ∧ h_A 0 j ≠ 1115 ∧ h_R1 (h_A 0 j) 5 = h_A 2011 j)) = true := by decide +kernel
theorem rr0_5 {j : Nat} (h : vG j) : h_A 0 j ≠ 1 ∧ h_A 0 j ≠ 1112 ∧ h_A 0 j ≠ 1115 ∧ h_R1 (h_A 0 j) 5 = h_A 2011 j := of_decide_eq_true (List.all_eq_true.mp rr0_5_0 j (List.mem_range.mpr (by omega))) h
theorem rr0_17_0 : (List.range 121).all (fun j => decide (vG j → h_A 0 j ≠ 1 ∧ h_A 0 j ≠ 1112 ∧ h_A 0 j ≠ 1115 ∧ h_R1 (h_A 0 j) 17 = h_A 2012 j)) = true := by decide +kernel
theorem rr0_17 {j : Nat} (h : vG j) : h_A 0 j ≠ 1 ∧ h_A 0 j ≠ 1112 ∧ h_A 0 j ≠ 1115 ∧ h_R1 (h_A 0 j) 17 = h_A 2012 j := of_decide_eq_true (List.all_eq_true.mp rr0_17_0 j (List.mem_range.mpr (by omega))) h
theorem rr0_18_0 : (List.range 121).all (fun j => decide (vG j → h_A 0 j ≠ 1 ∧ h_A 0 j ≠ 1112 ∧ h_A 0 j ≠ 1115 ∧ h_R1 (h_A 0 j) 18 = h_A 2013 j)) = true := by decide +kernel
theorem rr0_18 {j : Nat} (h : vG j) : h_A 0 j ≠ 1 ∧ h_A 0 j ≠ 1112 ∧ h_A 0 j ≠ 1115 ∧ h_R1 (h_A 0 j) 18 = h_A 2013 j := of_decide_eq_true (List.all_eq_true.mp rr0_18_0 j (List.mem_range.mpr (by omega))) h
theorem rr100_10_0 : (List.range 93).all (fun j => decide (vP j → h_A 100 j ≠ 1 ∧ h_A 100 j ≠ 1112 ∧ h_A 100 j ≠ 1115 ∧ h_R1 (h_A 100 j) 10 = h_A 2014 j)) = true := by decide +kernel
theorem rr100_10 {j : Nat} (h : vP j) : h_A 100 j ≠ 1 ∧ h_A 100 j ≠ 1112 ∧ h_A 100 j ≠ 1115 ∧ h_R1 (h_A 100 j) 10 = h_A 2014 j := of_decide_eq_true (List.all_eq_true.mp rr100_10_0 j (List.mem_range.mpr (by omega))) h
theorem rr100_12_0 : (List.range 93).all (fun j => decide (vP j → h_A 100 j ≠ 1 ∧ h_A 100 j ≠ 1112 ∧ h_A 100 j ≠ 1115 ∧ h_R1 (h_A 100 j) 12 = h_A 2015 j)) = true := by decide +kernel
theorem rr100_12 {j : Nat} (h : vP j) : h_A 100 j ≠ 1 ∧ h_A 100 j ≠ 1112 ∧ h_A 100 j ≠ 1115 ∧ h_R1 (h_A 100 j) 12 = h_A 2015 j := of_decide_eq_true (List.all_eq_true.mp rr100_12_0 j (List.mem_range.mpr (by omega))) h
theorem rr100_13_0 : (List.range 93).all (fun j => decide (vP j → h_A 100 j ≠ 1 ∧ h_A 100 j ≠ 1112 ∧ h_A 100 j ≠ 1115 ∧ h_R1 (h_A 100 j) 13 = h_A 2016 j)) = true := by decide +kernel
theorem rr100_13 {j : Nat} (h : vP j) : h_A 100 j ≠ 1 ∧ h_A 100 j ≠ 1112 ∧ h_A 100 j ≠ 1115 ∧ h_R1 (h_A 100 j) 13 = h_A 2016 j := of_decide_eq_true (List.all_eq_true.mp rr100_13_0 j (List.mem_range.mpr (by omega))) h
theorem rr200_1_0 : (List.range 3).all (fun j => decide (vW j → h_A 200 j ≠ 1 ∧ h_A 200 j ≠ 1112 ∧ h_A 200 j ≠ 1115 ∧ h_R1 (h_A 200 j) 1 = h_A 300 j)) = true := by decide +kernel
theorem rr200_1 {j : Nat} (h : vW j) : h_A 200 j ≠ 1 ∧ h_A 200 j ≠ 1112 ∧ h_A 200 j ≠ 1115 ∧ h_R1 (h_A 200 j) 1 = h_A 300 j := of_decide_eq_true (List.all_eq_true.mp rr200_1_0 j (List.mem_range.mpr (by omega))) h
theorem rr200_3_0 : (List.range 3).all (fun j => decide (vW j → h_A 200 j ≠ 1 ∧ h_A 200 j ≠ 1112 ∧ h_A 200 j ≠ 1115 ∧ h_R1 (h_A 200 j) 3 = h_A 500 j)) = true := by decide +kernel
theorem rr200_3 {j : Nat} (h : vW j) : h_A 200 j ≠ 1 ∧ h_A 200 j ≠ 1112 ∧ h_A 200 j ≠ 1115 ∧ h_R1 (h_A 200 j) 3 = h_A 500 j := of_decide_eq_true (List.all_eq_true.mp rr200_3_0 j (List.mem_range.mpr (by omega))) h
theorem rr200_4_0 : (List.range 3).all (fun j => decide (vW j → h_A 200 j ≠ 1 ∧ h_A 200 j ≠ 1112 ∧ h_A 200 j ≠ 1115 ∧ h_R1 (h_A 200 j) 4 = h_A 2030 j)) = true := by decide +kernel
theorem rr200_4 {j : Nat} (h : vW j) : h_A 200 j ≠ 1 ∧ h_A 200 j ≠ 1112 ∧ h_A 200 j ≠ 1115 ∧ h_R1 (h_A 200 j) 4 = h_A 2030 j := of_decide_eq_true (List.all_eq_true.mp rr200_4_0 j (List.mem_range.mpr (by omega))) h
theorem rr200_5_0 : (List.range 3).all (fun j => decide (vW j → h_A 200 j ≠ 1 ∧ h_A 200 j ≠ 1112 ∧ h_A 200 j ≠ 1115 ∧ h_R1 (h_A 200 j) 5 = h_A 2032 j)) = true := by decide +kernel
theorem rr200_5 {j : Nat} (h : vW j) : h_A 200 j ≠ 1 ∧ h_A 200 j ≠ 1112 ∧ h_A 200 j ≠ 1115 ∧ h_R1 (h_A 200 j) 5 = h_A 2032 j := of_decide_eq_true (List.all_eq_true.mp rr200_5_0 j (List.mem_range.mpr (by omega))) h
theorem rr200_7_0 : (List.range 3).all (fun j => decide (vW j → h_A 200 j ≠ 1 ∧ h_A 200 j ≠ 1112 ∧ h_A 200 j ≠ 1115 ∧ h_R1 (h_A 200 j) 7 = h_A 2033 j)) = true := by decide +kernel
theorem rr200_7 {j : Nat} (h : vW j) : h_A 200 j ≠ 1 ∧ h_A 200 j ≠ 1112 ∧ h_A 200 j ≠ 1115 ∧ h_R1 (h_A 200 j) 7 = h_A 2033 j := of_decide_eq_true (List.all_eq_true.mp rr200_7_0 j (List.mem_range.mpr (by omega))) h
theorem rr200_8_0 : (List.range 3).all (fun j => decide (vW j → h_A 200 j ≠ 1 ∧ h_A 200 j ≠ 1112 ∧ h_A 200 j ≠ 1115 ∧ h_R1 (h_A 200 j) 8 = h_A 2035 j)) = true := by decide +kernel
theorem rr200_8 {j : Nat} (h : vW j) : h_A 200 j ≠ 1 ∧ h_A 200 j ≠ 1112 ∧ h_A 200 j ≠ 1115 ∧ h_R1 (h_A 200 j) 8 = h_A 2035 j := of_decide_eq_true (List.all_eq_true.mp rr200_8_0 j (List.mem_range.mpr (by omega))) h
theorem rr200_9_0 : (List.range 3).all (fun j => decide (vW j → h_A 200 j ≠ 1 ∧ h_A 200 j ≠ 1112 ∧ h_A 200 j ≠ 1115 ∧ h_R1 (h_A 200 j) 9 = h_A 2036 j)) = true := by decide +kernel
theorem rr200_9 {j : Nat} (h : vW j) : h_A 200 j ≠ 1 ∧ h_A 200 j ≠ 1112 ∧ h_A 200 j ≠ 1115 ∧ h_R1 (h_A 200 j) 9 = h_A 2036 j := of_decide_eq_true (List.all_eq_true.mp rr200_9_0 j (List.mem_range.mpr (by omega))) h
theorem rr200_10_0 : (List.range 3).all (fun j => decide (vW j → h_A 200 j ≠ 1 ∧ h_A 200 j ≠ 1112 ∧ h_A 200 j ≠ 1115 ∧ h_R1 (h_A 200 j) 10 = h_A 2037 j)) = true := by decide +kernel
theorem rr200_10 {j : Nat} (h : vW j) : h_A 200 j ≠ 1 ∧ h_A 200 j ≠ 1112 ∧ h_A 200 j ≠ 1115 ∧ h_R1 (h_A 200 j) 10 = h_A 2037 j := of_decide_eq_true (List.all_eq_true.mp rr200_10_0 j (List.mem_range.mpr (by omega))) h
theorem rr200_14_0 : (List.range 3).all (fun j => decide (vW j → h_A 200 j ≠ 1 ∧ h_A 200 j ≠ 1112 ∧ h_A 200 j ≠ 1115 ∧ h_R1 (h_A 200 j) 14 = h_A 2038 j)) = true := by decide +kernel
theorem rr200_14 {j : Nat} (h : vW j) : h_A 200 j ≠ 1 ∧ h_A 200 j ≠ 1112 ∧ h_A 200 j ≠ 1115 ∧ h_R1 (h_A 200 j) 14 = h_A 2038 j := of_decide_eq_true (List.all_eq_true.mp rr200_14_0 j (List.mem_range.mpr (by omega))) h
theorem rr300_4_0 : (List.range 3).all (fun j => decide (vW j → h_A 300 j ≠ 1 ∧ h_A 300 j ≠ 1112 ∧ h_A 300 j ≠ 1115 ∧ h_R1 (h_A 300 j) 4 = h_A 2001 j)) = true := by decide +kernel
theorem rr300_4 {j : Nat} (h : vW j) : h_A 300 j ≠ 1 ∧ h_A 300 j ≠ 1112 ∧ h_A 300 j ≠ 1115 ∧ h_R1 (h_A 300 j) 4 = h_A 2001 j := of_decide_eq_true (List.all_eq_true.mp rr300_4_0 j (List.mem_range.mpr (by omega))) h
theorem rr300_5_0 : (List.range 3).all (fun j => decide (vW j → h_A 300 j ≠ 1 ∧ h_A 300 j ≠ 1112 ∧ h_A 300 j ≠ 1115 ∧ h_R1 (h_A 300 j) 5 = h_A 2002 j)) = true := by decide +kernel
theorem rr300_5 {j : Nat} (h : vW j) : h_A 300 j ≠ 1 ∧ h_A 300 j ≠ 1112 ∧ h_A 300 j ≠ 1115 ∧ h_R1 (h_A 300 j) 5 = h_A 2002 j := of_decide_eq_true (List.all_eq_true.mp rr300_5_0 j (List.mem_range.mpr (by omega))) h
theorem rr300_6_0 : (List.range 3).all (fun j => decide (vW j → h_A 300 j ≠ 1 ∧ h_A 300 j ≠ 1112 ∧ h_A 300 j ≠ 1115 ∧ h_R1 (h_A 300 j) 6 = h_A 2003 j)) = true := by decide +kernel
theorem rr300_6 {j : Nat} (h : vW j) : h_A 300 j ≠ 1 ∧ h_A 300 j ≠ 1112 ∧ h_A 300 j ≠ 1115 ∧ h_R1 (h_A 300 j) 6 = h_A 2003 j := of_decide_eq_true (List.all_eq_true.mp rr300_6_0 j (List.mem_range.mpr (by omega))) h
theorem rr300_7_0 : (List.range 3).all (fun j => decide (vW j → h_A 300 j ≠ 1 ∧ h_A 300 j ≠ 1112 ∧ h_A 300 j ≠ 1115 ∧ h_R1 (h_A 300 j) 7 = h_A 400 (2 * j))) = true := by decide +kernel
theorem rr300_7 {j : Nat} (h : vW j) : h_A 300 j ≠ 1 ∧ h_A 300 j ≠ 1112 ∧ h_A 300 j ≠ 1115 ∧ h_R1 (h_A 300 j) 7 = h_A 400 (2 * j) := of_decide_eq_true (List.all_eq_true.mp rr300_7_0 j (List.mem_range.mpr (by omega))) h
theorem rr300_8_0 : (List.range 3).all (fun j => decide (vW j → h_A 300 j ≠ 1 ∧ h_A 300 j ≠ 1112 ∧ h_A 300 j ≠ 1115 ∧ h_R1 (h_A 300 j) 8 = h_A 400 (2 * j + 1))) = true := by decide +kernel
theorem rr300_8 {j : Nat} (h : vW j) : h_A 300 j ≠ 1 ∧ h_A 300 j ≠ 1112 ∧ h_A 300 j ≠ 1115 ∧ h_R1 (h_A 300 j) 8 = h_A 400 (2 * j + 1) := of_decide_eq_true (List.all_eq_true.mp rr300_8_0 j (List.mem_range.mpr (by omega))) h
theorem rr300_9_0 : (List.range 3).all (fun j => decide (vW j → h_A 300 j ≠ 1 ∧ h_A 300 j ≠ 1112 ∧ h_A 300 j ≠ 1115 ∧ h_R1 (h_A 300 j) 9 = h_A 2007 j)) = true := by decide +kernel
theorem rr300_9 {j : Nat} (h : vW j) : h_A 300 j ≠ 1 ∧ h_A 300 j ≠ 1112 ∧ h_A 300 j ≠ 1115 ∧ h_R1 (h_A 300 j) 9 = h_A 2007 j := of_decide_eq_true (List.all_eq_true.mp rr300_9_0 j (List.mem_range.mpr (by omega))) h
theorem rr400_2_0 : (List.range 6).all (fun j => decide (vL j → h_A 400 j ≠ 1 ∧ h_A 400 j ≠ 1112 ∧ h_A 400 j ≠ 1115 ∧ h_R1 (h_A 400 j) 2 = h_A 2005 j)) = true := by decide +kernel
theorem rr400_2 {j : Nat} (h : vL j) : h_A 400 j ≠ 1 ∧ h_A 400 j ≠ 1112 ∧ h_A 400 j ≠ 1115 ∧ h_R1 (h_A 400 j) 2 = h_A 2005 j := of_decide_eq_true (List.all_eq_true.mp rr400_2_0 j (List.mem_range.mpr (by omega))) h
theorem rr400_4_0 : (List.range 6).all (fun j => decide (vL j → h_A 400 j ≠ 1 ∧ h_A 400 j ≠ 1112 ∧ h_A 400 j ≠ 1115 ∧ h_R1 (h_A 400 j) 4 = h_A 2006 j)) = true := by decide +kernel
theorem rr400_4 {j : Nat} (h : vL j) : h_A 400 j ≠ 1 ∧ h_A 400 j ≠ 1112 ∧ h_A 400 j ≠ 1115 ∧ h_R1 (h_A 400 j) 4 = h_A 2006 j := of_decide_eq_true (List.all_eq_true.mp rr400_4_0 j (List.mem_range.mpr (by omega))) h
theorem rr400_5_0 : (List.range 6).all (fun j => decide (vL j → h_A 400 j ≠ 1 ∧ h_A 400 j ≠ 1112 ∧ h_A 400 j ≠ 1115 ∧ h_R1 (h_A 400 j) 5 = h_A 2004 j)) = true := by decide +kernel
theorem rr400_5 {j : Nat} (h : vL j) : h_A 400 j ≠ 1 ∧ h_A 400 j ≠ 1112 ∧ h_A 400 j ≠ 1115 ∧ h_R1 (h_A 400 j) 5 = h_A 2004 j := of_decide_eq_true (List.all_eq_true.mp rr400_5_0 j (List.mem_range.mpr (by omega))) h
theorem rr500_1_0 : (List.range 4).all (fun j => decide (vR j → h_A 500 j ≠ 1 ∧ h_A 500 j ≠ 1112 ∧ h_A 500 j ≠ 1115 ∧ h_R1 (h_A 500 j) 1 = h_A 2020 j)) = true := by decide +kernel
theorem rr500_1 {j : Nat} (h : vR j) : h_A 500 j ≠ 1 ∧ h_A 500 j ≠ 1112 ∧ h_A 500 j ≠ 1115 ∧ h_R1 (h_A 500 j) 1 = h_A 2020 j := of_decide_eq_true (List.all_eq_true.mp rr500_1_0 j (List.mem_range.mpr (by omega))) h
theorem rr500_2_0 : (List.range 4).all (fun j => decide (vR j → h_A 500 j ≠ 1 ∧ h_A 500 j ≠ 1112 ∧ h_A 500 j ≠ 1115 ∧ h_R1 (h_A 500 j) 2 = h_A 2021 j)) = true := by decide +kernel
theorem rr500_2 {j : Nat} (h : vR j) : h_A 500 j ≠ 1 ∧ h_A 500 j ≠ 1112 ∧ h_A 500 j ≠ 1115 ∧ h_R1 (h_A 500 j) 2 = h_A 2021 j := of_decide_eq_true (List.all_eq_true.mp rr500_2_0 j (List.mem_range.mpr (by omega))) h
theorem rr500_3_0 : (List.range 4).all (fun j => decide (vR j → h_A 500 j ≠ 1 ∧ h_A 500 j ≠ 1112 ∧ h_A 500 j ≠ 1115 ∧ h_R1 (h_A 500 j) 3 = h_A 2022 j)) = true := by decide +kernel
theorem rr500_3 {j : Nat} (h : vR j) : h_A 500 j ≠ 1 ∧ h_A 500 j ≠ 1112 ∧ h_A 500 j ≠ 1115 ∧ h_R1 (h_A 500 j) 3 = h_A 2022 j := of_decide_eq_true (List.all_eq_true.mp rr500_3_0 j (List.mem_range.mpr (by omega))) h
theorem rr500_4_0 : (List.range 4).all (fun j => decide (vR j → h_A 500 j ≠ 1 ∧ h_A 500 j ≠ 1112 ∧ h_A 500 j ≠ 1115 ∧ h_R1 (h_A 500 j) 4 = h_A 2023 j)) = true := by decide +kernel
theorem rr500_4 {j : Nat} (h : vR j) : h_A 500 j ≠ 1 ∧ h_A 500 j ≠ 1112 ∧ h_A 500 j ≠ 1115 ∧ h_R1 (h_A 500 j) 4 = h_A 2023 j := of_decide_eq_true (List.all_eq_true.mp rr500_4_0 j (List.mem_range.mpr (by omega))) h
theorem rr500_5_0 : (List.range 4).all (fun j => decide (vR j → h_A 500 j ≠ 1 ∧ h_A 500 j ≠ 1112 ∧ h_A 500 j ≠ 1115 ∧ h_R1 (h_A 500 j) 5 = h_A 2024 j)) = true := by decide +kernel
theorem rr500_5 {j : Nat} (h : vR j) : h_A 500 j ≠ 1 ∧ h_A 500 j ≠ 1112 ∧ h_A 500 j ≠ 1115 ∧ h_R1 (h_A 500 j) 5 = h_A 2024 j := of_decide_eq_true (List.all_eq_true.mp rr500_5_0 j (List.mem_range.mpr (by omega))) h
theorem rr500_6_0 : (List.range 4).all (fun j => decide (vR j → h_A 500 j ≠ 1 ∧ h_A 500 j ≠ 1112 ∧ h_A 500 j ≠ 1115 ∧ h_R1 (h_A 500 j) 6 = h_A 2025 j)) = true := by decide +kernel
theorem rr500_6 {j : Nat} (h : vR j) : h_A 500 j ≠ 1 ∧ h_A 500 j ≠ 1112 ∧ h_A 500 j ≠ 1115 ∧ h_R1 (h_A 500 j) 6 = h_A 2025 j := of_decide_eq_true (List.all_eq_true.mp rr500_6_0 j (List.mem_range.mpr (by omega))) h
theorem rr500_7_0 : (List.range 4).all (fun j => decide (vR j → h_A 500 j ≠ 1 ∧ h_A 500 j ≠ 1112 ∧ h_A 500 j ≠ 1115 ∧ h_R1 (h_A 500 j) 7 = h_A 2026 j)) = true := by decide +kernel
theorem rr500_7 {j : Nat} (h : vR j) : h_A 500 j ≠ 1 ∧ h_A 500 j ≠ 1112 ∧ h_A 500 j ≠ 1115 ∧ h_R1 (h_A 500 j) 7 = h_A 2026 j := of_decide_eq_true (List.all_eq_true.mp rr500_7_0 j (List.mem_range.mpr (by omega))) h
theorem rs1_0 (c : h_C) (m : h_M) : p_R (h_H c m) 1 0 = 2 := rfl
theorem rs1_2 (c : h_C) (m : h_M) : p_R (h_H c m) 1 2 = 1110 := rfl
theorem rs1_3 (c : h_C) (m : h_M) : p_R (h_H c m) 1 3 = 1112 := rfl
theorem rs1_4 (c : h_C) (m : h_M) : p_R (h_H c m) 1 4 = 1115 := rfl
theorem rs1_5 (c : h_C) (m : h_M) : p_R (h_H c m) 1 5 = 1124 := rfl
theorem rs1110_0 (c : h_C) (m : h_M) : p_R (h_H c m) 1110 0 = 1111 := rfl
theorem rs1112_0 (c : h_C) (m : h_M) : p_R (h_H c m) 1112 0 = 1113 := rfl
theorem rs1113_4 (c : h_C) (m : h_M) : p_R (h_H c m) 1113 4 = 1114 := rfl
theorem rs1115_0 (c : h_C) (m : h_M) : p_R (h_H c m) 1115 0 = h_A 500 3 := rfl
theorem el2001_0 : (List.range 3).all (fun j => (List.range 40).all (fun k => decide (vW j → 0 ≤ k → h_A 2001 j ≠ 1 ∧ h_A 2001 j ≠ 1112 ∧ h_A 2001 j ≠ 1115 ∧ h_R1 (h_A 2001 j) k = h_A 0 (40 * j + k + 1)))) = true := by decide +kernel
theorem el2001 {j k : Nat} (h : vW j) (h0 : 0 ≤ k) (hk : k < 40) : h_A 2001 j ≠ 1 ∧ h_A 2001 j ≠ 1112 ∧ h_A 2001 j ≠ 1115 ∧ h_R1 (h_A 2001 j) k = h_A 0 (40 * j + k + 1) := of_decide_eq_true (List.all_eq_true.mp (List.all_eq_true.mp el2001_0 j (List.mem_range.mpr (by omega))) k (List.mem_range.mpr hk)) h h0
theorem el2002_0 : (List.range 3).all (fun j => (List.range 31).all (fun k => decide (vW j → 1 ≤ k → h_A 2002 j ≠ 1 ∧ h_A 2002 j ≠ 1112 ∧ h_A 2002 j ≠ 1115 ∧ h_R1 (h_A 2002 j) k = h_A 100 (31 * j + k)))) = true := by decide +kernel
theorem el2002 {j k : Nat} (h : vW j) (h0 : 1 ≤ k) (hk : k < 31) : h_A 2002 j ≠ 1 ∧ h_A 2002 j ≠ 1112 ∧ h_A 2002 j ≠ 1115 ∧ h_R1 (h_A 2002 j) k = h_A 100 (31 * j + k) := of_decide_eq_true (List.all_eq_true.mp (List.all_eq_true.mp el2002_0 j (List.mem_range.mpr (by omega))) k (List.mem_range.mpr hk)) h h0
theorem el2030_0 : (List.range 3).all (fun j => (List.range 16).all (fun k => decide (vW j → 0 ≤ k → h_A 2030 j ≠ 1 ∧ h_A 2030 j ≠ 1112 ∧ h_A 2030 j ≠ 1115 ∧ h_R1 (h_A 2030 j) k = h_A 2031 (16 * j + k)))) = true := by decide +kernel
theorem el2030 {j k : Nat} (h : vW j) (h0 : 0 ≤ k) (hk : k < 16) : h_A 2030 j ≠ 1 ∧ h_A 2030 j ≠ 1112 ∧ h_A 2030 j ≠ 1115 ∧ h_R1 (h_A 2030 j) k = h_A 2031 (16 * j + k) := of_decide_eq_true (List.all_eq_true.mp (List.all_eq_true.mp el2030_0 j (List.mem_range.mpr (by omega))) k (List.mem_range.mpr hk)) h h0
theorem el2033_0 : (List.range 3).all (fun j => (List.range 4).all (fun k => decide (vW j → 0 ≤ k → h_A 2033 j ≠ 1 ∧ h_A 2033 j ≠ 1112 ∧ h_A 2033 j ≠ 1115 ∧ h_R1 (h_A 2033 j) k = h_A 2034 (4 * j + k)))) = true := by decide +kernel
theorem el2033 {j k : Nat} (h : vW j) (h0 : 0 ≤ k) (hk : k < 4) : h_A 2033 j ≠ 1 ∧ h_A 2033 j ≠ 1112 ∧ h_A 2033 j ≠ 1115 ∧ h_R1 (h_A 2033 j) k = h_A 2034 (4 * j + k) := of_decide_eq_true (List.all_eq_true.mp (List.all_eq_true.mp el2033_0 j (List.mem_range.mpr (by omega))) k (List.mem_range.mpr hk)) h h0
theorem el2000_0 : (List.range 3).all (fun k => decide (h_R1 2 k = h_A 200 k)) = true := by decide +kernel
theorem el2000 {k : Nat} (hk : k < 3) : (2 : Nat) ≠ 1 ∧ (2 : Nat) ≠ 1112 ∧ (2 : Nat) ≠ 1115 ∧ h_R1 2 k = h_A 200 k := ⟨by decide, by decide, by decide, of_decide_eq_true (List.all_eq_true.mp el2000_0 k (List.mem_range.mpr hk))⟩
theorem h_aWn {x : Int} (h : 0 ≤ x ∧ x < 3) : h_aW x = h_A 200 x.toNat := by
  unfold h_aW
  rw [if_neg (by omega)]
  rfl
theorem h_aSn {x : Int} (h : 0 ≤ x ∧ x < 3) : h_aS x = h_A 300 x.toNat := by
  unfold h_aS
  rw [if_neg (by omega)]
  rfl
theorem rm5000 (c : h_C) (m : h_M) (h : 0 ≤ c 5000 0 0 ∧ c 5000 0 0 < 3) : p_R (h_H c m) 1 1 = h_A 200 (c 5000 0 0).toNat := h_aWn h
theorem rm5002 (c : h_C) (m : h_M) (h : 0 ≤ c 5002 0 0 ∧ c 5002 0 0 < 3) : p_R (h_H c m) 1112 2 = h_A 200 (c 5002 0 0).toNat := h_aWn h
theorem rm5003 (c : h_C) (m : h_M) (h : 0 ≤ c 5003 0 0 ∧ c 5003 0 0 < 3) : p_R (h_H c m) 1112 3 = h_A 300 (c 5003 0 0).toNat := h_aSn h
theorem rm5001 (c : h_C) (m : h_M) (h : c 5001 0 0 = 1) : p_R (h_H c m) 1112 1 = 1110 := if_pos h
theorem rm5004 (c : h_C) (m : h_M) (h : c 5004 0 0 = 1) : p_R (h_H c m) 1115 1 = 1124 := if_pos h
theorem h_A0z (j : Nat) : h_A 0 j = 0 ↔ j = 0 := by
  show (if j = 0 then 0 else 17 + 369 * ((j - 1) / 40) + 5 * ((j - 1) % 40)) = 0 ↔ j = 0
  by_cases h : j = 0
  · rw [if_pos h]; exact ⟨fun _ => h, fun _ => rfl⟩
  · rw [if_neg h]; exact ⟨fun w => by omega, fun w => absurd w h⟩
theorem h_A100z (j : Nat) : h_A 100 j = 0 ↔ j = 0 := by
  show (if j = 0 then 0 else 213 + 369 * (j / 31) + 4 * (j % 31)) = 0 ↔ j = 0
  by_cases h : j = 0
  · rw [if_pos h]; exact ⟨fun _ => h, fun _ => rfl⟩
  · rw [if_neg h]; exact ⟨fun w => by omega, fun w => absurd w h⟩
theorem ne_iff {a b : Nat} (h : a = 0 ↔ b = 0) : a ≠ 0 ↔ b ≠ 0 := ⟨fun w q => w (h.mpr q), fun w q => w (h.mp q)⟩
theorem h_Zsm (c : h_C) (m : h_M) {a : Nat} (h0 : 1126 ≤ a) (h1 : a ≤ 1194) (hf : (h_mq a).1 < 100) (hi : ∀ b, 1126 ≤ b → b ≤ 1194 → (h_mq b).1 = (h_mq a).1 → b = a) (k : Nat) (x : Int) : p_wZ (h_H c m) a k x = h_H c (wm m (h_mq a).1 k x) := by
  have e : (fun b j => if b = a ∧ j = k then x else h_Z c m b j) = h_Z c (wm m (h_mq a).1 k x) := by
    funext b j
    unfold h_Z wm
    by_cases hb0 : b = 0
    · rw [if_pos hb0, if_pos hb0, if_neg (by omega)]
    · rw [if_neg hb0, if_neg hb0]
      by_cases hb1 : b ≤ 1124
      · rw [if_pos hb1, if_pos hb1, if_neg (by omega)]
      · rw [if_neg hb1, if_neg hb1]
        by_cases hb2 : b = 1125
        · rw [if_pos hb2, if_pos hb2, if_neg (by omega)]
          by_cases hj : j < 100
          · rw [if_pos hj, if_pos hj, sm_n (by omega)]
          · rw [if_neg hj, if_neg hj]
        · rw [if_neg hb2, if_neg hb2]
          by_cases hb3 : b ≤ 1194
          · rw [if_pos hb3, if_pos hb3]
            by_cases hb : b = a
            · subst hb
              rw [sm_f]
              by_cases hj : j = k
              · rw [if_pos ⟨rfl, hj⟩, hj, up_eq]
              · rw [if_neg (fun w => hj w.2), up_ne hj]
            · rw [if_neg (fun w => hb w.1), sm_n (fun w => hb (hi b (by omega) hb3 w))]
          · rw [if_neg hb3, if_neg hb3, if_neg (by omega)]
  show (_, _, _, _, (fun b j => if b = a ∧ j = k then x else h_Z c m b j), h_R c) = h_H c _
  rw [e]
  rfl
theorem h_Zso2 (c : h_C) (m : h_M) {k : Nat} (hk : k < 100) (x : Int) (hf : ∀ b, 1126 ≤ b → b ≤ 1194 → (h_mq b).1 < 100) : p_wZ (h_H c m) 1125 k x = h_H c (wm m (100 + k) 0 x) := by
  have e : (fun b j => if b = 1125 ∧ j = k then x else h_Z c m b j) = h_Z c (wm m (100 + k) 0 x) := by
    funext b j
    unfold h_Z wm
    by_cases hb0 : b = 0
    · rw [if_pos hb0, if_pos hb0, if_neg (by omega)]
    · rw [if_neg hb0, if_neg hb0]
      by_cases hb1 : b ≤ 1124
      · rw [if_pos hb1, if_pos hb1, if_neg (by omega)]
      · rw [if_neg hb1, if_neg hb1]
        by_cases hb2 : b = 1125
        · rw [if_pos hb2, if_pos hb2]
          by_cases hj : j < 100
          · rw [if_pos hj, if_pos hj]
            by_cases hjk : j = k
            · rw [if_pos ⟨hb2, hjk⟩, hjk, sm_f, up_eq]
            · rw [if_neg (fun w => hjk w.2), sm_n (by omega)]
          · rw [if_neg hj, if_neg hj, if_neg (by omega)]
        · rw [if_neg hb2, if_neg hb2, if_neg (fun w => hb2 w.1)]
          by_cases hb3 : b ≤ 1194
          · rw [if_pos hb3, if_pos hb3, sm_n (by have := hf b (by omega) hb3; omega)]
          · rw [if_neg hb3, if_neg hb3]
  show (_, _, _, _, (fun b j => if b = 1125 ∧ j = k then x else h_Z c m b j), h_R c) = h_H c _
  rw [e]
  rfl
theorem h_mqi0 : (List.range 69).all (fun a => (List.range 69).all (fun b => decide ((h_mq (a + 1126)).1 < 100 ∧ ((h_mq (a + 1126)).1 = (h_mq (b + 1126)).1 → a = b)))) = true := by decide +kernel
theorem h_mqi {a b : Nat} (h0 : 1126 ≤ a) (h1 : a ≤ 1194) (g0 : 1126 ≤ b) (g1 : b ≤ 1194) : (h_mq a).1 < 100 ∧ ((h_mq a).1 = (h_mq b).1 → a = b) := by
  have h := of_decide_eq_true (List.all_eq_true.mp (List.all_eq_true.mp h_mqi0 (a - 1126) (List.mem_range.mpr (by omega))) (b - 1126) (List.mem_range.mpr (by omega)))
  rw [show a - 1126 + 1126 = a by omega, show b - 1126 + 1126 = b by omega] at h
  exact ⟨h.1, fun w => by have := h.2 w; omega⟩
theorem mzS (c : h_C) (m : h_M) (k : Nat) (hk : k < 100) : p_Z (h_H c m) 1125 k = m (100 + k) 0 := by
  show h_Z c m 1125 k = _
  unfold h_Z
  rw [if_neg (by decide), if_neg (by decide), if_pos rfl, if_pos hk]
theorem mwS (c : h_C) (m : h_M) (k : Nat) (hk : k < 100) (x : Int) : p_wZ (h_H c m) 1125 k x = h_H c (wm m (100 + k) 0 x) := h_Zso2 c m hk x (fun b h0 h1 => (h_mqi h0 h1 h0 h1).1)
theorem miS (c : h_C) (m : h_M) : p_is (h_H c m) 1125 11 := ⟨by decide, (show (1125 : Nat) ≤ 1194 by decide), rfl⟩
/-- a row of the reference -/
def m_d (a f t n : Nat) : Prop := h_mq a = (f, t, n) ∧ 1126 ≤ a ∧ a ≤ 1194
theorem mzA (c : h_C) (m : h_M) {a f t n : Nat} (d : m_d a f t n) (k : Nat) : p_Z (h_H c m) a k = m f k := by
  obtain ⟨e, h0, h1⟩ := d
  show h_Z c m a k = _
  unfold h_Z
  rw [if_neg (by omega), if_neg (by omega), if_neg (by omega), if_pos h1, e]
theorem mwA (c : h_C) (m : h_M) {a f t n : Nat} (d : m_d a f t n) (k : Nat) (x : Int) : p_wZ (h_H c m) a k x = h_H c (wm m f k x) := by
  obtain ⟨e, h0, h1⟩ := d
  have h := h_Zsm c m h0 h1 (h_mqi h0 h1 h0 h1).1 (fun b g0 g1 w => (h_mqi g0 g1 h0 h1).2 w) k x
  rw [e] at h
  exact h
theorem miA (c : h_C) (m : h_M) {a f t n : Nat} (d : m_d a f t n) : p_is (h_H c m) a t := by
  obtain ⟨e, h0, h1⟩ := d
  refine ⟨by omega, h1, ?_⟩
  show h_T a = t
  unfold h_T
  rw [if_neg (by omega), if_neg (by omega), if_neg (by omega), if_pos h1, e]
theorem mlA (c : h_C) (m : h_M) {a f t n : Nat} (d : m_d a f t n) : p_L (h_H c m) a = n := by
  obtain ⟨e, h0, h1⟩ := d
  show h_L a = n
  unfold h_L
  rw [if_neg (by omega), if_neg (by omega), if_neg (by omega), if_pos h1, e]
theorem e3 : m_d 1126 3 100 3 := ⟨rfl, by decide, by decide⟩
theorem mr3 (c : h_C) (m : h_M) : p_R (h_H c m) 1125 3 = 1126 := rfl
theorem e4 : m_d 1127 4 100 3 := ⟨rfl, by decide, by decide⟩
theorem mr4 (c : h_C) (m : h_M) : p_R (h_H c m) 1125 4 = 1127 := rfl
theorem e5 : m_d 1128 5 100 120 := ⟨rfl, by decide, by decide⟩
theorem mr5 (c : h_C) (m : h_M) : p_R (h_H c m) 1125 5 = 1128 := rfl
theorem e6 : m_d 1129 6 100 120 := ⟨rfl, by decide, by decide⟩
theorem mr6 (c : h_C) (m : h_M) : p_R (h_H c m) 1125 6 = 1129 := rfl
theorem e7 : m_d 1130 7 100 120 := ⟨rfl, by decide, by decide⟩
theorem mr7 (c : h_C) (m : h_M) : p_R (h_H c m) 1125 7 = 1130 := rfl
theorem e8 : m_d 1131 8 100 360 := ⟨rfl, by decide, by decide⟩
theorem mr8 (c : h_C) (m : h_M) : p_R (h_H c m) 1125 8 = 1131 := rfl
theorem e9 : m_d 1132 9 100 120 := ⟨rfl, by decide, by decide⟩
theorem mr9 (c : h_C) (m : h_M) : p_R (h_H c m) 1125 9 = 1132 := rfl
theorem e10 : m_d 1133 10 100 120 := ⟨rfl, by decide, by decide⟩
theorem mr10 (c : h_C) (m : h_M) : p_R (h_H c m) 1125 10 = 1133 := rfl
theorem e11 : m_d 1134 11 101 240 := ⟨rfl, by decide, by decide⟩
theorem mr11 (c : h_C) (m : h_M) : p_R (h_H c m) 1125 11 = 1134 := rfl
theorem e12 : m_d 1135 12 100 120 := ⟨rfl, by decide, by decide⟩
theorem mr12 (c : h_C) (m : h_M) : p_R (h_H c m) 1125 12 = 1135 := rfl
theorem e13 : m_d 1136 13 100 120 := ⟨rfl, by decide, by decide⟩
theorem mr13 (c : h_C) (m : h_M) : p_R (h_H c m) 1125 13 = 1136 := rfl
theorem e14 : m_d 1137 14 102 120 := ⟨rfl, by decide, by decide⟩
theorem mr14 (c : h_C) (m : h_M) : p_R (h_H c m) 1125 14 = 1137 := rfl
theorem e15 : m_d 1138 15 100 120 := ⟨rfl, by decide, by decide⟩
theorem mr15 (c : h_C) (m : h_M) : p_R (h_H c m) 1125 15 = 1138 := rfl
theorem e16 : m_d 1139 16 100 120 := ⟨rfl, by decide, by decide⟩
theorem mr16 (c : h_C) (m : h_M) : p_R (h_H c m) 1125 16 = 1139 := rfl
theorem e17 : m_d 1140 17 100 120 := ⟨rfl, by decide, by decide⟩
theorem mr17 (c : h_C) (m : h_M) : p_R (h_H c m) 1125 17 = 1140 := rfl
theorem e18 : m_d 1141 18 100 120 := ⟨rfl, by decide, by decide⟩
theorem mr18 (c : h_C) (m : h_M) : p_R (h_H c m) 1125 18 = 1141 := rfl
theorem e19 : m_d 1142 19 100 120 := ⟨rfl, by decide, by decide⟩
theorem mr19 (c : h_C) (m : h_M) : p_R (h_H c m) 1125 19 = 1142 := rfl
theorem e20 : m_d 1143 20 100 120 := ⟨rfl, by decide, by decide⟩
theorem mr20 (c : h_C) (m : h_M) : p_R (h_H c m) 1125 20 = 1143 := rfl
theorem e21 : m_d 1144 21 100 120 := ⟨rfl, by decide, by decide⟩
theorem mr21 (c : h_C) (m : h_M) : p_R (h_H c m) 1125 21 = 1144 := rfl
theorem e22 : m_d 1145 22 100 960 := ⟨rfl, by decide, by decide⟩
theorem mr22 (c : h_C) (m : h_M) : p_R (h_H c m) 1125 22 = 1145 := rfl
theorem e24 : m_d 1146 24 100 2001 := ⟨rfl, by decide, by decide⟩
theorem mr24 (c : h_C) (m : h_M) : p_R (h_H c m) 1125 24 = 1146 := rfl
theorem e25 : m_d 1147 25 100 2001 := ⟨rfl, by decide, by decide⟩
theorem mr25 (c : h_C) (m : h_M) : p_R (h_H c m) 1125 25 = 1147 := rfl
theorem e26 : m_d 1148 26 100 2001 := ⟨rfl, by decide, by decide⟩
theorem mr26 (c : h_C) (m : h_M) : p_R (h_H c m) 1125 26 = 1148 := rfl
theorem e27 : m_d 1149 27 100 2001 := ⟨rfl, by decide, by decide⟩
theorem mr27 (c : h_C) (m : h_M) : p_R (h_H c m) 1125 27 = 1149 := rfl
theorem e28 : m_d 1150 28 100 2001 := ⟨rfl, by decide, by decide⟩
theorem mr28 (c : h_C) (m : h_M) : p_R (h_H c m) 1125 28 = 1150 := rfl
theorem e29 : m_d 1151 29 100 2001 := ⟨rfl, by decide, by decide⟩
theorem mr29 (c : h_C) (m : h_M) : p_R (h_H c m) 1125 29 = 1151 := rfl
theorem e30 : m_d 1152 30 100 2001 := ⟨rfl, by decide, by decide⟩
theorem mr30 (c : h_C) (m : h_M) : p_R (h_H c m) 1125 30 = 1152 := rfl
theorem e31 : m_d 1153 31 100 2001 := ⟨rfl, by decide, by decide⟩
theorem mr31 (c : h_C) (m : h_M) : p_R (h_H c m) 1125 31 = 1153 := rfl
theorem e32 : m_d 1154 32 100 24012 := ⟨rfl, by decide, by decide⟩
theorem mr32 (c : h_C) (m : h_M) : p_R (h_H c m) 1125 32 = 1154 := rfl
theorem e33 : m_d 1155 33 100 2001 := ⟨rfl, by decide, by decide⟩
theorem mr33 (c : h_C) (m : h_M) : p_R (h_H c m) 1125 33 = 1155 := rfl
theorem e34 : m_d 1156 34 100 32016 := ⟨rfl, by decide, by decide⟩
theorem mr34 (c : h_C) (m : h_M) : p_R (h_H c m) 1125 34 = 1156 := rfl
theorem e35 : m_d 1157 35 102 2001 := ⟨rfl, by decide, by decide⟩
theorem mr35 (c : h_C) (m : h_M) : p_R (h_H c m) 1125 35 = 1157 := rfl
theorem e36 : m_d 1158 36 102 2001 := ⟨rfl, by decide, by decide⟩
theorem mr36 (c : h_C) (m : h_M) : p_R (h_H c m) 1125 36 = 1158 := rfl
theorem e37 : m_d 1159 37 100 2001 := ⟨rfl, by decide, by decide⟩
theorem mr37 (c : h_C) (m : h_M) : p_R (h_H c m) 1125 37 = 1159 := rfl
theorem e38 : m_d 1160 38 100 3 := ⟨rfl, by decide, by decide⟩
theorem mr38 (c : h_C) (m : h_M) : p_R (h_H c m) 1125 38 = 1160 := rfl
theorem e39 : m_d 1161 39 100 3 := ⟨rfl, by decide, by decide⟩
theorem mr39 (c : h_C) (m : h_M) : p_R (h_H c m) 1125 39 = 1161 := rfl
theorem e40 : m_d 1162 40 100 3 := ⟨rfl, by decide, by decide⟩
theorem mr40 (c : h_C) (m : h_M) : p_R (h_H c m) 1125 40 = 1162 := rfl
theorem e41 : m_d 1163 41 100 360 := ⟨rfl, by decide, by decide⟩
theorem mr41 (c : h_C) (m : h_M) : p_R (h_H c m) 1125 41 = 1163 := rfl
theorem e42 : m_d 1164 42 100 3 := ⟨rfl, by decide, by decide⟩
theorem mr42 (c : h_C) (m : h_M) : p_R (h_H c m) 1125 42 = 1164 := rfl
theorem e43 : m_d 1165 43 100 600 := ⟨rfl, by decide, by decide⟩
theorem mr43 (c : h_C) (m : h_M) : p_R (h_H c m) 1125 43 = 1165 := rfl
theorem e44 : m_d 1166 44 100 3 := ⟨rfl, by decide, by decide⟩
theorem mr44 (c : h_C) (m : h_M) : p_R (h_H c m) 1125 44 = 1166 := rfl
theorem e45 : m_d 1167 45 100 180 := ⟨rfl, by decide, by decide⟩
theorem mr45 (c : h_C) (m : h_M) : p_R (h_H c m) 1125 45 = 1167 := rfl
theorem e46 : m_d 1168 46 100 200 := ⟨rfl, by decide, by decide⟩
theorem mr46 (c : h_C) (m : h_M) : p_R (h_H c m) 1125 46 = 1168 := rfl
theorem e48 : m_d 1169 48 100 3 := ⟨rfl, by decide, by decide⟩
theorem mr48 (c : h_C) (m : h_M) : p_R (h_H c m) 1125 48 = 1169 := rfl
theorem e49 : m_d 1170 49 100 36 := ⟨rfl, by decide, by decide⟩
theorem mr49 (c : h_C) (m : h_M) : p_R (h_H c m) 1125 49 = 1170 := rfl
theorem e50 : m_d 1171 50 100 36 := ⟨rfl, by decide, by decide⟩
theorem mr50 (c : h_C) (m : h_M) : p_R (h_H c m) 1125 50 = 1171 := rfl
theorem e51 : m_d 1172 51 100 36 := ⟨rfl, by decide, by decide⟩
theorem mr51 (c : h_C) (m : h_M) : p_R (h_H c m) 1125 51 = 1172 := rfl
theorem e52 : m_d 1173 52 100 144 := ⟨rfl, by decide, by decide⟩
theorem mr52 (c : h_C) (m : h_M) : p_R (h_H c m) 1125 52 = 1173 := rfl
theorem e53 : m_d 1174 53 100 144 := ⟨rfl, by decide, by decide⟩
theorem mr53 (c : h_C) (m : h_M) : p_R (h_H c m) 1125 53 = 1174 := rfl
theorem e54 : m_d 1175 54 100 144 := ⟨rfl, by decide, by decide⟩
theorem mr54 (c : h_C) (m : h_M) : p_R (h_H c m) 1125 54 = 1175 := rfl
theorem e55 : m_d 1176 55 100 144 := ⟨rfl, by decide, by decide⟩
theorem mr55 (c : h_C) (m : h_M) : p_R (h_H c m) 1125 55 = 1176 := rfl
theorem e56 : m_d 1177 56 100 3 := ⟨rfl, by decide, by decide⟩
theorem mr56 (c : h_C) (m : h_M) : p_R (h_H c m) 1125 56 = 1177 := rfl
theorem e57 : m_d 1178 57 100 48 := ⟨rfl, by decide, by decide⟩
theorem mr57 (c : h_C) (m : h_M) : p_R (h_H c m) 1125 57 = 1178 := rfl
theorem e58 : m_d 1179 58 100 192 := ⟨rfl, by decide, by decide⟩
theorem mr58 (c : h_C) (m : h_M) : p_R (h_H c m) 1125 58 = 1179 := rfl
theorem e59 : m_d 1180 59 100 12 := ⟨rfl, by decide, by decide⟩
theorem mr59 (c : h_C) (m : h_M) : p_R (h_H c m) 1125 59 = 1180 := rfl
theorem e60 : m_d 1181 60 100 12 := ⟨rfl, by decide, by decide⟩
theorem mr60 (c : h_C) (m : h_M) : p_R (h_H c m) 1125 60 = 1181 := rfl
theorem e61 : m_d 1182 61 100 96 := ⟨rfl, by decide, by decide⟩
theorem mr61 (c : h_C) (m : h_M) : p_R (h_H c m) 1125 61 = 1182 := rfl
theorem e62 : m_d 1183 62 100 12 := ⟨rfl, by decide, by decide⟩
theorem mr62 (c : h_C) (m : h_M) : p_R (h_H c m) 1125 62 = 1183 := rfl
theorem e63 : m_d 1184 63 100 12 := ⟨rfl, by decide, by decide⟩
theorem mr63 (c : h_C) (m : h_M) : p_R (h_H c m) 1125 63 = 1184 := rfl
theorem e64 : m_d 1185 64 100 48 := ⟨rfl, by decide, by decide⟩
theorem mr64 (c : h_C) (m : h_M) : p_R (h_H c m) 1125 64 = 1185 := rfl
theorem e65 : m_d 1186 65 100 48 := ⟨rfl, by decide, by decide⟩
theorem mr65 (c : h_C) (m : h_M) : p_R (h_H c m) 1125 65 = 1186 := rfl
theorem e66 : m_d 1187 66 100 48 := ⟨rfl, by decide, by decide⟩
theorem mr66 (c : h_C) (m : h_M) : p_R (h_H c m) 1125 66 = 1187 := rfl
theorem e67 : m_d 1188 67 100 48 := ⟨rfl, by decide, by decide⟩
theorem mr67 (c : h_C) (m : h_M) : p_R (h_H c m) 1125 67 = 1188 := rfl
theorem e74 : m_d 1189 74 100 40 := ⟨rfl, by decide, by decide⟩
theorem mr74 (c : h_C) (m : h_M) : p_R (h_H c m) 1125 74 = 1189 := rfl
theorem e79 : m_d 1190 79 100 8 := ⟨rfl, by decide, by decide⟩
theorem mr79 (c : h_C) (m : h_M) : p_R (h_H c m) 1125 79 = 1190 := rfl
theorem e81 : m_d 1191 81 100 3 := ⟨rfl, by decide, by decide⟩
theorem mr81 (c : h_C) (m : h_M) : p_R (h_H c m) 1125 81 = 1191 := rfl
theorem e82 : m_d 1192 82 100 3 := ⟨rfl, by decide, by decide⟩
theorem mr82 (c : h_C) (m : h_M) : p_R (h_H c m) 1125 82 = 1192 := rfl
theorem e83 : m_d 1193 83 100 234000 := ⟨rfl, by decide, by decide⟩
theorem mr83 (c : h_C) (m : h_M) : p_R (h_H c m) 1125 83 = 1193 := rfl
theorem e88 : m_d 1194 88 100 40 := ⟨rfl, by decide, by decide⟩
theorem mr88 (c : h_C) (m : h_M) : p_R (h_H c m) 1125 88 = 1194 := rfl
/-! ===== how functions over rows are held against those over the heap ===== -/
def q_bd {α σ β : Type} (x : Option (α × σ)) (k : α → σ → Option β) : Option β := match x with
  | none => none
  | some q => k q.1 q.2
def q_bv {σ β : Type} (x : Option σ) (k : σ → Option β) : Option β := match x with
  | none => none
  | some q => k q
theorem q_bdE {α σ β : Type} {x : Option (α × σ)} {k : α → σ → Option β} {r : β} (h : q_bd x k = some r) : ∃ a s, x = some (a, s) ∧ k a s = some r := by
  cases x with
  | none => cases h
  | some q => exact ⟨q.1, q.2, rfl, h⟩
theorem q_bvE {σ β : Type} {x : Option σ} {k : σ → Option β} {r : β} (h : q_bv x k = some r) : ∃ s, x = some s ∧ k s = some r := by
  cases x with
  | none => cases h
  | some q => exact ⟨q, rfl, h⟩
theorem gdT {β : Type} {c : Prop} [Decidable c] {x r : Option β} (hc : c) (h : x = r) : p_gd c x = r := by
  unfold p_gd
  rw [if_pos hc]
  exact h
theorem bV {α β γ : Type} {e : α} {k : α → Option β} {k' : α → Option γ} {r : Option β} {r' : γ} (h : p_bi e k' = some r') (hk : ∀ x, k' x = some r' → k x = r) : p_bi e k = r := hk e h
theorem bX {α β : Type} {e : α} {k : α → Option β} {r : Option β} (h : k e = r) : p_bi e k = r := h
theorem bS {β γ : Type} {e : p_Hp} {e' : h_C} {m : h_M} {k : p_Hp → Option β} {k' : h_C → Option γ} {r : Option β} {r' : γ} (he : e = h_H e' m) (h : p_bi e' k' = some r') (hk : ∀ c, k' c = some r' → k (h_H c m) = r) : p_bi e k = r := by
  subst he
  exact hk e' h
theorem bM {β γ : Type} {e : p_Hp} {e' : h_M} {c : h_C} {k : p_Hp → Option β} {k' : h_M → Option γ} {r : Option β} {r' : γ} (he : e = h_H c e') (h : p_bi e' k' = some r') (hk : ∀ m, k' m = some r' → k (h_H c m) = r) : p_bi e k = r := by
  subst he
  exact hk e' h
theorem bdC {α β : Type} {x : Option (α × p_Hp)} {a : α} {s : p_Hp} {k : α → p_Hp → Option β} {r : Option β} (hx : x = some (a, s)) (h : k a s = r) : p_bd x k = r := by
  subst hx
  exact h
theorem bvC {β : Type} {x : Option p_Hp} {s : p_Hp} {k : p_Hp → Option β} {r : Option β} (hx : x = some s) (h : k s = r) : p_bv x k = r := by
  subst hx
  exact h
theorem iteC {β γ : Type} {c c' : Prop} [Decidable c] [Decidable c'] {x y r : Option β} {x' y' : Option γ} {r' : γ} (hc : c ↔ c') (h : (if c' then x' else y') = some r') (h1 : c' → x' = some r' → x = r) (h2 : ¬ c' → y' = some r' → y = r) : (if c then x else y) = r := by
  by_cases b : c'
  · rw [if_pos b] at h
    rw [if_pos (hc.mpr b)]
    exact h1 b h
  · rw [if_neg b] at h
    rw [if_neg (fun w => b (hc.mp w))]
    exact h2 b h
theorem fillI_0 (m : h_M) {a f j n : Nat} (d : h_d a f j 100 n) (hn : n < 2000) (x : Int) : ∀ (q i fu : Nat) (c : h_C), i + q = n → q < fu → O_Ar_fill_0_5 fu a x (i : Int) (n : Int) (h_H c m) = some (h_H (sr c f j (fun k => if i ≤ k ∧ k < n then x else c f j k)) m) := by
  intro q
  induction q with
  | zero =>
    intro i fu c hi hf
    obtain ⟨fu, rfl⟩ : ∃ g, fu = g + 1 := ⟨fu - 1, by omega⟩
    show L_Ar_fill_0_5 _ a x (i : Int) (n : Int) (h_H c m) = _
    unfold L_Ar_fill_0_5
    rw [if_pos (by omega)]
    congr 2
    funext g
    unfold sr
    split
    · next h => subst h; funext i'; split
                · next h => subst h; funext k; rw [if_neg (by omega)]
                · rfl
    · rfl
  | succ q ih =>
    intro i fu c hi hf
    obtain ⟨fu, rfl⟩ : ∃ g, fu = g + 1 := ⟨fu - 1, by omega⟩
    show L_Ar_fill_0_5 _ a x (i : Int) (n : Int) (h_H c m) = _
    unfold L_Ar_fill_0_5
    rw [if_neg (by omega)]
    refine gdT (isD c m d) (gdT ⟨by omega, by rw [lenD c m d]; omega⟩ ?_)
    refine bX ?_
    rw [wA c m d (by decide), Int.toNat_natCast]
    refine bX ?_
    rw [p_w_id ⟨by omega, by omega⟩, show (i : Int) + 1 = ((i + 1 : Nat) : Int) by omega]
    rw [ih (i + 1) fu _ (by omega) (by omega)]
    congr 2
    funext g
    unfold wc sr
    by_cases hg : g = f
    · subst hg
      rw [if_pos rfl, if_pos rfl]
      funext i'
      by_cases hi' : i' = j
      · subst hi'
        rw [if_pos rfl, if_pos rfl]
        funext k
        rw [if_pos rfl, if_pos rfl]
        unfold up
        by_cases h1 : i + 1 ≤ k ∧ k < n
        · rw [if_pos h1, if_pos ⟨by omega, h1.2⟩]
        · rw [if_neg h1]
          by_cases h2 : k = i
          · rw [if_pos h2, if_pos ⟨by omega, by omega⟩]
          · rw [if_neg h2, if_neg (by omega)]
      · rw [if_neg hi', if_neg hi', if_pos rfl, if_neg hi']
    · rw [if_neg hg, if_neg hg, if_neg hg]
theorem fillI (c : h_C) (m : h_M) {a f j n : Nat} (d : h_d a f j 100 n) (hn : n < 2000) (x : Int) : F_Ar_fill_0 a x (h_H c m) = some (h_H (sr c f j (fl (c f j) n x)) m) := by
  unfold F_Ar_fill_0
  refine gdT (isD c m d) (bX ?_)
  rw [lenD c m d]
  have h := fillI_0 m d hn x n 0 3000 c (by omega) (by omega)
  rw [show ((0 : Nat) : Int) = 0 from rfl] at h
  rw [h]
  unfold fl
  congr 3
  funext k
  by_cases h1 : k < n
  · rw [if_pos ⟨by omega, h1⟩, if_pos h1]
  · rw [if_neg (by omega), if_neg h1]
theorem fillJ_0 (m : h_M) {a f j n : Nat} (d : h_d a f j 101 n) (hn : n < 2000) (x : Int) : ∀ (q i fu : Nat) (c : h_C), i + q = n → q < fu → O_Ar_fill_1_6 fu a x (i : Int) (n : Int) (h_H c m) = some (h_H (sr c f j (fun k => if i ≤ k ∧ k < n then x else c f j k)) m) := by
  intro q
  induction q with
  | zero =>
    intro i fu c hi hf
    obtain ⟨fu, rfl⟩ : ∃ g, fu = g + 1 := ⟨fu - 1, by omega⟩
    show L_Ar_fill_1_6 _ a x (i : Int) (n : Int) (h_H c m) = _
    unfold L_Ar_fill_1_6
    rw [if_pos (by omega)]
    congr 2
    funext g
    unfold sr
    split
    · next h => subst h; funext i'; split
                · next h => subst h; funext k; rw [if_neg (by omega)]
                · rfl
    · rfl
  | succ q ih =>
    intro i fu c hi hf
    obtain ⟨fu, rfl⟩ : ∃ g, fu = g + 1 := ⟨fu - 1, by omega⟩
    show L_Ar_fill_1_6 _ a x (i : Int) (n : Int) (h_H c m) = _
    unfold L_Ar_fill_1_6
    rw [if_neg (by omega)]
    refine gdT (isD c m d) (gdT ⟨by omega, by rw [lenD c m d]; omega⟩ ?_)
    refine bX ?_
    rw [wA c m d (by decide), Int.toNat_natCast]
    refine bX ?_
    rw [p_w_id ⟨by omega, by omega⟩, show (i : Int) + 1 = ((i + 1 : Nat) : Int) by omega]
    rw [ih (i + 1) fu _ (by omega) (by omega)]
    congr 2
    funext g
    unfold wc sr
    by_cases hg : g = f
    · subst hg
      rw [if_pos rfl, if_pos rfl]
      funext i'
      by_cases hi' : i' = j
      · subst hi'
        rw [if_pos rfl, if_pos rfl]
        funext k
        rw [if_pos rfl, if_pos rfl]
        unfold up
        by_cases h1 : i + 1 ≤ k ∧ k < n
        · rw [if_pos h1, if_pos ⟨by omega, h1.2⟩]
        · rw [if_neg h1]
          by_cases h2 : k = i
          · rw [if_pos h2, if_pos ⟨by omega, by omega⟩]
          · rw [if_neg h2, if_neg (by omega)]
      · rw [if_neg hi', if_neg hi', if_pos rfl, if_neg hi']
    · rw [if_neg hg, if_neg hg, if_neg hg]
theorem fillJ (c : h_C) (m : h_M) {a f j n : Nat} (d : h_d a f j 101 n) (hn : n < 2000) (x : Int) : F_Ar_fill_1 a x (h_H c m) = some (h_H (sr c f j (fl (c f j) n x)) m) := by
  unfold F_Ar_fill_1
  refine gdT (isD c m d) (bX ?_)
  rw [lenD c m d]
  have h := fillJ_0 m d hn x n 0 3000 c (by omega) (by omega)
  rw [show ((0 : Nat) : Int) = 0 from rfl] at h
  rw [h]
  unfold fl
  congr 3
  funext k
  by_cases h1 : k < n
  · rw [if_pos ⟨by omega, h1⟩, if_pos h1]
  · rw [if_neg (by omega), if_neg h1]
