/-! ===== leaves made at their places ===== -/
theorem cellW {w o : Nat} (hw : w < 3) (ho : o < 369) : h_D (3 + 369 * w + o) = h_W w o := by
  unfold h_D
  rw [if_pos (by omega), show (3 + 369 * w + o - 3) / 369 = w by omega, show (3 + 369 * w + o - 3) % 369 = o by omega]
theorem cell {w o t n : Nat} (hw : w < 3) (ho : o < 369) (e : (h_W w o).2.2 = (t, n)) : h_T (3 + 369 * w + o) = t ∧ h_L (3 + 369 * w + o) = n := by
  unfold h_T h_L
  rw [if_neg (by omega), if_pos (by omega), if_neg (by omega), if_pos (by omega), cellW hw ho, e]
  exact ⟨rfl, rfl⟩
theorem n369 {w x : Nat} (h1 : 3 + 369 * w ≤ x) (h2 : x < 369 + 369 * w) : x % 369 ≠ 0 := by omega
theorem cW_g {w g : Nat} (hg : g < 40) : h_W w (14 + 5 * g) = (0, 40 * w + g + 1, 0, 20) ∧ h_W w (15 + 5 * g) = (2010, 40 * w + g + 1, 100, 3) ∧ h_W w (16 + 5 * g) = (2011, 40 * w + g + 1, 101, 3) ∧ h_W w (17 + 5 * g) = (2012, 40 * w + g + 1, 100, 8) ∧ h_W w (18 + 5 * g) = (2013, 40 * w + g + 1, 100, 330) := by
  unfold h_W
  refine ⟨?_, ?_, ?_, ?_, ?_⟩
  · rw [if_pos (by omega), if_pos (by omega), show (14 + 5 * g - 14) / 5 = g by omega]
  · rw [if_pos (by omega), if_neg (by omega), if_pos (by omega), show (15 + 5 * g - 14) / 5 = g by omega]
  · rw [if_pos (by omega), if_neg (by omega), if_neg (by omega), if_pos (by omega), show (16 + 5 * g - 14) / 5 = g by omega]
  · rw [if_pos (by omega), if_neg (by omega), if_neg (by omega), if_neg (by omega), if_pos (by omega), show (17 + 5 * g - 14) / 5 = g by omega]
  · rw [if_pos (by omega), if_neg (by omega), if_neg (by omega), if_neg (by omega), if_neg (by omega), show (18 + 5 * g - 14) / 5 = g by omega]
theorem cW_p {w p : Nat} (h1 : 1 ≤ p) (h2 : p ≤ 30) : h_W w (210 + 4 * p) = (100, 31 * w + p, 4, 14) ∧ h_W w (211 + 4 * p) = (2014, 31 * w + p, 100, 16) ∧ h_W w (212 + 4 * p) = (2015, 31 * w + p, 100, 12) ∧ h_W w (213 + 4 * p) = (2016, 31 * w + p, 100, 1110) := by
  unfold h_W
  refine ⟨?_, ?_, ?_, ?_⟩
  · rw [if_neg (by omega), if_pos (by omega), if_pos (by omega), show (210 + 4 * p - 210) / 4 = p by omega]
  · rw [if_neg (by omega), if_pos (by omega), if_neg (by omega), if_pos (by omega), show (211 + 4 * p - 210) / 4 = p by omega]
  · rw [if_neg (by omega), if_pos (by omega), if_neg (by omega), if_neg (by omega), if_pos (by omega), show (212 + 4 * p - 210) / 4 = p by omega]
  · rw [if_neg (by omega), if_pos (by omega), if_neg (by omega), if_neg (by omega), if_neg (by omega), show (213 + 4 * p - 210) / 4 = p by omega]
theorem zero_c0 {f i : Nat} (hf : f % 100 = 0) (h : f ≠ 0 ∧ f ≠ 100 ∧ f ≠ 200 ∧ f ≠ 400) (h2 : f < 2000) (j : Nat) : (0 : Int) = if j < 100 then c0 (f + j) i 0 else 0 := by
  by_cases hj : j < 100
  · rw [if_pos hj, c0_0 (by omega)]
  · rw [if_neg hj]
theorem ch_gear {w g : Nat} (hw : w < 3) (hg : g < 40) (jt jl : Nat) : Ch F_Gear_init (3 + 369 * w + (14 + 5 * g)) (3 + 369 * w + (18 + 5 * g)) 344 jt jl jt jl := by
  intro s h h0
  obtain ⟨a0, a1, a2, a3, a4⟩ := cW_g (w := w) hg
  have hT := (cell hw (by omega) (show (h_W w (14 + 5 * g)).2.2 = (0, 20) by rw [a0])).1
  have k1 := cell hw (by omega) (show (h_W w (15 + 5 * g)).2.2 = (100, 3) by rw [a1])
  have k2 := cell hw (by omega) (show (h_W w (16 + 5 * g)).2.2 = (101, 3) by rw [a2])
  have k3 := cell hw (by omega) (show (h_W w (17 + 5 * g)).2.2 = (100, 8) by rw [a3])
  have k4 := cell hw (by omega) (show (h_W w (18 + 5 * g)).2.2 = (100, 330) by rw [a4])
  have hk : bk lGe (3 + 369 * w + (14 + 5 * g)) := by
    refine ⟨?_, ?_, ?_, ?_, trivial⟩
    · rw [show 3 + 369 * w + (14 + 5 * g) + 1 = 3 + 369 * w + (15 + 5 * g) by omega]; exact k1
    · rw [show 3 + 369 * w + (14 + 5 * g) + 1 + 1 = 3 + 369 * w + (16 + 5 * g) by omega]; exact k2
    · rw [show 3 + 369 * w + (14 + 5 * g) + 1 + 1 + 1 = 3 + 369 * w + (17 + 5 * g) by omega]; exact k3
    · rw [show 3 + 369 * w + (14 + 5 * g) + 1 + 1 + 1 + 1 = 3 + 369 * w + (18 + 5 * g) by omega]; exact k4
  refine ⟨_, f_gear h (by omega) hT, ?_⟩
  have := mk_bo h hk (f := 0) (i := 40 * w + g + 1) (t := 0) (n := 20) ⟨by rw [cellW hw (by omega), a0], by omega, by omega⟩ (by decide) (by omega) h0 ?_ ?_ ?_ ?_
  · rw [show 3 + 369 * w + (14 + 5 * g) + bn lGe = 3 + 369 * w + (18 + 5 * g) by show _ + 4 = _; omega] at this
    exact this
  · intro j
    show (if j = 18 then (3 + 369 * w + (14 + 5 * g)) + 4 else if j = 17 then (3 + 369 * w + (14 + 5 * g)) + 3 else if j = 5 then (3 + 369 * w + (14 + 5 * g)) + 2 else if j = 4 then (3 + 369 * w + (14 + 5 * g)) + 1 else 0) = (if j = 4 then (3 + 369 * w + (14 + 5 * g)) + 1 else if j = 5 then (3 + 369 * w + (14 + 5 * g)) + 2 else if j = 17 then (3 + 369 * w + (14 + 5 * g)) + 3 else if j = 18 then (3 + 369 * w + (14 + 5 * g)) + 4 else 0)
    repeat' split
    all_goals omega
  · intro j
    show (if j = 19 then (-1 : Int) else if j = 15 then -1 else if j = 3 then -1 else 0) = _
    by_cases e : j = 3 ∨ j = 15 ∨ j = 19
    · unfold c0
      rcases e with rfl | rfl | rfl <;> simp
    · rw [if_neg (by omega), if_neg (by omega), if_neg (by omega)]
      by_cases hj : j < 100
      · rw [if_pos hj, c0_0 (by omega)]
      · rw [if_neg hj]
  · decide
  · intro b h1 h2
    have : bn lGe = 4 := rfl
    exact ⟨by omega, n369 (w := w) (by omega) (by omega)⟩
theorem ch_parcel {w p : Nat} (hw : w < 3) (h1 : 1 ≤ p) (h2 : p ≤ 30) (jt jl : Nat) : Ch (fun v s => F_Parcel_init v (p : Int) s) (3 + 369 * w + (210 + 4 * p)) (3 + 369 * w + (213 + 4 * p)) 1138 jt jl jt jl := by
  intro s h h0
  obtain ⟨a0, a1, a2, a3⟩ := cW_p (w := w) h1 h2
  have hT := (cell hw (by omega) (show (h_W w (210 + 4 * p)).2.2 = (4, 14) by rw [a0])).1
  have k1 := cell hw (by omega) (show (h_W w (211 + 4 * p)).2.2 = (100, 16) by rw [a1])
  have k2 := cell hw (by omega) (show (h_W w (212 + 4 * p)).2.2 = (100, 12) by rw [a2])
  have k3 := cell hw (by omega) (show (h_W w (213 + 4 * p)).2.2 = (100, 1110) by rw [a3])
  have hk : bk (lPa (p : Int)) (3 + 369 * w + (210 + 4 * p)) := by
    refine ⟨?_, ?_, ?_, trivial⟩
    · rw [show 3 + 369 * w + (210 + 4 * p) + 1 = 3 + 369 * w + (211 + 4 * p) by omega]; exact k1
    · rw [show 3 + 369 * w + (210 + 4 * p) + 1 + 1 = 3 + 369 * w + (212 + 4 * p) by omega]; exact k2
    · rw [show 3 + 369 * w + (210 + 4 * p) + 1 + 1 + 1 = 3 + 369 * w + (213 + 4 * p) by omega]; exact k3
  refine ⟨_, f_parcel h (by omega) hT _ hk, ?_⟩
  have := mk_bo h hk (f := 100) (i := 31 * w + p) (t := 4) (n := 14) ⟨by rw [cellW hw (by omega), a0], by omega, by omega⟩ (by decide) (by omega) h0 ?_ ?_ ?_ ?_
  · rw [show 3 + 369 * w + (210 + 4 * p) + bn (lPa (p : Int)) = 3 + 369 * w + (213 + 4 * p) by show _ + 3 = _; omega] at this
    exact this
  · intro j
    show (if j = 13 then (3 + 369 * w + (210 + 4 * p)) + 3 else if j = 12 then (3 + 369 * w + (210 + 4 * p)) + 2 else if j = 10 then (3 + 369 * w + (210 + 4 * p)) + 1 else 0) = (if j = 10 then (3 + 369 * w + (210 + 4 * p)) + 1 else if j = 12 then (3 + 369 * w + (210 + 4 * p)) + 2 else if j = 13 then (3 + 369 * w + (210 + 4 * p)) + 3 else 0)
    repeat' split
    all_goals omega
  · intro j
    show (if j = 0 then (p : Int) else 0) = _
    by_cases e : j = 0
    · subst e
      rw [if_pos rfl, if_pos (by decide)]
      unfold c0
      rw [if_neg (by decide), if_pos rfl, if_pos rfl]
      congr 1
      omega
    · rw [if_neg e]
      by_cases hj : j < 100
      · rw [if_pos hj, c0_0 (by omega)]
      · rw [if_neg hj]
  · intro o ho hq
    simp only [lPa, List.mem_cons, List.not_mem_nil, or_false] at ho
    rcases ho with rfl | rfl | rfl | rfl
    · exact Or.inl rfl
    · exact Or.inl rfl
    · exact Or.inl rfl
    · exact (Bool.false_ne_true hq).elim
  · intro b h3 h4
    have : bn (lPa (p : Int)) = 3 := rfl
    exact ⟨by omega, n369 (w := w) (by omega) (by omega)⟩
theorem ch_log0 {w : Nat} (hw : w < 3) (jt jl : Nat) : Ch (fun v s => F_Log_init v 40 5 s) (3 + 369 * w + 5) (3 + 369 * w + 8) 6230 jt jl jt jl := by
  intro s h h0
  have hT := (cell hw (by omega) (show (h_W w 5).2.2 = (2, 6) from rfl)).1
  have hk : bk (lLo ((40 : Nat) : Int) 5 40) (3 + 369 * w + 5) := ⟨cell hw (by omega) (show (h_W w 6).2.2 = (100, 30) from rfl), cell hw (by omega) (show (h_W w 7).2.2 = (100, 200) from rfl), cell hw (by omega) (show (h_W w 8).2.2 = (100, 6000) from rfl), trivial⟩
  refine ⟨_, f_log h (by omega) hT 5 40 (Or.inl rfl) hk, ?_⟩
  have := mk_bo h hk (f := 400) (i := 2 * w) (t := 2) (n := 6) ⟨by rw [cellW hw (by omega)]; rfl, by omega, by omega⟩ (by decide) (by omega) h0 ?_ ?_ ?_ ?_
  · exact this
  · intro j
    show (if j = 4 then (3 + 369 * w + 5) + 3 else if j = 2 then (3 + 369 * w + 5) + 2 else if j = 5 then (3 + 369 * w + 5) + 1 else 0) = (if j = 5 then (3 + 369 * w + 5) + 1 else if j = 2 then (3 + 369 * w + 5) + 2 else if j = 4 then (3 + 369 * w + 5) + 3 else 0)
    repeat' split
    all_goals omega
  · intro j
    show (if j = 1 then (5 : Int) else if j = 0 then ((40 : Nat) : Int) else 0) = _
    by_cases e : j = 0 ∨ j = 1
    · unfold c0
      rcases e with rfl | rfl <;> simp
    · rw [if_neg (by omega), if_neg (by omega)]
      by_cases hj : j < 100
      · rw [if_pos hj, c0_0 (by omega)]
      · rw [if_neg hj]
  · decide
  · intro b h3 h4
    have : bn (lLo ((40 : Nat) : Int) 5 40) = 3 := rfl
    omega
theorem ch_log1 {w : Nat} (hw : w < 3) (jt jl : Nat) : Ch (fun v s => F_Log_init v 30 4 s) (3 + 369 * w + 9) (3 + 369 * w + 12) 4680 jt jl jt jl := by
  intro s h h0
  have hT := (cell hw (by omega) (show (h_W w 9).2.2 = (2, 6) from rfl)).1
  have hk : bk (lLo ((30 : Nat) : Int) 4 30) (3 + 369 * w + 9) := ⟨cell hw (by omega) (show (h_W w 10).2.2 = (100, 30) from rfl), cell hw (by omega) (show (h_W w 11).2.2 = (100, 150) from rfl), cell hw (by omega) (show (h_W w 12).2.2 = (100, 4500) from rfl), trivial⟩
  refine ⟨_, f_log h (by omega) hT 4 30 (Or.inr rfl) hk, ?_⟩
  have := mk_bo h hk (f := 400) (i := 2 * w + 1) (t := 2) (n := 6) ⟨by rw [cellW hw (by omega)]; rfl, by omega, by omega⟩ (by decide) (by omega) h0 ?_ ?_ ?_ ?_
  · exact this
  · intro j
    show (if j = 4 then (3 + 369 * w + 9) + 3 else if j = 2 then (3 + 369 * w + 9) + 2 else if j = 5 then (3 + 369 * w + 9) + 1 else 0) = (if j = 5 then (3 + 369 * w + 9) + 1 else if j = 2 then (3 + 369 * w + 9) + 2 else if j = 4 then (3 + 369 * w + 9) + 3 else 0)
    repeat' split
    all_goals omega
  · intro j
    show (if j = 1 then (4 : Int) else if j = 0 then ((30 : Nat) : Int) else 0) = _
    by_cases e : j = 0 ∨ j = 1
    · unfold c0
      rcases e with rfl | rfl <;> simp <;> omega
    · rw [if_neg (by omega), if_neg (by omega)]
      by_cases hj : j < 100
      · rw [if_pos hj, c0_0 (by omega)]
      · rw [if_neg hj]
  · decide
  · intro b h3 h4
    have : bn (lLo ((30 : Nat) : Int) 4 30) = 3 := rfl
    omega
theorem ch_rulesG {v i : Nat} (h1 : 1 ≤ v) (hD : h_D v = (500, i, 6, 9)) (hv : v + 7 ≤ 1124) (hv2 : v ≠ 1 ∧ v ≠ 1112 ∧ v ≠ 1115) (hb : ∀ b, v < b → b ≤ v + 7 → b % 369 ≠ 0) (hk : bk lRu v) (jt jl : Nat) : Ch F_Rules_init v (v + 7) 416 jt jl jt jl := by
  intro s h h0
  have hT : h_T v = 6 := by unfold h_T; rw [if_neg (by omega), if_pos (by omega), hD]
  refine ⟨_, f_rules h h1 hT hk, ?_⟩
  refine mk_bo h hk (f := 500) (i := i) (t := 6) (n := 9) ⟨hD, by omega, by omega⟩ (by decide) hv2 h0 ?_ ?_ ?_ ?_
  · intro j
    show (if j = 7 then v + 7 else if j = 6 then v + 6 else if j = 5 then v + 5 else if j = 4 then v + 4 else if j = 3 then v + 3 else if j = 2 then v + 2 else if j = 1 then v + 1 else 0) = (if 1 ≤ j ∧ j ≤ 7 then v + j else 0)
    repeat' split
    all_goals omega
  · intro j
    exact zero_c0 (by decide) (by decide) (by decide) j
  · decide
  · intro b h3 h4
    have e : bn lRu = 7 := rfl
    exact ⟨by omega, hb b h3 (by omega)⟩
theorem ch_rules {w : Nat} (hw : w < 3) (jt jl : Nat) : Ch F_Rules_init (3 + 369 * w + 334) (3 + 369 * w + 341) 416 jt jl jt jl := by
  refine ch_rulesG (i := w) (by omega) (by rw [cellW hw (by omega)]; rfl) (by omega) (by omega) (fun b h1 h2 => by omega) ?_ jt jl
  exact ⟨cell hw (by omega) (show (h_W w 335).2.2 = (100, 12) from rfl), cell hw (by omega) (show (h_W w 336).2.2 = (100, 12) from rfl), cell hw (by omega) (show (h_W w 337).2.2 = (100, 48) from rfl), cell hw (by omega) (show (h_W w 338).2.2 = (100, 48) from rfl), cell hw (by omega) (show (h_W w 339).2.2 = (100, 48) from rfl), cell hw (by omega) (show (h_W w 340).2.2 = (100, 48) from rfl), cell hw (by omega) (show (h_W w 341).2.2 = (100, 200) from rfl), trivial⟩
theorem ch_rules3 (jt jl : Nat) : Ch F_Rules_init 1116 1123 416 jt jl jt jl := by
  refine ch_rulesG (i := 3) (by omega) (by decide +kernel) (by omega) (by omega) (fun b h1 h2 => by omega) ?_ jt jl
  exact ⟨⟨by decide +kernel, by decide +kernel⟩, ⟨by decide +kernel, by decide +kernel⟩, ⟨by decide +kernel, by decide +kernel⟩, ⟨by decide +kernel, by decide +kernel⟩, ⟨by decide +kernel, by decide +kernel⟩, ⟨by decide +kernel, by decide +kernel⟩, ⟨by decide +kernel, by decide +kernel⟩, trivial⟩
theorem ch_numbers (jt jl : Nat) : Ch F_Numbers_init 1110 1111 2001 jt jl jt jl := by
  intro s h h0
  have hk : bk lNu 1110 := ⟨⟨by decide +kernel, by decide +kernel⟩, trivial⟩
  refine ⟨_, f_numbers h (by omega) (by decide +kernel) hk, ?_⟩
  refine mk_bo h hk (f := 700) (i := 0) (t := 3) (n := 2) ⟨by decide +kernel, by omega, by omega⟩ (by decide) (by omega) h0 ?_ ?_ ?_ ?_
  · intro j
    show (if j = 0 then 1110 + 1 else 0) = (if j = 0 then 1111 else 0)
    repeat' split
    all_goals omega
  · intro j
    exact zero_c0 (by decide) (by decide) (by decide) j
  · decide
  · intro b h3 h4
    have e : bn lNu = 1 := rfl
    omega
theorem ch_reading (jt jl : Nat) : Ch F_Reading_init 1113 1114 8 jt jl jt jl := by
  intro s h h0
  have hk : bk lRe 1113 := ⟨⟨by decide +kernel, by decide +kernel⟩, trivial⟩
  refine ⟨_, f_reading h (by omega) (by decide +kernel) hk, ?_⟩
  refine mk_bo h hk (f := 900) (i := 0) (t := 5) (n := 5) ⟨by decide +kernel, by omega, by omega⟩ (by decide) (by omega) h0 ?_ ?_ ?_ ?_
  · intro j
    show (if j = 4 then 1113 + 1 else 0) = (if j = 4 then 1114 else 0)
    repeat' split
    all_goals omega
  · intro j
    exact zero_c0 (by decide) (by decide) (by decide) j
  · decide
  · intro b h3 h4
    have e : bn lRe = 1 := rfl
    omega
