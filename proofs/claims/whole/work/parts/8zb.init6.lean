/-! ===== a works made ===== -/
theorem St.nw2 {v N M jt jl n k N' f i : Nat} {s0 s : p_Hp} {O : List Nat} {F : Nat → Nat → Nat} {G : Nat → Nat → Int} (h : St v N M jt jl s0 s O F G) (hN : N + 1 = N') (hd : h_d N' f i 103 n) (hf : f ≠ 3 ∧ f ≠ 15 ∧ f ≠ 19 ∧ f ≠ 100 ∧ f ≠ 200 ∧ f ≠ 400 ∧ f ≠ 401 ∧ f ≠ 2036 ∧ f ≠ 5002 ∧ f ≠ 5003) (h1' : N' ≠ 1 ∧ N' ≠ 1112 ∧ N' ≠ 1115) (hc : ∀ x, x < n → h_T (N' + 1 + x) = 100 ∧ h_L (N' + 1 + x) = k) (hb : ∀ b, N' < b → b ≤ N' + n → b ≤ 1124 ∧ b % 369 ≠ 0) (hv : v ≤ N') {β : Type} {K : p_Hp → Option β} {P : β → Prop} (hk : ∀ s', p_N s = N → St v (N' + n) (M + (n + n * k)) 100 k s0 s' O F G → ∃ r, K s' = some r ∧ P r) : ∃ r, p_bi (p_nw2 s n k) K = some r ∧ P r := by
  subst hN
  obtain ⟨h1, h2, h3, h4, h5⟩ := h
  have eN : s.1 = N := h1.1
  obtain ⟨d1, d2, d3⟩ := id hd
  have hT : h_T (N + 1) = 103 := by unfold h_T; rw [if_neg d2, if_pos d3, d1]
  have hL : h_L (N + 1) = n := by unfold h_L; rw [if_neg d2, if_pos d3, d1]
  have aZ : ∀ b j, p_Z (p_nw2 s n k) b j = if b ≤ N then p_Z s b j else 0 := fun b j => by rw [← eN]; rfl
  have aR : ∀ b j, p_R (p_nw2 s n k) b j = if b ≤ N then p_R s b j else if b = N + 1 ∧ j < n then N + 2 + j else 0 := fun b j => by rw [← eN]; rfl
  have aT : ∀ b, (p_nw2 s n k).2.2.1 b = if b ≤ N then s.2.2.1 b else if b = N + 1 then 103 else 100 := fun b => by rw [← eN]; rfl
  have aL : ∀ b, (p_nw2 s n k).2.2.2.1 b = if b ≤ N then s.2.2.2.1 b else if b = N + 1 then n else k := fun b => by rw [← eN]; rfl
  rw [bi1]
  refine hk _ eN ⟨⟨?_, fun b hb1 => ?_, fun b hb1 => ⟨?_, ?_, fun j => ⟨?_, ?_⟩⟩⟩, ?_, fun b j hb1 => ?_, fun b hb1 => ⟨(h4 b hb1).1, by have := (h4 b hb1).2.1; omega, fun j => ?_⟩, fun b g1 g2 g3 => ?_⟩
  · show s.1 + 1 + n = _
    rw [eN]
  · rw [aT, aL]
    by_cases e : b ≤ N
    · rw [if_pos e, if_pos e]; exact h1.2.1 b e
    · rw [if_neg e, if_neg e]
      by_cases e2 : b = N + 1
      · rw [if_pos e2, if_pos e2, e2, hT, hL]; exact ⟨rfl, rfl⟩
      · rw [if_neg e2, if_neg e2]
        have := hc (b - (N + 2)) (by omega)
        rw [show N + 1 + 1 + (b - (N + 2)) = b by omega] at this
        exact ⟨this.1.symm, this.2.symm⟩
  · rw [aT, if_neg (by omega), if_neg (by omega)]
  · rw [aL, if_neg (by omega), if_neg (by omega)]
  · show p_Z _ b j = 0
    rw [aZ, if_neg (by omega)]
  · show p_R _ b j = 0
    rw [aR, if_neg (by omega), if_neg (by omega)]
  · show p_M s + n + n * k = _
    rw [h2]; omega
  · by_cases e : b ≤ N
    · rw [aZ, aR, if_pos e, if_pos e]; exact h3 b j hb1
    · omega
  · have e := (h4 b hb1).2.1
    rw [aZ, aR, if_pos e, if_pos e]
    exact (h4 b hb1).2.2 j
  · by_cases e : b ≤ N
    · intro j
      rw [aZ, aR, if_pos e, if_pos e]
      exact h5 b g1 e g3 j
    · by_cases e2 : b = N + 1
      · subst e2
        intro j
        rw [aZ, aR, if_neg e, if_neg e, cellZ hd, cellR hd h1', if_neg (by decide), c0_0 hf]
        refine ⟨rfl, ?_⟩
        show _ = if j < h_L (N + 1) then N + 1 + 1 + j else 0
        rw [hL]
        by_cases ej : j < n
        · rw [if_pos ⟨rfl, ej⟩, if_pos ej]
        · rw [if_neg (fun w => ej w.2), if_neg ej]
      · have q := hc (b - (N + 2)) (by omega)
        rw [show N + 1 + 1 + (b - (N + 2)) = b by omega] at q
        have q2 := hb b (by omega) g2
        refine Dn.arr2 (by omega) q2.1 q2.2 (Or.inl q.1) (fun j => ?_)
        rw [aZ, aR, if_neg e, if_neg e, if_neg (by omega)]
        exact ⟨rfl, rfl⟩
theorem cW_2 {w x : Nat} (hx : x < 16) : (h_W w (343 + x)).2.2 = (100, 4) := by
  unfold h_W
  rw [if_neg (by omega), if_neg (by omega), if_neg (by omega), if_neg (by omega), if_neg (by omega), if_neg (by omega), if_neg (by omega), if_neg (by omega), if_neg (by omega), if_neg (by omega), if_neg (by omega), if_neg (by omega), if_neg (by omega), if_neg (by omega), if_neg (by omega), if_neg (by omega), if_neg (by omega), if_neg (by omega), if_neg (by omega), if_neg (by omega), if_neg (by omega), if_neg (by omega), if_neg (by omega), if_neg (by omega), if_neg (by omega), if_pos (by omega)]
theorem cW_3 {w x : Nat} (hx : x < 4) : (h_W w (361 + x)).2.2 = (100, 8) := by
  rcases (show x = 0 ∨ x = 1 ∨ x = 2 ∨ x = 3 by omega) with rfl | rfl | rfl | rfl <;> rfl
theorem ch_works {w : Nat} (hw : w < 3) (jt jl : Nat) : Ch (fun v s => F_Works_init v (w : Int) s) (3 + 369 * w) (3 + 369 * w + 368) 61280 jt jl 100 8 := by
  intro s h h0
  show ∃ r, F_Works_init (3 + 369 * w) (w : Int) s = some r ∧ _
  have q := St.start h h0
  unfold F_Works_init
  rw [show (16 : Int).toNat = 16 from rfl, show (4 : Int).toNat = 4 from rfl, show (8 : Int).toNat = 8 from rfl, show (0 : Int).toNat = 0 from rfl, show (1 : Int).toNat = 1 from rfl, show (2 : Int).toNat = 2 from rfl, show (3 : Int).toNat = 3 from rfl]
  refine c_gd (by omega) ?_
  refine q.obj (N' := 3 + 369 * w + 1) (by omega) (cell hw (by omega) rfl) (ch_state hw jt jl) (by omega) (by omega) ?_
  intro s1 e q
  rw [e]
  clear e
  refine c_gd (q.is (by omega) (by omega) (cell (o := 0) hw (by omega) (show (h_W w 0).2.2 = (9, 15) from rfl)).1) ?_
  refine q.wR (by simp) ?_
  intro s2 q
  refine q.obj (N' := 3 + 369 * w + 334) (by omega) (cell hw (by omega) rfl) (ch_rules hw jt jl) (by omega) (by omega) ?_
  intro s3 e q
  rw [e]
  clear e
  refine q.wR (by simp) ?_
  intro s4 q
  refine q.nw2 (N' := 3 + 369 * w + 342) (f := 2030) (i := w) (by omega) ⟨by rw [cellW hw (by omega)]; rfl, by omega, by omega⟩ (by decide) (by omega) (fun x hx => ?_) (fun b b1 b2 => ⟨by omega, n369 (w := w) (by omega) (by omega)⟩) (by omega) ?_
  · rw [show 3 + 369 * w + 342 + 1 + x = 3 + 369 * w + (343 + x) by omega]
    exact cell hw (by omega) (cW_2 hx)
  intro s5 e q
  rw [e]
  clear e
  refine q.wR (by simp) ?_
  intro s6 q
  refine q.nwA (N' := 3 + 369 * w + 359) (by omega) (cell hw (by omega) rfl) (by decide) (by omega) (by omega) ?_
  intro s7 e q
  rw [e]
  clear e
  refine q.wR (by simp) ?_
  intro s8 q
  refine q.nw2 (N' := 3 + 369 * w + 360) (f := 2033) (i := w) (by omega) ⟨by rw [cellW hw (by omega)]; rfl, by omega, by omega⟩ (by decide) (by omega) (fun x hx => ?_) (fun b b1 b2 => ⟨by omega, n369 (w := w) (by omega) (by omega)⟩) (by omega) ?_
  · rw [show 3 + 369 * w + 360 + 1 + x = 3 + 369 * w + (361 + x) by omega]
    exact cell hw (by omega) (cW_3 hx)
  intro s9 e q
  rw [e]
  clear e
  refine q.wR (by simp) ?_
  intro s10 q
  refine q.nwA (N' := 3 + 369 * w + 365) (by omega) (cell hw (by omega) rfl) (by decide) (by omega) (by omega) ?_
  intro s11 e q
  rw [e]
  clear e
  refine q.wR (by simp) ?_
  intro s12 q
  have ca := cell hw (by omega) (show (h_W w 366).2.2 = (100, 4) from rfl)
  refine q.nwO (N' := 3 + 369 * w + 366) (by omega) ca (by omega) ?_
  intro s13 e q
  rw [e, show 3 + 369 * w + 365 + 1 = 3 + 369 * w + 366 by omega]
  clear e
  refine c_gd (q.is (by omega) (by omega) ca.1) ?_
  refine c_gd ⟨by omega, by rw [q.len (by omega) ca.2]; omega⟩ ?_
  refine q.wZ (by simp) ?_
  intro s14 q
  refine c_gd ⟨by omega, by rw [q.len (by omega) ca.2]; omega⟩ ?_
  refine q.wZ (by simp) ?_
  intro s15 q
  refine c_gd ⟨by omega, by rw [q.len (by omega) ca.2]; omega⟩ ?_
  refine q.wZ (by simp) ?_
  intro s16 q
  refine c_gd ⟨by omega, by rw [q.len (by omega) ca.2]; omega⟩ ?_
  refine q.wZ (by simp) ?_
  intro s17 q
  refine q.wR (by simp) ?_
  intro s18 q
  refine q.nwA (N' := 3 + 369 * w + 367) (by omega) (cell hw (by omega) rfl) (by decide) (by omega) (by omega) ?_
  intro s19 e q
  rw [e]
  clear e
  refine q.wR (by simp) ?_
  intro s20 q
  refine q.nwA (N' := 3 + 369 * w + 368) (by omega) (cell hw (by omega) rfl) (by decide) (by omega) (by omega) ?_
  intro s21 e q
  rw [e]
  clear e
  refine q.wR (by simp) ?_
  intro s22 q
  refine q.wZ (by simp) ?_
  intro s23 q
  refine ⟨s23, rfl, ?_⟩
  refine q.fin (fun b hb j => ?_)
  have hb' : b = 3 + 369 * w + 366 ∨ b = 3 + 369 * w := by simpa using hb
  clear q hb
  rcases hb' with rfl | rfl
  · rw [cellZ (f := 2036) (i := w) (t := 100) (n := 4) ⟨by rw [cellW hw (by omega)]; rfl, by omega, by omega⟩, cellR (f := 2036) (i := w) (t := 100) (n := 4) ⟨by rw [cellW hw (by omega)]; rfl, by omega, by omega⟩ (by omega), if_neg (by decide), show c0 2036 w j = if j < 4 then -1 else 0 from rfl, show h_r 100 (3 + 369 * w + 366) j = 0 from rfl]
    simp [uG_at, oG_at, uF_at, oF_at]
    repeat' split
    all_goals omega
  · rw [cellZ (f := 200) (i := w) (t := 9) (n := 15) ⟨by rw [show 3 + 369 * w = 3 + 369 * w + 0 by omega, cellW hw (by omega)]; rfl, by omega, by omega⟩, cellR (f := 200) (i := w) (t := 9) (n := 15) ⟨by rw [show 3 + 369 * w = 3 + 369 * w + 0 by omega, cellW hw (by omega)]; rfl, by omega, by omega⟩ (by omega), if_pos (by decide), show h_r 9 (3 + 369 * w) j = if j = 1 then 3 + 369 * w + 1 else if j = 3 then 3 + 369 * w + 334 else if j = 4 then 3 + 369 * w + 342 else if j = 5 then 3 + 369 * w + 359 else if j = 7 then 3 + 369 * w + 360 else if j = 8 then 3 + 369 * w + 365 else if j = 9 then 3 + 369 * w + 366 else if j = 10 then 3 + 369 * w + 367 else if j = 14 then 3 + 369 * w + 368 else 0 from rfl]
    refine ⟨?_, ?_⟩
    · have e : (if j < 100 then c0 (200 + j) w 0 else 0) = if j = 0 then (w : Int) else 0 := by
        by_cases e : j = 0
        · subst e; rfl
        · rw [if_neg e]
          by_cases hj : j < 100
          · rw [if_pos hj, c0_0 (by omega)]
          · rw [if_neg hj]
      rw [e]
      simp [uG_at, oG_at]
    · simp [uF_at, oF_at]
      repeat' split
      all_goals omega
