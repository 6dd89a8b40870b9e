/-! ===== a works' state made ===== -/
def lF (A i k a c : Nat) (F : Nat → Nat → Nat) : Nat → Nat → Nat := fun b j => if b = A ∧ i ≤ j ∧ j < k then a + c * j else F b j
theorem lF_at (A i k a c : Nat) (F : Nat → Nat → Nat) (b j : Nat) : lF A i k a c F b j = if b = A ∧ i ≤ j ∧ j < k then a + c * j else F b j := rfl
theorem lF_s {A i k a c x : Nat} {F : Nat → Nat → Nat} (hi : i ≤ k) (hx : x = a + c * k) : uF A k x (lF A i k a c F) = lF A i (k + 1) a c F := by
  subst hx
  funext b j
  rw [uF_at, lF_at, lF_at]
  by_cases e : b = A
  · by_cases e2 : j = k
    · rw [if_pos ⟨e, e2⟩, if_pos ⟨e, by omega, by omega⟩, e2]
    · rw [if_neg (fun w => e2 w.2)]
      by_cases e3 : i ≤ j ∧ j < k
      · rw [if_pos ⟨e, e3⟩, if_pos ⟨e, by omega, by omega⟩]
      · rw [if_neg (fun w => e3 w.2), if_neg (fun w => e3 (by omega))]
  · rw [if_neg (fun w => e w.1), if_neg (fun w => e w.1), if_neg (fun w => e w.1)]
theorem lF_0 {A i a c : Nat} {F : Nat → Nat → Nat} : lF A i i a c F = F := by
  funext b j
  rw [lF_at, if_neg (by omega)]
theorem St.R {v N M jt jl : Nat} {s0 s : p_Hp} {O : List Nat} {F : Nat → Nat → Nat} {G : Nat → Nat → Int} (h : St v N M jt jl s0 s O F G) {a : Nat} (ha : a ∈ O) (j : Nat) : p_R s a j = F a j := ((h.2.2.2.1 a ha).2.2 j).1
theorem cellZ {b f i t n : Nat} (d : h_d b f i t n) (j : Nat) : h_Z c0 m0 b j = if t < 100 then (if j < 100 then c0 (f + j) i 0 else 0) else c0 f i j := by
  obtain ⟨e, g0, g1⟩ := d
  unfold h_Z
  rw [if_neg g0, if_pos g1, e]
theorem cellR {b f i t n : Nat} (d : h_d b f i t n) (h1 : b ≠ 1 ∧ b ≠ 1112 ∧ b ≠ 1115) (j : Nat) : h_R c0 b j = h_r t b j := by
  obtain ⟨e, g0, g1⟩ := d
  have hT : h_T b = t := by unfold h_T; rw [if_neg g0, if_pos g1, e]
  unfold h_R
  rw [if_neg (fun w => h1.1 w.1), if_neg (fun w => h1.2.1 w.1), if_neg (fun w => h1.2.1 w.1), if_neg (fun w => h1.2.1 w.1), if_neg (fun w => h1.2.2 w.1)]
  unfold h_R1
  rw [if_neg g0, hT]
theorem lp69 {w jt jl M : Nat} (hw : w < 3) {s0 : p_Hp} {O : List Nat} {F : Nat → Nat → Nat} {G : Nat → Nat → Int} (hO1 : 3 + 369 * w + 1 ∈ O) (hO2 : 3 + 369 * w + 2 ∈ O) (hF : F (3 + 369 * w + 1) 4 = 3 + 369 * w + 2) {P : p_Hp → Prop} (hk : ∀ s', St (3 + 369 * w + 1) (3 + 369 * w + 213) (M + 364 * 40) jt jl s0 s' O (lF (3 + 369 * w + 2) 0 40 (3 + 369 * w + 14) 5 F) G → ∃ r, O_State_init_96 3000 (3 + 369 * w + 1) 1 s' = some r ∧ P r) : ∀ (d k fu : Nat) (s : p_Hp), k + d = 40 → d < fu → St (3 + 369 * w + 1) (3 + 369 * w + (13 + 5 * k)) (M + 364 * k) jt jl s0 s O (lF (3 + 369 * w + 2) 0 k (3 + 369 * w + 14) 5 F) G → ∃ r, O_State_init_69 fu (3 + 369 * w + 1) (k : Int) s = some r ∧ P r := by
  intro d
  induction d with
  | zero =>
    intro k fu s h1 h2 h
    obtain ⟨fu, rfl⟩ : ∃ f, fu = f + 1 := ⟨fu - 1, by omega⟩
    have e : k = 40 := by omega
    subst e
    show ∃ r, L_State_init_69 (O_State_init_69 fu) _ _ s = some r ∧ P r
    unfold L_State_init_69
    rw [if_pos (by decide)]
    exact hk s h
  | succ d ih =>
    intro k fu s h1 h2 h
    obtain ⟨fu, rfl⟩ : ∃ f, fu = f + 1 := ⟨fu - 1, by omega⟩
    show ∃ r, L_State_init_69 (O_State_init_69 fu) _ _ s = some r ∧ P r
    have eR : p_R s (3 + 369 * w + 1) 4 = 3 + 369 * w + 2 := by rw [h.R hO1, lF_at, if_neg (by omega), hF]
    unfold L_State_init_69
    rw [if_neg (by omega), eR]
    refine c_gd (h.is (by omega) (by omega) (cell hw (by omega) (show (h_W w 1).2.2 = (7, 10) from rfl)).1) ?_
    have cg := cell hw (by omega) (show (h_W w (14 + 5 * k)).2.2 = (0, 20) by rw [(cW_g (by omega)).1])
    refine h.obj (N' := 3 + 369 * w + (14 + 5 * k)) (by omega) cg (ch_gear hw (by omega) jt jl) (by omega) (by omega) ?_
    intro s1 e1 g1
    rw [e1, show 3 + 369 * w + (13 + 5 * k) + 1 = 3 + 369 * w + (14 + 5 * k) by omega]
    have ca := cell hw (by omega) (show (h_W w 2).2.2 = (105, 40) from rfl)
    refine c_gd (g1.is (by omega) (by omega) ca.1) ?_
    refine c_gd (g1.is (by omega) (by omega) cg.1) ?_
    refine c_gd ⟨by omega, by rw [g1.len (by omega) ca.2]; omega⟩ ?_
    refine g1.wR hO2 ?_
    intro s2 g2
    rw [bi1, p_w1 (by omega) (by omega), show (k : Int) + 1 = ((k + 1 : Nat) : Int) by omega]
    refine ih (k + 1) fu s2 (by omega) (by omega) ?_
    rw [show ((k : Int)).toNat = k by omega, lF_s (by omega) (by omega), show M + 364 * k + 20 + 344 = M + 364 * (k + 1) by omega, show 3 + 369 * w + (18 + 5 * k) = 3 + 369 * w + (13 + 5 * (k + 1)) by omega] at g2
    exact g2
theorem lp96 {w jt jl M : Nat} (hw : w < 3) {s0 : p_Hp} {O : List Nat} {F : Nat → Nat → Nat} {G : Nat → Nat → Int} (hO1 : 3 + 369 * w + 1 ∈ O) (hO2 : 3 + 369 * w + 3 ∈ O) (hF : F (3 + 369 * w + 1) 5 = 3 + 369 * w + 3) {P : p_Hp → Prop} (hk : ∀ s', St (3 + 369 * w + 1) (3 + 369 * w + 333) (M + 1152 * 30) jt jl s0 s' O (lF (3 + 369 * w + 3) 1 31 (3 + 369 * w + 210) 4 F) G → P s') : ∀ (d k fu : Nat) (s : p_Hp), k + d = 30 → d < fu → St (3 + 369 * w + 1) (3 + 369 * w + (213 + 4 * k)) (M + 1152 * k) jt jl s0 s O (lF (3 + 369 * w + 3) 1 (k + 1) (3 + 369 * w + 210) 4 F) G → ∃ r, O_State_init_96 fu (3 + 369 * w + 1) ((k : Int) + 1) s = some r ∧ P r := by
  intro d
  induction d with
  | zero =>
    intro k fu s h1 h2 h
    obtain ⟨fu, rfl⟩ : ∃ f, fu = f + 1 := ⟨fu - 1, by omega⟩
    have e : k = 30 := by omega
    subst e
    show ∃ r, L_State_init_96 (O_State_init_96 fu) _ _ s = some r ∧ P r
    unfold L_State_init_96
    rw [if_pos (by decide)]
    exact ⟨s, rfl, hk s h⟩
  | succ d ih =>
    intro k fu s h1 h2 h
    obtain ⟨fu, rfl⟩ : ∃ f, fu = f + 1 := ⟨fu - 1, by omega⟩
    show ∃ r, L_State_init_96 (O_State_init_96 fu) _ _ s = some r ∧ P r
    have eR : p_R s (3 + 369 * w + 1) 5 = 3 + 369 * w + 3 := by rw [h.R hO1, lF_at, if_neg (by omega), hF]
    unfold L_State_init_96
    rw [if_neg (by omega), eR]
    refine c_gd (h.is (by omega) (by omega) (cell hw (by omega) (show (h_W w 1).2.2 = (7, 10) from rfl)).1) ?_
    have cg := cell hw (by omega) (show (h_W w (210 + 4 * (k + 1))).2.2 = (4, 14) by rw [(cW_p (by omega) (by omega)).1])
    rw [show (k : Int) + 1 = ((k + 1 : Nat) : Int) by omega]
    refine h.obj (N' := 3 + 369 * w + (210 + 4 * (k + 1))) (Fi := fun v s => F_Parcel_init v ((k + 1 : Nat) : Int) s) (by omega) cg (ch_parcel hw (by omega) (by omega) jt jl) (by omega) (by omega) ?_
    intro s1 e1 g1
    rw [e1, show 3 + 369 * w + (213 + 4 * k) + 1 = 3 + 369 * w + (210 + 4 * (k + 1)) by omega]
    have ca := cell hw (by omega) (show (h_W w 3).2.2 = (106, 31) from rfl)
    refine c_gd (g1.is (by omega) (by omega) ca.1) ?_
    refine c_gd (g1.is (by omega) (by omega) cg.1) ?_
    refine c_gd ⟨by omega, by rw [g1.len (by omega) ca.2]; omega⟩ ?_
    refine g1.wR hO2 ?_
    intro s2 g2
    rw [bi1, p_w1 (by omega) (by omega)]
    refine ih (k + 1) fu s2 (by omega) (by omega) ?_
    rw [show (((k + 1 : Nat) : Int)).toNat = k + 1 by omega, lF_s (by omega) (by omega), show M + 1152 * k + 14 + 1138 = M + 1152 * (k + 1) by omega] at g2
    exact g2
/-- a state's cells, when all is made -/
theorem ch_state {w : Nat} (hw : w < 3) (jt jl : Nat) : Ch F_State_init (3 + 369 * w + 1) (3 + 369 * w + 333) (40 + 31 + 12 + 6 + 6230 + 6 + 4680 + 480 + 364 * 40 + 1152 * 30) jt jl jt jl := by
  intro s h h0
  have q := St.start h h0
  unfold F_State_init
  refine c_gd (by omega) ?_
  refine q.nwO (N' := 3 + 369 * w + 2) (by omega) (cell hw (by omega) rfl) (by omega) ?_
  intro s1 e q
  rw [e]
  refine c_gd (q.is (by omega) (by omega) (cell hw (by omega) (show (h_W w 1).2.2 = (7, 10) from rfl)).1) ?_
  refine q.wR (by simp) ?_
  clear e
  intro s2 q
  refine q.nwO (N' := 3 + 369 * w + 3) (by omega) (cell hw (by omega) rfl) (by omega) ?_
  intro s3 e q
  rw [e]
  refine q.wR (by simp) ?_
  clear e
  intro s4 q
  refine q.nwA (N' := 3 + 369 * w + 4) (by omega) (cell hw (by omega) rfl) (by decide) (by omega) (by omega) ?_
  intro s5 e q
  rw [e]
  refine q.wR (by simp) ?_
  clear e
  intro s6 q
  refine q.obj (N' := 3 + 369 * w + 5) (Fi := fun v s => F_Log_init v 40 5 s) (by omega) (cell hw (by omega) rfl) (ch_log0 hw jt jl) (by omega) (by omega) ?_
  intro s7 e q
  rw [e]
  refine q.wR (by simp) ?_
  clear e
  intro s8 q
  refine q.obj (N' := 3 + 369 * w + 9) (Fi := fun v s => F_Log_init v 30 4 s) (by omega) (cell hw (by omega) rfl) (ch_log1 hw jt jl) (by omega) (by omega) ?_
  intro s9 e q
  rw [e]
  refine q.wR (by simp) ?_
  clear e
  intro s10 q
  refine q.nwA (N' := 3 + 369 * w + 13) (by omega) (cell hw (by omega) rfl) (by decide) (by omega) (by omega) ?_
  intro s11 e q
  rw [e]
  refine q.wR (by simp) ?_
  clear e
  intro s12 q
  refine lp69 hw (O := [3 + 369 * w + 3, 3 + 369 * w + 2, 3 + 369 * w + 1]) (by simp) (by simp) ?_ ?_ 40 0 3000 s12 (by omega) (by omega) (by rw [lF_0]; exact q)
  · simp [uF_at, oF_at]
  intro s13 q
  refine lp96 hw (O := [3 + 369 * w + 3, 3 + 369 * w + 2, 3 + 369 * w + 1]) (by simp) (by simp) ?_ ?_ 30 0 3000 s13 (by omega) (by omega) (by rw [lF_0]; exact q)
  · simp [uF_at, oF_at, lF_at]
  intro s14 q
  rw [show 0 + 40 + 31 + 12 + 6 + 6230 + 6 + 4680 + 480 + 364 * 40 + 1152 * 30 = 40 + 31 + 12 + 6 + 6230 + 6 + 4680 + 480 + 364 * 40 + 1152 * 30 by omega] at q
  refine q.fin (fun b hb j => ?_)
  have hb' : b = 3 + 369 * w + 3 ∨ b = 3 + 369 * w + 2 ∨ b = 3 + 369 * w + 1 := by simpa using hb
  clear q hb
  rcases hb' with rfl | rfl | rfl
  · rw [cellZ (f := 2002) (i := w) (t := 106) (n := 31) ⟨by rw [cellW hw (by omega)]; rfl, by omega, by omega⟩, cellR (f := 2002) (i := w) (t := 106) (n := 31) ⟨by rw [cellW hw (by omega)]; rfl, by omega, by omega⟩ (by omega), if_neg (by decide), c0_0 (by decide), show h_r 106 (3 + 369 * w + 3) j = if 1 ≤ j ∧ j < 31 then 3 + 369 * w + 3 + 207 + 4 * j else 0 from rfl]
    refine ⟨by simp [oG_at], ?_⟩
    simp [lF_at, uF_at, oF_at]
  · rw [cellZ (f := 2001) (i := w) (t := 105) (n := 40) ⟨by rw [cellW hw (by omega)]; rfl, by omega, by omega⟩, cellR (f := 2001) (i := w) (t := 105) (n := 40) ⟨by rw [cellW hw (by omega)]; rfl, by omega, by omega⟩ (by omega), if_neg (by decide), c0_0 (by decide), show h_r 105 (3 + 369 * w + 2) j = if j < 40 then 3 + 369 * w + 2 + 12 + 5 * j else 0 from rfl]
    refine ⟨by simp [oG_at], ?_⟩
    simp [lF_at, uF_at, oF_at]
  · rw [cellZ (f := 300) (i := w) (t := 7) (n := 10) ⟨by rw [cellW hw (by omega)]; rfl, by omega, by omega⟩, cellR (f := 300) (i := w) (t := 7) (n := 10) ⟨by rw [cellW hw (by omega)]; rfl, by omega, by omega⟩ (by omega), if_pos (by decide), ← zero_c0 (by decide) (by decide) (by decide), show h_r 7 (3 + 369 * w + 1) j = if j = 4 then 3 + 369 * w + 1 + 1 else if j = 5 then 3 + 369 * w + 1 + 2 else if j = 6 then 3 + 369 * w + 1 + 3 else if j = 7 then 3 + 369 * w + 1 + 4 else if j = 8 then 3 + 369 * w + 1 + 8 else if j = 9 then 3 + 369 * w + 1 + 12 else 0 from rfl]
    refine ⟨by simp [oG_at], ?_⟩
    simp [lF_at, uF_at, oF_at]
    repeat' split
    all_goals omega
