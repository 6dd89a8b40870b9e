/-! ===== class and reference made ===== -/
theorem ch_step (jt jl : Nat) : Ch F_Step_init 1112 1114 13 jt jl jt jl := by
  intro s h h0
  have q := St.start h h0
  unfold F_Step_init
  refine c_gd (by omega) ?_
  refine q.obj (N' := 1113) (by omega) ⟨by decide +kernel, by decide +kernel⟩ (ch_reading jt jl) (by omega) (by omega) ?_
  intro s1 e q
  rw [e]
  refine c_gd (q.is (by omega) (by omega) (by decide +kernel)) ?_
  refine q.wR (by simp) ?_
  intro s2 q
  refine ⟨s2, rfl, ?_⟩
  refine q.fin (fun b hb j => ?_)
  have hb' : b = 1112 := by simpa using hb
  subst hb'
  rw [cellZ (f := 800) (i := 0) (t := 8) (n := 5) ⟨by decide +kernel, by omega, by omega⟩, if_pos (by decide), ← zero_c0 (by decide) (by decide) (by decide)]
  refine ⟨rfl, ?_⟩
  rcases (show j = 0 ∨ j = 1 ∨ j = 2 ∨ j = 3 ∨ 4 ≤ j by omega) with rfl | rfl | rfl | rfl | hj
  · decide +kernel
  · decide +kernel
  · decide +kernel
  · decide +kernel
  · rw [uF_at, if_neg (by omega)]
    unfold h_R
    rw [if_neg (by omega), if_neg (by omega), if_neg (by omega), if_neg (by omega), if_neg (by omega)]
    unfold h_R1
    rw [if_neg (by decide), show h_T 1112 = 8 by decide +kernel, show h_r 8 1112 j = if j = 0 then 1113 else 0 from rfl, if_neg (by omega)]
theorem ch_judge (jt jl : Nat) : Ch F_Judge_init 1115 1123 425 jt jl jt jl := by
  intro s h h0
  have q := St.start h h0
  unfold F_Judge_init
  refine c_gd (by omega) ?_
  refine q.obj (N' := 1116) (by omega) ⟨by decide +kernel, by decide +kernel⟩ (ch_rules3 jt jl) (by omega) (by omega) ?_
  intro s1 e q
  rw [e]
  refine c_gd (q.is (by omega) (by omega) (by decide +kernel)) ?_
  refine q.wR (by simp) ?_
  intro s2 q
  refine ⟨s2, rfl, ?_⟩
  refine q.fin (fun b hb j => ?_)
  have hb' : b = 1115 := by simpa using hb
  subst hb'
  rw [cellZ (f := 1000) (i := 0) (t := 1) (n := 4) ⟨by decide +kernel, by omega, by omega⟩, if_pos (by decide), ← zero_c0 (by decide) (by decide) (by decide)]
  refine ⟨rfl, ?_⟩
  rcases (show j = 0 ∨ j = 1 ∨ j = 2 ∨ j = 3 ∨ 4 ≤ j by omega) with rfl | rfl | rfl | rfl | hj
  · decide +kernel
  · decide +kernel
  · decide +kernel
  · decide +kernel
  · rw [uF_at, if_neg (by omega)]
    unfold h_R
    rw [if_neg (by omega), if_neg (by omega), if_neg (by omega), if_neg (by omega), if_neg (by omega)]
    unfold h_R1
    rw [if_neg (by decide), show h_T 1115 = 1 by decide +kernel, show h_r 1 1115 j = if j = 0 then 1116 else 0 from rfl, if_neg (by omega)]
theorem ch_sw : Ch F_SW_init 1 1124 186538 0 0 100 8 := by
  intro s h h0
  have q := St.start h h0
  have w0 : Ch (fun v s => F_Works_init v 0 s) 3 371 61280 0 0 100 8 := ch_works (w := 0) (by omega) 0 0
  have w1 : Ch (fun v s => F_Works_init v 1 s) 372 740 61280 100 8 100 8 := ch_works (w := 1) (by omega) 100 8
  have w2 : Ch (fun v s => F_Works_init v 2 s) 741 1109 61280 100 8 100 8 := ch_works (w := 2) (by omega) 100 8
  unfold F_SW_init
  rw [show (0 : Int).toNat = 0 from rfl, show (1 : Int).toNat = 1 from rfl, show (2 : Int).toNat = 2 from rfl]
  refine c_gd (by omega) ?_
  have ca : h_T 2 = 104 ∧ h_L 2 = 3 := ⟨by decide +kernel, by decide +kernel⟩
  refine q.nwO (N' := 2) (by omega) ca (by omega) ?_
  intro s1 e q
  rw [e]
  clear e
  refine q.obj (N' := 3) (by omega) ⟨by decide +kernel, by decide +kernel⟩ w0 (by omega) (by omega) ?_
  intro s2 e q
  rw [e]
  clear e
  refine c_gd (q.is (by omega) (by omega) ca.1) ?_
  refine c_gd (q.is (by omega) (by omega) (by decide +kernel)) ?_
  refine c_gd ⟨by omega, by rw [q.len (by omega) ca.2]; omega⟩ ?_
  refine q.wR (by simp) ?_
  intro s3 q
  refine q.obj (N' := 372) (by omega) ⟨by decide +kernel, by decide +kernel⟩ w1 (by omega) (by omega) ?_
  intro s4 e q
  rw [e]
  clear e
  refine c_gd (q.is (by omega) (by omega) (by decide +kernel)) ?_
  refine c_gd ⟨by omega, by rw [q.len (by omega) ca.2]; omega⟩ ?_
  refine q.wR (by simp) ?_
  intro s5 q
  refine q.obj (N' := 741) (by omega) ⟨by decide +kernel, by decide +kernel⟩ w2 (by omega) (by omega) ?_
  intro s6 e q
  rw [e]
  clear e
  refine c_gd (q.is (by omega) (by omega) (by decide +kernel)) ?_
  refine c_gd ⟨by omega, by rw [q.len (by omega) ca.2]; omega⟩ ?_
  refine q.wR (by simp) ?_
  intro s7 q
  refine c_gd (q.is (by omega) (by omega) (by decide +kernel)) ?_
  refine q.wR (by simp) ?_
  intro s8 q
  have eR : p_R s8 1 0 = 2 := by rw [q.R (by simp)]; rfl
  have eR2 : p_R s8 2 0 = 3 := by rw [q.R (by simp)]; rfl
  rw [eR, eR2]
  clear eR eR2
  refine c_gd (q.is (by omega) (by omega) ca.1) ?_
  refine c_gd ⟨by omega, by rw [q.len (by omega) ca.2]; omega⟩ ?_
  refine q.wR (by simp) ?_
  intro s9 q
  refine q.obj (N' := 1110) (by omega) ⟨by decide +kernel, by decide +kernel⟩ (ch_numbers 100 8) (by omega) (by omega) ?_
  intro s10 e q
  rw [e]
  clear e
  refine q.wR (by simp) ?_
  intro s11 q
  refine q.obj (N' := 1112) (by omega) ⟨by decide +kernel, by decide +kernel⟩ (ch_step 100 8) (by omega) (by omega) ?_
  intro s12 e q
  rw [e]
  clear e
  refine q.wR (by simp) ?_
  intro s13 q
  refine q.obj (N' := 1115) (by omega) ⟨by decide +kernel, by decide +kernel⟩ (ch_judge 100 8) (by omega) (by omega) ?_
  intro s14 e q
  rw [e]
  clear e
  refine q.wR (by simp) ?_
  intro s15 q
  refine q.nwA (N' := 1124) (by omega) ⟨by decide +kernel, by decide +kernel⟩ (by decide) (by omega) (by omega) ?_
  intro s16 e q
  rw [e]
  clear e
  refine q.wR (by simp) ?_
  intro s17 q
  refine ⟨s17, rfl, ?_⟩
  refine q.fin (fun b hb j => ?_)
  have hb' : b = 2 ∨ b = 1 := by simpa using hb
  clear q hb
  rcases hb' with rfl | rfl
  · rw [cellZ (f := 2000) (i := 0) (t := 104) (n := 3) ⟨by decide +kernel, by omega, by omega⟩, cellR (f := 2000) (i := 0) (t := 104) (n := 3) ⟨by decide +kernel, by omega, by omega⟩ (by omega), if_neg (by decide), c0_0 (by decide), show h_r 104 2 j = if j < 3 then 3 + 369 * j else 0 from rfl]
    refine ⟨rfl, ?_⟩
    simp [uF_at, oF_at]
    repeat' split
    all_goals omega
  · rw [cellZ (f := 600) (i := 0) (t := 10) (n := 9) ⟨by decide +kernel, by omega, by omega⟩, if_pos (by decide), ← zero_c0 (by decide) (by decide) (by decide)]
    refine ⟨rfl, ?_⟩
    unfold h_R
    rw [show h_aW (c0 5000 0 0) = 3 from rfl, if_neg (show ¬ ((1 : Nat) = 1112 ∧ j = 1) by omega), if_neg (show ¬ ((1 : Nat) = 1112 ∧ j = 2) by omega), if_neg (show ¬ ((1 : Nat) = 1112 ∧ j = 3) by omega), if_neg (show ¬ ((1 : Nat) = 1115 ∧ j = 1) by omega)]
    unfold h_R1
    rw [if_neg (show ¬ (1 : Nat) = 0 by decide), show h_T 1 = 10 by decide +kernel, show h_r 10 1 j = if j = 0 then 2 else if j = 2 then 1110 else if j = 3 then 1112 else if j = 4 then 1115 else if j = 5 then 1124 else 0 from rfl]
    simp [uF_at, oF_at]
    repeat' split
    all_goals omega
/-! ===== the reference made ===== -/
def lM1 : List (Bool × Nat × Nat × Nat × Int) := [(true, 100, 3, 3, 0), (true, 100, 3, 4, 0), (true, 100, 120, 5, 0), (true, 100, 120, 6, 0), (true, 100, 120, 7, 0), (true, 100, 360, 8, 0), (true, 100, 120, 9, 0), (true, 100, 120, 10, 0), (true, 101, 240, 11, 0), (true, 100, 120, 12, 0), (true, 100, 120, 13, 0), (true, 102, 120, 14, 0), (true, 100, 120, 15, 0), (true, 100, 120, 16, 0), (true, 100, 120, 17, 0), (true, 100, 120, 18, 0), (true, 100, 120, 19, 0), (true, 100, 120, 20, 0), (true, 100, 120, 21, 0), (true, 100, 960, 22, 0), (true, 100, 2001, 24, 0), (true, 100, 2001, 25, 0), (true, 100, 2001, 26, 0), (true, 100, 2001, 27, 0), (true, 100, 2001, 28, 0)]
def lM2 : List (Bool × Nat × Nat × Nat × Int) := [(true, 100, 2001, 29, 0), (true, 100, 2001, 30, 0), (true, 100, 2001, 31, 0), (true, 100, 24012, 32, 0), (true, 100, 2001, 33, 0), (true, 100, 32016, 34, 0), (true, 102, 2001, 35, 0), (true, 102, 2001, 36, 0), (true, 100, 2001, 37, 0), (true, 100, 3, 38, 0), (true, 100, 3, 39, 0), (true, 100, 3, 40, 0), (true, 100, 360, 41, 0), (true, 100, 3, 42, 0), (true, 100, 600, 43, 0), (true, 100, 3, 44, 0), (true, 100, 180, 45, 0), (true, 100, 200, 46, 0), (true, 100, 3, 48, 0), (true, 100, 36, 49, 0), (true, 100, 36, 50, 0), (true, 100, 36, 51, 0), (true, 100, 144, 52, 0), (true, 100, 144, 53, 0), (true, 100, 144, 54, 0)]
def lM3 : List (Bool × Nat × Nat × Nat × Int) := [(true, 100, 144, 55, 0), (true, 100, 3, 56, 0), (true, 100, 48, 57, 0), (true, 100, 192, 58, 0), (true, 100, 12, 59, 0), (true, 100, 12, 60, 0), (true, 100, 96, 61, 0), (true, 100, 12, 62, 0), (true, 100, 12, 63, 0), (true, 100, 48, 64, 0), (true, 100, 48, 65, 0), (true, 100, 48, 66, 0), (true, 100, 48, 67, 0), (true, 100, 40, 74, 0), (true, 100, 8, 79, 0), (true, 100, 3, 81, 0), (true, 100, 3, 82, 0), (true, 100, 234000, 83, 0), (true, 100, 40, 88, 0)]
def lMo : List (Bool × Nat × Nat × Nat × Int) := lM1 ++ (lM2 ++ lM3)
theorem bo_app (v : Nat) : ∀ (l l' : List (Bool × Nat × Nat × Nat × Int)) (s : p_Hp), bo (l ++ l') v s = bo l' v (bo l v s) := by
  intro l
  induction l with
  | nil => intro l' s; rfl
  | cons o l ih =>
    intro l' s
    obtain ⟨q, t, n, k, x⟩ := o
    cases q with
    | true => exact ih l' _
    | false => exact ih l' _
def dBk : (l : List (Bool × Nat × Nat × Nat × Int)) → (N : Nat) → Decidable (bk l N)
  | [], _ => Decidable.isTrue trivial
  | (true, t, n, _, _) :: l, N => @instDecidableAnd (h_T (N + 1) = t ∧ h_L (N + 1) = n) (bk l (N + 1)) inferInstance (dBk l (N + 1))
  | (false, _) :: l, N => dBk l N
theorem bk1 : bk lM1 1125 := @of_decide_eq_true _ (dBk lM1 1125) (by decide +kernel)
theorem bk2 : bk lM2 1150 := @of_decide_eq_true _ (dBk lM2 1150) (by decide +kernel)
theorem bkM : bk lMo 1125 := @of_decide_eq_true _ (dBk lMo 1125) (by decide +kernel)
theorem brM0 : (List.range 100).all (fun j => br lMo 1125 (fun _ => 0) j == h_mr j) = true := by decide +kernel
theorem br_out : ∀ (l : List (Bool × Nat × Nat × Nat × Int)) (N : Nat) (f : Nat → Nat) (j : Nat), (∀ o ∈ l, o.2.2.2.1 < j) → br l N f j = f j := by
  intro l
  induction l with
  | nil => intro N f j _; rfl
  | cons o l ih =>
    intro N f j h
    obtain ⟨q, t, n, k, x⟩ := o
    have hk : k < j := h (q, t, n, k, x) List.mem_cons_self
    cases q with
    | true =>
      show br l (N + 1) _ j = f j
      rw [ih _ _ j (fun o ho => h o (List.mem_cons_of_mem _ ho)), if_neg (by omega)]
    | false => exact ih _ _ j (fun o ho => h o (List.mem_cons_of_mem _ ho))
theorem h_mr_out {j : Nat} (h : 100 ≤ j) : h_mr j = 0 := by
  unfold h_mr
  iterate 69 rw [if_neg (by omega)]
theorem lM_lt : ∀ o ∈ lMo, o.2.2.2.1 < 100 := by decide +kernel
theorem brM (j : Nat) : br lMo 1125 (fun _ => 0) j = h_mr j := by
  by_cases h : j < 100
  · exact eq_of_beq (List.all_eq_true.mp brM0 j (List.mem_range.mpr h))
  · rw [br_out _ _ _ _ (fun o ho => by have := lM_lt o ho; omega), h_mr_out (by omega)]
theorem pbo {β : Type} {v t n k : Nat} {x : Int} {l : List (Bool × Nat × Nat × Nat × Int)} {s : p_Hp} {K : p_Hp → Option β} (Q : p_Hp → Option β) (h : ∀ s', K s' = Q (bo l v s')) : (p_bi (p_nw s t n) fun s2 => p_bi (p_wR s2 v k (p_N s + 1)) K) = Q (bo ((true, t, n, k, x) :: l) v s) := h _
theorem pbo1 {β : Type} {v t n k : Nat} {x : Int} {l : List (Bool × Nat × Nat × Nat × Int)} {s : p_Hp} {K : p_Hp → Option β} (Q : p_Hp → Option β) (h : ∀ s', K s' = Q (bo l v s')) : p_bi (p_wR (p_nw s t n) v k (p_N s + 1)) K = Q (bo ((true, t, n, k, x) :: l) v s) := h _
theorem f_mo {jt jl : Nat} {s : p_Hp} (h : HS 1125 jt jl s) : F_Mo_init 1125 s = O_Mo_init_573 3000 1125 0 (bo lMo 1125 s) := by
  have hT : h_T 1125 = 11 := by decide +kernel
  have q1 := (bo_at 1125 lM1 1125 jt jl s h (by omega) bk1).1
  have q2 := (bo_at 1125 lM2 1150 jt jl _ q1 (by omega) bk2).1
  have e1 : F_Mo_init 1125 s = B_Mo_init_210 1125 (bo lM1 1125 s) := by
    unfold F_Mo_init
    rw [gd1 (by omega), bi1, gd1 ((h.nw (by decide +kernel) (by decide +kernel)).is (by omega) (by omega) hT)]
    unfold lM1
    refine pbo1 (B_Mo_init_210 1125) (fun s => ?_)
    iterate 24 refine pbo (B_Mo_init_210 1125) (fun s => ?_)
    rfl
  have e2 : B_Mo_init_210 1125 (bo lM1 1125 s) = B_Mo_init_420 1125 (bo lM2 1125 (bo lM1 1125 s)) := by
    generalize bo lM1 1125 s = s1 at q1 q2
    unfold B_Mo_init_210
    rw [bi1, gd1 ((q1.nw (by decide +kernel) (by decide +kernel)).is (by omega) (by decide) hT)]
    unfold lM2
    refine pbo1 (B_Mo_init_420 1125) (fun s => ?_)
    iterate 24 refine pbo (B_Mo_init_420 1125) (fun s => ?_)
    rfl
  have e3 : B_Mo_init_420 1125 (bo lM2 1125 (bo lM1 1125 s)) = O_Mo_init_573 3000 1125 0 (bo lM3 1125 (bo lM2 1125 (bo lM1 1125 s))) := by
    generalize bo lM2 1125 (bo lM1 1125 s) = s1 at q2
    unfold B_Mo_init_420
    rw [bi1, gd1 ((q2.nw (by decide +kernel) (by decide +kernel)).is (by omega) (by decide) hT)]
    unfold lM3
    refine pbo1 (O_Mo_init_573 3000 1125 0) (fun s => ?_)
    iterate 18 refine pbo (O_Mo_init_573 3000 1125 0) (fun s => ?_)
    rfl
  rw [e1, e2, e3]
  unfold lMo
  rw [bo_app, bo_app]
def wz (k : Nat) (s : p_Hp) : p_Hp := (s.1, s.2.1, s.2.2.1, s.2.2.2.1, fun b j => if b = 1180 ∧ j < k then -1 else s.2.2.2.2.1 b j, s.2.2.2.2.2)
theorem wz_s (k : Nat) (s : p_Hp) : p_wZ (wz k s) 1180 k (-1) = wz (k + 1) s := by
  show (s.1, s.2.1, s.2.2.1, s.2.2.2.1, (fun b j => if b = 1180 ∧ j = k then (-1 : Int) else if b = 1180 ∧ j < k then -1 else s.2.2.2.2.1 b j), s.2.2.2.2.2) = wz (k + 1) s
  unfold wz
  congr 5
  funext b j
  by_cases e : b = 1180
  · by_cases e2 : j = k
    · rw [if_pos ⟨e, e2⟩, if_pos ⟨e, by omega⟩]
    · rw [if_neg (fun w => e2 w.2)]
      by_cases e3 : j < k
      · rw [if_pos ⟨e, e3⟩, if_pos ⟨e, by omega⟩]
      · rw [if_neg (fun w => e3 w.2), if_neg (fun w => e3 (by omega))]
  · rw [if_neg (fun w => e w.1), if_neg (fun w => e w.1), if_neg (fun w => e w.1)]
theorem lp573 {s : p_Hp} (i1 : p_is s 1125 11) (i2 : p_is s 1180 100) (hL : p_L s 1180 = 12) (hR : p_R s 1125 59 = 1180) : ∀ (d k fu : Nat), k + d = 12 → d < fu → O_Mo_init_573 fu 1125 (k : Int) (wz k s) = some (wz 12 s) := by
  intro d
  induction d with
  | zero =>
    intro k fu h1 h2
    obtain ⟨fu, rfl⟩ : ∃ f, fu = f + 1 := ⟨fu - 1, by omega⟩
    have e : k = 12 := by omega
    subst e
    show L_Mo_init_573 _ _ _ _ = _
    unfold L_Mo_init_573
    rw [if_pos (by decide)]
  | succ d ih =>
    intro k fu h1 h2
    obtain ⟨fu, rfl⟩ : ∃ f, fu = f + 1 := ⟨fu - 1, by omega⟩
    show L_Mo_init_573 _ _ _ _ = _
    unfold L_Mo_init_573
    rw [if_neg (by omega), gd1 (show p_is (wz k s) 1125 11 from i1), show p_R (wz k s) 1125 59 = 1180 from hR, gd1 (show p_is (wz k s) 1180 100 from i2), gd1 ⟨by omega, by rw [show p_L (wz k s) 1180 = 12 from hL]; omega⟩, bi1, bi1, show ((k : Int)).toNat = k by omega, wz_s, p_w1 (by omega) (by omega), show (k : Int) + 1 = ((k + 1 : Nat) : Int) by omega]
    exact ih (k + 1) fu (by omega) (by omega)
theorem mqs : (List.range 69).all (fun x => decide (((h_mq (1126 + x)).1 = 59 ↔ x = 54) ∧ (h_T (1126 + x) = 100 ∨ h_T (1126 + x) = 101 ∨ h_T (1126 + x) = 102))) = true := by decide +kernel
theorem hp_ext {s : p_Hp} {c : h_C} {m : h_M} (h1 : s.1 = 1194) (h2 : s.2.1 = 506758) (h3 : ∀ b, s.2.2.1 b = h_T b) (h4 : ∀ b, s.2.2.2.1 b = h_L b) (h5 : ∀ b j, s.2.2.2.2.1 b j = h_Z c m b j) (h6 : ∀ b j, s.2.2.2.2.2 b j = h_R c b j) : s = h_H c m := by
  obtain ⟨n, q, t, l, z, r⟩ := s
  have e1 : n = 1194 := h1
  have e2 : q = 506758 := h2
  have e3 : t = h_T := funext h3
  have e4 : l = h_L := funext h4
  have e5 : z = h_Z c m := funext fun b => funext fun j => h5 b j
  have e6 : r = h_R c := funext fun b => funext fun j => h6 b j
  subst e1 e2 e3 e4 e5 e6
  rfl
theorem init_end {s0 s : p_Hp} (h0 : ∀ j, p_Z s0 0 j = 0 ∧ p_R s0 0 j = 0) (hM : p_M s0 = 9) (h : Mk 1 1124 186538 100 8 s0 s) : F_Mo_init 1125 (p_nw s 11 90) = some (h_H c0 m0) := by
  obtain ⟨g1, g2, g3, g4⟩ := h
  have q : HS 1125 100 8 (p_nw s 11 90) := g1.nw (by decide +kernel) (by decide +kernel)
  rw [f_mo q]
  obtain ⟨a1, a2, a3, a4, a5⟩ := bo_at 1125 lMo 1125 100 8 _ q (by omega) bkM
  have eN : s.1 = 1124 := g1.1
  have zZ : ∀ b j, p_Z (p_nw s 11 90) b j = if b = 1125 then 0 else p_Z s b j := fun b j => by show (if b = s.1 + 1 then _ else _) = _; rw [eN]; rfl
  have zR : ∀ b j, p_R (p_nw s 11 90) b j = if b = 1125 then 0 else p_R s b j := fun b j => by show (if b = s.1 + 1 then _ else _) = _; rw [eN]; rfl
  have eR : p_R (p_nw s 11 90) 1125 = fun _ => 0 := funext fun j => by rw [zR, if_pos rfl]
  have eM : p_M (bo lMo 1125 (p_nw s 11 90)) = 506758 := by
    rw [a2]
    show p_M s + 90 + bm lMo = _
    rw [g2, hM]
    have : bm lMo = 320121 := by decide +kernel
    rw [this]
  have a1' : HS 1194 100 8 (bo lMo 1125 (p_nw s 11 90)) := a1
  generalize bo lMo 1125 (p_nw s 11 90) = X at a1' a2 a3 a4 a5 eM
  have aR : ∀ j, p_R X 1125 j = h_mr j := fun j => by rw [(a5 j).1, eR, brM]
  have aZ : ∀ j, p_Z X 1125 j = 0 := fun j => by
    rw [(a5 j).2]
    have : ∀ (l : List (Bool × Nat × Nat × Nat × Int)) (f : Nat → Int), (∀ o ∈ l, o.1 = true) → bz l f = f := by
      intro l
      induction l with
      | nil => intro f _; rfl
      | cons o l ih =>
        intro f ho
        obtain ⟨q, t, n, k, x⟩ := o
        have hq : q = true := ho (q, t, n, k, x) List.mem_cons_self
        subst hq
        exact ih f (fun o h => ho o (List.mem_cons_of_mem _ h))
    rw [this lMo _ (by decide +kernel), zZ, if_pos rfl]
  have key := lp573 (s := X) (a1'.is (by omega) (by omega) (by decide +kernel)) (a1'.is (by omega) (by omega) (by decide +kernel)) ((a1'.len (by omega)).trans (by decide +kernel)) (by rw [aR]; decide +kernel) 12 0 3000 (by omega) (by omega)
  have w0 : wz 0 X = X := by
    unfold wz
    have : (fun b j => if b = 1180 ∧ j < 0 then (-1 : Int) else X.2.2.2.2.1 b j) = X.2.2.2.2.1 := by
      funext b j
      rw [if_neg (by omega)]
    rw [this]
  rw [w0] at key
  rw [show (0 : Int) = ((0 : Nat) : Int) from rfl, key]
  congr 1
  have sZ : ∀ b j, b < 1125 → p_Z X b j = h_Z c0 m0 b j ∧ p_R X b j = h_R c0 b j := fun b j hb => by
    rw [(a3 b j (by omega) (by omega)).1, (a3 b j (by omega) (by omega)).2, zZ, zR, if_neg (by omega), if_neg (by omega)]
    by_cases e : b = 0
    · subst e
      rw [(g3 0 j (by omega)).1, (g3 0 j (by omega)).2, (h0 j).1, (h0 j).2]
      refine ⟨rfl, ?_⟩
      unfold h_R
      rw [if_neg (by omega), if_neg (by omega), if_neg (by omega), if_neg (by omega), if_neg (by omega)]
      rfl
    · exact g4 b (by omega) (by omega) j
  have hT9 : ∀ b, 1194 < b → h_T b = 100 ∧ h_L b = 8 := fun b hb => by
    unfold h_T h_L
    rw [if_neg (by omega), if_neg (by omega), if_neg (by omega), if_neg (by omega), if_neg (by omega), if_neg (by omega), if_neg (by omega), if_neg (by omega)]
    exact ⟨rfl, rfl⟩
  have hR9 : ∀ b j, 1125 ≤ b → h_R c0 b j = h_r (h_T b) b j := fun b j hb => by
    unfold h_R
    rw [if_neg (by omega), if_neg (by omega), if_neg (by omega), if_neg (by omega), if_neg (by omega)]
    unfold h_R1
    rw [if_neg (by omega)]
  refine hp_ext a1'.1 eM (fun b => ?_) (fun b => ?_) (fun b j => ?_) (fun b j => ?_)
  · show X.2.2.1 b = _
    by_cases e : b ≤ 1194
    · exact (a1'.2.1 b e).1
    · rw [(a1'.2.2 b (by omega)).1, (hT9 b (by omega)).1]
  · show X.2.2.2.1 b = _
    by_cases e : b ≤ 1194
    · exact (a1'.2.1 b e).2
    · rw [(a1'.2.2 b (by omega)).2.1, (hT9 b (by omega)).2]
  · show (if b = 1180 ∧ j < 12 then (-1 : Int) else p_Z X b j) = _
    by_cases e : b < 1125
    · rw [if_neg (by omega)]
      exact (sZ b j e).1
    · by_cases e2 : b = 1125
      · subst e2
        rw [if_neg (by omega), aZ]
        unfold h_Z
        rw [if_neg (by decide), if_neg (by decide), if_pos rfl]
        by_cases hj : j < 100
        · rw [if_pos hj, m0_0 (by omega)]
        · rw [if_neg hj]
      · by_cases e3 : b ≤ 1194
        · have hq := (of_decide_eq_true (List.all_eq_true.mp mqs (b - 1126) (List.mem_range.mpr (by omega)))).1
          rw [show 1126 + (b - 1126) = b by omega] at hq
          rw [(a4 b j (by omega)).1]
          unfold h_Z m0
          rw [if_neg (show ¬ b = 0 by omega), if_neg (show ¬ b ≤ 1124 by omega), if_neg e2, if_pos e3]
          by_cases e5 : b = 1180 ∧ j < 12
          · rw [if_pos e5, if_pos ⟨hq.mpr (by omega), e5.2⟩]
          · rw [if_neg e5, if_neg (fun w => e5 ⟨by have := hq.mp w.1; omega, w.2⟩)]
        · rw [if_neg (by omega), (a4 b j (by omega)).1]
          unfold h_Z
          rw [if_neg (by omega), if_neg (by omega), if_neg (by omega), if_neg (by omega)]
  · show p_R X b j = _
    by_cases e : b < 1125
    · exact (sZ b j e).2
    · rw [hR9 b j (by omega)]
      by_cases e2 : b = 1125
      · subst e2
        rw [aR, show h_T 1125 = 11 by decide +kernel]
        rfl
      · rw [(a4 b j (by omega)).2]
        by_cases e3 : b ≤ 1194
        · have hq := (of_decide_eq_true (List.all_eq_true.mp mqs (b - 1126) (List.mem_range.mpr (by omega)))).2
          rw [show 1126 + (b - 1126) = b by omega] at hq
          rw [hr_arr hq]
        · rw [(hT9 b (by omega)).1, hr_arr (Or.inl rfl)]
