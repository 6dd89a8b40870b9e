theorem tW_fr {m m' : h_M} (hm : ∀ f ∈ [49, 50, 52, 53, 54, 55], m' f = m f) (r0 n : Nat) : tW m' r0 n = tW m r0 n := by
  have e1 : ∀ t, tT m' t = tT m t := by intro t; unfold tT; simp only [hm 52 (by decide), hm 53 (by decide), hm 54 (by decide), hm 55 (by decide)]
  have e2 : ∀ t0 n, tS m' t0 n = tS m t0 n := by
    intro t0 n
    induction n with
    | zero => rfl
    | succ n ih => unfold tS; rw [ih, e1]
  have e3 : ∀ r, tR m' r = tR m r := by intro r; unfold tR; simp only [hm 49 (by decide), hm 50 (by decide), e2]
  induction n with
  | zero => rfl
  | succ n ih => unfold tW; rw [ih, e3]
/-- the values of a reading, in both -/
def VV (c : h_C) (m : h_M) : Prop := (c 901 0 0 = m 175 0 ∧ 0 ≤ m 175 0) ∧ (c 902 0 0 = m 176 0 ∧ 0 ≤ m 176 0) ∧ (c 903 0 0 = m 177 0 ∧ 0 ≤ m 177 0)
theorem VV.of {c c' : h_C} {m m' : h_M} (h : VV c m) (hc : ∀ f ∈ [901, 902, 903], c' f = c f) (hm : ∀ f ∈ [175, 176, 177], m' f = m f) : VV c' m' := by
  unfold VV at h ⊢
  simpa only [hc 901 (by decide), hc 902 (by decide), hc 903 (by decide), hm 175 (by decide), hm 176 (by decide), hm 177 (by decide)] using h
/-- whether a test holds -/
def tt (o x y : Int) : Int := if o ≠ 60 then (if o ≠ 61 then (if x ≤ y then 0 else 1) else (if x ≠ y then 0 else 1)) else (if y ≤ x then 0 else 1)
theorem tt01 (o x y : Int) : tt o x y = 0 ∨ tt o x y = 1 := by
  unfold tt
  repeat' split
  all_goals simp
theorem s_c60 {w v3 : Nat} (hw : w < 3) (h3 : v3 < 48) {x : Int} (hx : 0 ≤ x) (k12 : Int → Nat → Int → h_C → Option Int) (v1 : Int) (c : h_C) : GB_Step_holds_60 k12 v1 w (v3 : Int) x c = GB_Step_holds_141 k12 v1 w (v3 : Int) (tt (c 2024 w v3) x (c 2025 w v3)) c := by
  unfold GB_Step_holds_60 G_In_compare tt
  rw [if_pos hx, gd1 (show vR w by omega), gd1 (by omega), Int.toNat_natCast]
  by_cases a : c 2025 w v3 ≤ x
  · rw [if_pos a]
    by_cases e : x = c 2025 w v3
    · rw [if_neg (fun z => z e), q_some, bi1]
      simp only [e, ne_eq, not_true_eq_false, ite_not, Int.le_refl, if_true, if_false]
      repeat' split
      all_goals first | rfl | omega
    · rw [if_pos e, q_some, bi1]
      have e2 : ¬ x ≤ c 2025 w v3 := by omega
      simp only [e, e2, a, ne_eq, not_false_eq_true, if_true, if_false]
      repeat' split
      all_goals first | rfl | omega
  · rw [if_neg a, q_some, bi1]
    have e : ¬ x = c 2025 w v3 := by omega
    have e2 : x ≤ c 2025 w v3 := by omega
    simp only [e, e2, a, ne_eq, not_false_eq_true, if_true, if_false]
    repeat' split
    all_goals first | rfl | omega
theorem s_m129 {v3 : Nat} (h3 : v3 < 144) (k14 : Int → Int → Int → h_M → Option (Int × h_M)) (v1 v2 x : Int) (m : h_M) : GB_Mo_holds_129 k14 v1 v2 (v3 : Int) x m = GB_Mo_holds_205 k14 v1 v2 (v3 : Int) (tt (m 54 v3) x (m 55 v3)) m := by
  unfold GB_Mo_holds_129 tt
  rw [gd1 (by omega), Int.toNat_natCast]
  repeat' split
  all_goals first | rfl | omega
theorem s_holds {b : Nat} {c : h_C} {m : h_M} (h : RR b c m) {w : Nat} (hw : w < 3) (e1 : m 100 0 = (w : Int)) (e4 : c 5002 0 0 = (w : Int)) (e5 : c 5003 0 0 = (w : Int)) (hV : VV c m) {r : Nat} (hr : (r : Int) < m 48 w) : ∃ v, G_Step_holds (r : Int) c = some v ∧ ((v = 1 ∧ ∃ m', G_Mo_holds (r : Int) m = some (1, m') ∧ eM [173, 180] m m') ∨ (v = 0 ∧ ∃ m', G_Mo_holds (r : Int) m = some (0, m') ∧ eM [173, 180] m m') ∨ (∃ f m1, (1 ≤ f ∧ f ≤ 6) ∧ v = -10 - f ∧ eM [173, 180] m m1 ∧ G_Mo_holds (r : Int) m = q_bv (G_Mo_find 3 f (r : Int) m1) fun m13 => some (0, m13))) := by
  obtain ⟨⟨u1, u2, u3⟩, uR, _⟩ := h.U w hw
  obtain ⟨_, ⟨n1, n0, n4⟩, _, uT⟩ := uR r (by omega) hr
  have s4 := h.S w hw
  have key : ∀ (d t fu : Nat) (m1 : h_M), ((t + d : Nat) : Int) = m 50 (12 * w + r) → d < fu → eM [173, 180] m m1 → ∃ v, GO_Step_holds_12 fu (r : Int) w ((4 * r + t : Nat) : Int) c = some v ∧ ((v = 1 ∧ ∃ m', GO_Mo_holds_14 fu (r : Int) ((12 * w + r : Nat) : Int) ((48 * w + 4 * r + t : Nat) : Int) m1 = some (1, m') ∧ eM [173, 180] m m') ∨ (v = 0 ∧ ∃ m', GO_Mo_holds_14 fu (r : Int) ((12 * w + r : Nat) : Int) ((48 * w + 4 * r + t : Nat) : Int) m1 = some (0, m') ∧ eM [173, 180] m m') ∨ (∃ f m2, (1 ≤ f ∧ f ≤ 6) ∧ v = -10 - f ∧ eM [173, 180] m m2 ∧ GO_Mo_holds_14 fu (r : Int) ((12 * w + r : Nat) : Int) ((48 * w + 4 * r + t : Nat) : Int) m1 = q_bv (G_Mo_find 3 f (r : Int) m2) fun m13 => some (0, m13))) := by
    intro d
    induction d with
    | zero =>
      intro t fu m1 hd hf y
      obtain ⟨fu, rfl⟩ : ∃ g, fu = g + 1 := ⟨fu - 1, by omega⟩
      refine ⟨1, ?_, Or.inl ⟨rfl, m1, ?_, y⟩⟩
      · show GL_Step_holds_12 _ _ _ _ c = _
        unfold GL_Step_holds_12
        rw [gd1 (show vR w by omega), gd1 (by omega), Int.toNat_natCast, n1, p_w1 (x := 4 * (r : Int)) (by omega) (by omega), p_w1 (by omega) (by omega), if_pos (by omega)]
      · show GL_Mo_holds_14 _ _ _ _ m1 = _
        unfold GL_Mo_holds_14
        rw [gd1 (by omega), Int.toNat_natCast, y 50 (by decide), p_w1 (x := 4 * ((12 * w + r : Nat) : Int)) (by omega) (by omega), p_w1 (by omega) (by omega), if_pos (by omega)]
    | succ d ih =>
      intro t fu m1 hd hf y
      obtain ⟨fu, rfl⟩ : ∃ g, fu = g + 1 := ⟨fu - 1, by omega⟩
      have h1 : RR b c m1 := h.scr [] [173, 180] (eC.rf _ _) y rfl rfl
      have e11 : m1 100 0 = (w : Int) := by rw [y 100 (by decide)]; exact e1
      obtain ⟨a52, a53, a54, a55, _, _⟩ := uT t (by omega) (by omega)
      have C1 : ∀ X, (if m 52 (48 * w + 4 * r + t) ≠ 81 then q_bv (G_Step_plainValue (m 52 (48 * w + 4 * r + t)) c) (fun r10 => GB_Step_holds_60 (GO_Step_holds_12 fu) (r : Int) w ((4 * r + t : Nat) : Int) r10 c) else q_bv (G_Step_quotient (c 2023 w (4 * r + t)) c) (fun r14 => GB_Step_holds_60 (GO_Step_holds_12 fu) (r : Int) w ((4 * r + t : Nat) : Int) r14 c)) = X → GO_Step_holds_12 (fu + 1) (r : Int) w ((4 * r + t : Nat) : Int) c = X := by
        intro X hX
        show GL_Step_holds_12 _ _ _ _ c = _
        unfold GL_Step_holds_12
        rw [gd1 (show vR w by omega), gd1 (by omega), Int.toNat_natCast, n1, p_w1 (x := 4 * (r : Int)) (by omega) (by omega), p_w1 (by omega) (by omega), if_neg (by omega), gd1 (by omega), Int.toNat_natCast, a52, bi1]
        exact hX
      have M1 : ∀ X, GB_Mo_holds_87 (GO_Mo_holds_14 fu) (r : Int) ((12 * w + r : Nat) : Int) ((48 * w + 4 * r + t : Nat) : Int) (m 52 (48 * w + 4 * r + t)) (if m 52 (48 * w + 4 * r + t) ≠ 68 then (if m 52 (48 * w + 4 * r + t) ≠ 87 then (if m 52 (48 * w + 4 * r + t) ≠ 83 then m 4 w else m 177 0) else m 176 0) else m 175 0) m1 = X → GO_Mo_holds_14 (fu + 1) (r : Int) ((12 * w + r : Nat) : Int) ((48 * w + 4 * r + t : Nat) : Int) m1 = X := by
        intro X hX
        show GL_Mo_holds_14 _ _ _ _ m1 = _
        unfold GL_Mo_holds_14
        rw [gd1 (by omega), Int.toNat_natCast, y 50 (by decide), p_w1 (x := 4 * ((12 * w + r : Nat) : Int)) (by omega) (by omega), p_w1 (by omega) (by omega), if_neg (by omega), gd1 (by omega), Int.toNat_natCast, y 52 (by decide), bi1, e11, gd1 (by omega), Int.toNat_natCast, y 4 (by decide), y 175 (by decide), y 176 (by decide), y 177 (by decide), ← hX]
        repeat' split
        all_goals rfl
      -- a value is found in both
      have go : ∀ (x : Int) (m2 : h_M), 0 ≤ x → eM [173, 180] m m2 → (∀ X, GB_Step_holds_60 (GO_Step_holds_12 fu) (r : Int) w ((4 * r + t : Nat) : Int) x c = X → GO_Step_holds_12 (fu + 1) (r : Int) w ((4 * r + t : Nat) : Int) c = X) → (∀ X, GB_Mo_holds_129 (GO_Mo_holds_14 fu) (r : Int) ((12 * w + r : Nat) : Int) ((48 * w + 4 * r + t : Nat) : Int) x m2 = X → GO_Mo_holds_14 (fu + 1) (r : Int) ((12 * w + r : Nat) : Int) ((48 * w + 4 * r + t : Nat) : Int) m1 = X) → ∃ v, GO_Step_holds_12 (fu + 1) (r : Int) w ((4 * r + t : Nat) : Int) c = some v ∧ ((v = 1 ∧ ∃ m', GO_Mo_holds_14 (fu + 1) (r : Int) ((12 * w + r : Nat) : Int) ((48 * w + 4 * r + t : Nat) : Int) m1 = some (1, m') ∧ eM [173, 180] m m') ∨ (v = 0 ∧ ∃ m', GO_Mo_holds_14 (fu + 1) (r : Int) ((12 * w + r : Nat) : Int) ((48 * w + 4 * r + t : Nat) : Int) m1 = some (0, m') ∧ eM [173, 180] m m') ∨ (∃ f m2, (1 ≤ f ∧ f ≤ 6) ∧ v = -10 - f ∧ eM [173, 180] m m2 ∧ GO_Mo_holds_14 (fu + 1) (r : Int) ((12 * w + r : Nat) : Int) ((48 * w + 4 * r + t : Nat) : Int) m1 = q_bv (G_Mo_find 3 f (r : Int) m2) fun m13 => some (0, m13))) := by
        intro x m2 hx y2 kC kM
        rw [s_c60 hw (by omega) hx, a54, a55] at kC
        rw [s_m129 (by omega), y2 54 (by decide), y2 55 (by decide)] at kM
        rcases tt01 (m 54 (48 * w + 4 * r + t)) x (m 55 (48 * w + 4 * r + t)) with z | z
        · rw [z] at kC kM
          refine ⟨0, kC _ rfl, Or.inr (Or.inl ⟨rfl, m2, kM _ rfl, y2⟩)⟩
        · rw [z] at kC kM
          obtain ⟨v, z1, z2⟩ := ih (t + 1) fu m2 (by omega) (by omega) y2
          have kC' : GO_Step_holds_12 (fu + 1) (r : Int) w ((4 * r + t : Nat) : Int) c = GO_Step_holds_12 fu (r : Int) w ((4 * r + (t + 1) : Nat) : Int) c := kC _ (by
            unfold GB_Step_holds_141
            rw [if_pos (by decide), p_w1 (by omega) (by omega), bi1]
            rfl)
          have kM' : GO_Mo_holds_14 (fu + 1) (r : Int) ((12 * w + r : Nat) : Int) ((48 * w + 4 * r + t : Nat) : Int) m1 = GO_Mo_holds_14 fu (r : Int) ((12 * w + r : Nat) : Int) ((48 * w + 4 * r + (t + 1) : Nat) : Int) m2 := kM _ (by
            unfold GB_Mo_holds_205
            rw [if_pos (by decide), p_w1 (by omega) (by omega), bi1]
            rfl)
          rw [kC', kM']
          exact ⟨v, z1, z2⟩
      by_cases k81 : m 52 (48 * w + 4 * r + t) = 81
      · obtain ⟨q53, q0, _⟩ := a53 k81
        obtain ⟨f, v, m2, x1, x2, x3, x4⟩ := s_quot h1 hw e11 e4 e5 (m 53 (48 * w + 4 * r + t)) q0
        have y2 : eM [173, 180] m m2 := y.tr x3
        have M2 : ∀ X, (if f ≤ 0 then GB_Mo_holds_129 (GO_Mo_holds_14 fu) (r : Int) ((12 * w + r : Nat) : Int) ((48 * w + 4 * r + t : Nat) : Int) (m2 180 0) m2 else q_bv (G_Mo_find 3 f (r : Int) m2) fun m13 => some (0, m13)) = X → GO_Mo_holds_14 (fu + 1) (r : Int) ((12 * w + r : Nat) : Int) ((48 * w + 4 * r + t : Nat) : Int) m1 = X := fun X hX => M1 X (by
          unfold GB_Mo_holds_87
          rw [if_neg (by simp [k81]), gd1 (by omega), Int.toNat_natCast, y 53 (by decide), x2, q_some2, bi1]
          exact hX)
        have C2 : ∀ X, GB_Step_holds_60 (GO_Step_holds_12 fu) (r : Int) w ((4 * r + t : Nat) : Int) v c = X → GO_Step_holds_12 (fu + 1) (r : Int) w ((4 * r + t : Nat) : Int) c = X := fun X hX => C1 X (by
          rw [if_neg (by simp [k81]), q53, x1, q_some]
          exact hX)
        rcases x4 with ⟨rfl, v0, hv⟩ | ⟨hf6, rfl⟩
        · rw [if_pos (by decide), hv] at M2
          exact go v m2 v0 y2 C2 M2
        · rw [if_neg (by omega)] at M2
          refine ⟨-10 - f, C2 _ ?_, Or.inr (Or.inr ⟨f, m2, hf6, rfl, y2, M2 _ rfl⟩)⟩
          unfold GB_Step_holds_60
          rw [if_neg (by omega)]
      · obtain ⟨⟨v1, v1'⟩, ⟨v2, v2'⟩, v3, v3'⟩ := hV
        refine go (if m 52 (48 * w + 4 * r + t) ≠ 68 then (if m 52 (48 * w + 4 * r + t) ≠ 87 then (if m 52 (48 * w + 4 * r + t) ≠ 83 then m 4 w else m 177 0) else m 176 0) else m 175 0) m1 ?_ y (fun X hX => C1 X ?_) (fun X hX => M1 X ?_)
        · repeat' split
          all_goals omega
        · rw [if_pos k81, ← hX]
          unfold G_Step_plainValue
          rw [v1, v2, v3, e5, Int.toNat_natCast, gd1 (by omega), s4.1]
          by_cases z1 : m 52 (48 * w + 4 * r + t) = 68
          · simp [z1, q_some]
          · by_cases z2 : m 52 (48 * w + 4 * r + t) = 83
            · simp [z2, q_some]
            · by_cases z3 : m 52 (48 * w + 4 * r + t) = 87
              · simp [z3, q_some]
              · simp [z1, z2, z3, q_some]
        · unfold GB_Mo_holds_87
          rw [if_pos k81]
          exact hX
  obtain ⟨n, hn⟩ : ∃ n : Nat, m 50 (12 * w + r) = (n : Int) := ⟨(m 50 (12 * w + r)).toNat, by omega⟩
  obtain ⟨v, z1, z2⟩ := key n 0 3000 m (by rw [hn, Nat.zero_add]) (by omega) (eM.rf _ _)
  have hC : G_Step_holds (r : Int) c = GO_Step_holds_12 3000 (r : Int) w ((4 * r + 0 : Nat) : Int) c := by
    unfold G_Step_holds
    rw [e4, gd1 (by omega), p_w1 (by omega) (by omega), bi1, Int.toNat_natCast]
    rfl
  have hM : G_Mo_holds (r : Int) m = GO_Mo_holds_14 3000 (r : Int) ((12 * w + r : Nat) : Int) ((48 * w + 4 * r + 0 : Nat) : Int) m := by
    unfold G_Mo_holds
    rw [e1, p_w1 (x := 12 * (w : Int)) (by omega) (by omega), p_w1 (by omega) (by omega), bi1, p_w1 (by omega) (by omega), bi1, show 12 * (w : Int) + (r : Int) = ((12 * w + r : Nat) : Int) by omega, show 4 * ((12 * w + r : Nat) : Int) = ((48 * w + 4 * r + 0 : Nat) : Int) by omega]
  rw [hC, hM]
  exact ⟨v, z1, z2⟩
