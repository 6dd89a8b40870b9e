/-! ===== rules judged: tests ===== -/
/-- the reference's rows of what it reads, seen as rules -/
def vw (m : h_M) : h_M := fun f => if f = 49 then m 62 else if f = 50 then m 63 else if f = 52 then m 64 else if f = 53 then m 65 else if f = 54 then m 66 else if f = 55 then m 67 else m f
theorem vw49 (m : h_M) : vw m 49 = m 62 := rfl
theorem vw50 (m : h_M) : vw m 50 = m 63 := rfl
theorem vw52 (m : h_M) : vw m 52 = m 64 := rfl
theorem vw53 (m : h_M) : vw m 53 = m 65 := rfl
theorem vw54 (m : h_M) : vw m 54 = m 66 := rfl
theorem vw55 (m : h_M) : vw m 55 = m 67 := rfl
/-- the place that is wrong, in both -/
def QP (c : h_C) (m : h_M) : Prop := ∃ q : Nat, q ≤ 200 ∧ c 1003 0 0 = (q : Int) ∧ m 169 0 = (q : Int)
/-- test i is stored alike -/
def TS (c : h_C) (m : h_M) (i : Nat) : Prop := c 2022 3 i = m 64 i ∧ (m 64 i = 81 → c 2023 3 i = m 65 i ∧ 0 ≤ m 65 i ∧ m 65 i ≤ 9999) ∧ c 2024 3 i = m 66 i ∧ c 2025 3 i = m 67 i ∧ 0 ≤ m 67 i ∧ m 67 i ≤ 9999
/-- what judging a test may change in the class -/
def eJ (c c' : h_C) (i : Nat) : Prop := eC [2022, 2023, 2024, 2025, 2026, 508, 1003] c c' ∧ (∀ f x, f ∈ [2022, 2023, 2024, 2025, 2026, 508] → x ≠ 3 → c' f x = c f x) ∧ (∀ f k, f ∈ [2022, 2023, 2024, 2025] → k ≠ i → c' f 3 k = c f 3 k)
theorem eT.j {c c' : h_C} (h : eT c c') (i : Nat) : eJ c c' i := by
  refine ⟨h.1.up (by decide), fun f x hf hx => ?_, fun f k hf _ => by rw [h.1 f (by revert hf; revert f; decide)]⟩
  by_cases e : f = 2026
  · rw [e]; exact (h.2 x hx).1
  · by_cases e' : f = 508
    · rw [e']; exact (h.2 x hx).2
    · rw [h.1 f (by
        unfold jT
        simp only [List.mem_cons, List.not_mem_nil, or_false] at hf ⊢
        omega)]
theorem eJ.tr {c c1 c2 : h_C} {i : Nat} (h : eJ c c1 i) (k : eJ c1 c2 i) : eJ c c2 i := ⟨h.1.tr k.1, fun f x hf hx => (k.2.1 f x hf hx).trans (h.2.1 f x hf hx), fun f x hf hx => (k.2.2 f x hf hx).trans (h.2.2 f x hf hx)⟩
theorem eJ.wc {c : h_C} {f i : Nat} (hf : f ∈ [2022, 2023, 2024, 2025]) (v : Int) : eJ c (wc c f 3 i v) i := by
  have hf' : f ∈ [2022, 2023, 2024, 2025, 2026, 508, 1003] := by revert hf; revert f; decide
  refine ⟨eC.wc (eC.rf _ _) hf' _ _ _, fun g x _ hx => by funext k; rw [wc_at, if_neg (fun z => hx z.2.1)], fun g k _ hk => by rw [wc_at, if_neg (fun z => hk z.2.2)]⟩
theorem JC.wc {c : h_C} {L : Nat → Int} {n p : Nat} {T : List Int} (h : JC c L n p T) {f : Nat} (hf : f ∉ [1002, 1003, 5004, 2042, 508, 2026]) (i k : Nat) (v : Int) : JC (wc c f i k v) L n p T := by
  simp only [List.mem_cons, List.not_mem_nil, or_false, not_or] at hf
  obtain ⟨⟨h1, h2, h3, h4⟩, ⟨t1, t2⟩, h5⟩ := h
  refine ⟨⟨by rw [wc_ne (fun z => hf.1 z.symm)]; exact h1, by rw [wc_ne (fun z => hf.2.1 z.symm)]; exact h2, by rw [wc_ne (fun z => hf.2.2.1 z.symm)]; exact h3, by funext x; rw [wc_ne (fun z => hf.2.2.2.1 z.symm), h4]⟩, ⟨by rw [wc_ne (fun z => hf.2.2.2.2.1 z.symm)]; exact t1, fun x hx => by rw [wc_ne (fun z => hf.2.2.2.2.2 z.symm)]; exact t2 x hx⟩, h5⟩
theorem JM.of {m m' : h_M} {L : Nat → Int} {n p : Nat} {l : List Nat} (h : JM m L n p) (e : eM l m m') (d : dj [147, 168, 46] l) : JM m' L n p := ⟨by rw [e.of (f := 147) (by decide) d]; exact h.1, by rw [e.of (f := 168) (by decide) d]; exact h.2.1, by rw [e.of (f := 46) (by decide) d]; exact h.2.2⟩
/-- the sign and the value, in both -/
theorem j_signs {c : h_C} {m : h_M} {L : Nat → Int} {n p : Nat} {T : List Int} (h : JC c L n p T) (g : JM m L n p) {i r : Nat} (hi : i < 48) (hr : r < 12) (h63 : 0 ≤ m 63 r ∧ m 63 r < 4) : (∃ c' m', GB_Judge_takeTest_87 (i : Int) c = some (0, c') ∧ GB_Mo_test_114 (r : Int) (i : Int) m = some (0, m') ∧ QP c' m' ∧ eJ c c' i ∧ eM [63, 64, 65, 66, 67, 168, 169, 170] m m') ∨ (∃ c' m' p', GB_Judge_takeTest_87 (i : Int) c = some (1, c') ∧ GB_Mo_test_114 (r : Int) (i : Int) m = some (1, m') ∧ JC c' L n p' (T ++ (m' 66 i :: tN (m' 67 i))) ∧ JM m' L n p' ∧ eJ c c' i ∧ eM [63, 66, 67, 168, 170] m m' ∧ c' 2022 3 i = c 2022 3 i ∧ c' 2023 3 i = c 2023 3 i ∧ c' 2024 3 i = m' 66 i ∧ c' 2025 3 i = m' 67 i ∧ 0 ≤ m' 67 i ∧ m' 67 i ≤ 9999 ∧ m' 63 r = m 63 r + 1 ∧ (∀ f k, f ∈ [66, 67] → k ≠ i → m' f k = m f k) ∧ (∀ k, k ≠ r → m' 63 k = m 63 k)) := by
  have hn := h.2.2.2.1
  have hpn := h.2.2.1
  have hi3 : (0 : Int) ≤ (i : Int) ∧ (i : Int) < 48 := by omega
  have jn := j_next h
  have jh := j_here g hn
  generalize ec1 : wc c 2024 3 i (if p < n then L p else -1) = c1
  generalize em1 : wm m 66 i (if p < n then L p else 0) = m1
  have j1 : JC c1 L n p T := by rw [← ec1]; exact h.wc (by decide) _ _ _
  have nm1 : eM [66] m m1 := by rw [← em1]; exact (by repeat first | exact eM.rf _ _ | refine eM.wm ?_ (by decide) _ _)
  have g1 : JM m1 L n p := g.of nm1 rfl
  have q1 : eJ c c1 i := by rw [← ec1]; exact eJ.wc (by decide) _
  have jh1 := j_here g1 hn
  by_cases e : p < n ∧ (L p = 60 ∨ L p = 61 ∨ L p = 62)
  case neg =>
    refine Or.inl ⟨c1, wm m1 169 0 (p : Int), ?_, ?_, ?_, q1, (nm1.up (by decide)).tr (eM.up (l := [169]) (by repeat first | exact eM.rf _ _ | refine eM.wm ?_ (by decide) _ _) (by decide))⟩
    · unfold GB_Judge_takeTest_87
      rw [jn, q_some, gd1 hi3, Int.toNat_natCast, ec1, bi1, j_take0 j1 (by omega), q_some2, if_neg (by decide), j_take0 j1 (by omega), q_some2, if_neg (by decide), j_take0 j1 (by omega), q_some2, if_neg (by decide)]
    · unfold GB_Mo_test_114 G_Mo_sign G_Mo_wrong
      rw [jh, q_some, gd1 hi3, Int.toNat_natCast, em1, bi1, jh1, q_some]
      have hx : ∀ v : Int, (v = 60 ∨ v = 61 ∨ v = 62) → ¬ ((if p < n then L p else 0) = v) := fun v hv z => by
        by_cases e2 : p < n
        · rw [if_pos e2] at z; exact e ⟨e2, by omega⟩
        · rw [if_neg e2] at z; omega
      rw [if_neg (hx 60 (by omega)), q_some, if_neg (hx 61 (by omega)), q_some, if_neg (hx 62 (by omega)), g1.2.1, bi1, q_some2, gd1 (by decide), q_some2, if_pos rfl]
    · exact ⟨p, by omega, j1.1.2.1, by rw [wm_at, if_pos ⟨rfl, rfl⟩]⟩
  obtain ⟨en, es⟩ := e
  rw [if_pos en] at jn jh jh1
  obtain ⟨c2, y1, y2, y3⟩ := j_take1 j1 en (v := L p) rfl
  have tk : ∀ v : Int, L p = v → G_Judge_take v c1 = some (1, c2) := fun v hv => by rw [← hv]; exact y1
  have hC : GB_Judge_takeTest_87 (i : Int) c = GB_Judge_takeTest_131 (i : Int) c2 := by
    unfold GB_Judge_takeTest_87
    rw [jn, q_some, gd1 hi3, Int.toNat_natCast, show wc c 2024 3 i (L p) = c1 by rw [← ec1, if_pos en], bi1]
    by_cases e60 : L p = 60
    · rw [tk 60 e60, q_some2, if_pos (by decide)]
    · rw [j_take0 j1 (fun z => e60 z.2), q_some2, if_neg (by decide)]
      by_cases e61 : L p = 61
      · rw [tk 61 e61, q_some2, if_pos (by decide)]
      · rw [j_take0 j1 (fun z => e61 z.2), q_some2, if_neg (by decide), tk 62 (by omega), q_some2, if_pos (by decide)]
  generalize em2 : wm m1 168 0 ((p : Int) + 1) = m2
  have nm2 : eM [168] m1 m2 := by rw [← em2]; exact (by repeat first | exact eM.rf _ _ | refine eM.wm ?_ (by decide) _ _)
  have g2 : JM m2 L n (p + 1) := ⟨by rw [nm2 147 (by decide)]; exact g1.1, by rw [← em2]; simp [wm_at], by rw [nm2 46 (by decide)]; exact g1.2.2⟩
  have hS : G_Mo_sign m1 = some (1, m2) := by
    unfold G_Mo_sign GB_Mo_sign_36
    rw [jh1, q_some, g1.2.1, p_w1 (by omega) (by omega), em2, bi1]
    by_cases e60 : L p = 60
    · rw [if_pos e60]
    · rw [if_neg e60, q_some]
      by_cases e61 : L p = 61
      · rw [if_pos e61]
      · rw [if_neg e61, q_some, if_pos (by omega)]
  have hM : ∀ X, (q_bd (G_Mo_number m2) fun r16 m17 => if r16 ≠ 0 then p_bi (wm m17 67 i (m17 170 0)) fun m20 => p_gd ((0 : Int) ≤ (r : Int) ∧ (r : Int) < (12 : Int)) <| p_bi (wm m20 63 r (p_w ((m20 63 r) + 1))) fun m23 => some ((1 : Int), m23) else some (0, m17)) = X → GB_Mo_test_114 (r : Int) (i : Int) m = X := fun X hX => by
    unfold GB_Mo_test_114
    rw [jh, q_some, gd1 hi3, Int.toNat_natCast, show wm m 66 i (L p) = m1 by rw [← em1, if_pos en], bi1, hS, q_some2, if_neg (by decide), Int.toNat_natCast]
    exact hX
  have q2 : eJ c c2 i := q1.tr (y3.j i)
  have nm12 : eM [66, 168] m m2 := (nm1.up (by decide)).tr (nm2.up (by decide))
  by_cases d : dg L n (p + 1)
  case neg =>
    refine Or.inl ⟨wc c2 2025 3 i (-1), wm m2 169 0 ((p + 1 : Nat) : Int), ?_, hM _ ?_, ?_, q2.tr (eJ.wc (by decide) _), (nm12.up (by decide)).tr (eM.up (l := [169]) (by repeat first | exact eM.rf _ _ | refine eM.wm ?_ (by decide) _ _) (by decide))⟩
    · rw [hC]
      unfold GB_Judge_takeTest_131
      rw [j_num0 y2 d, q_some2, gd1 hi3, Int.toNat_natCast, bi1, if_pos (by simp [wc_at])]
    · rw [n_num0 hn g2 d, q_some2, if_neg (by decide)]
    · exact ⟨p + 1, by omega, by rw [wc_ne (by decide)]; exact y2.1.2.1, by rw [wm_at, if_pos ⟨rfl, rfl⟩]⟩
  obtain ⟨c3, z1, z2, z3⟩ := j_num1 y2 d
  obtain ⟨m3, w1, w2, w3, w4⟩ := n_num1 hn g2 d
  have hval := nu_val L n 4 (p + 1) 0 (by omega) (by omega) (by decide)
  have nm13 : eM [66, 168, 170] m m3 := (nm12.up (by decide)).tr (w4.up (by decide))
  have e63 : m3 63 r = m 63 r := by rw [nm13 63 (by decide)]
  generalize em4 : wm (wm m3 67 i (nu L n 4 (p + 1) 0).2) 63 r (m 63 r + 1) = m4
  have nm4 : eM [67, 63] m3 m4 := by rw [← em4]; exact (by repeat first | exact eM.rf _ _ | refine eM.wm ?_ (by decide) _ _)
  have v66 : m4 66 i = L p := by rw [nm4 66 (by decide), w4 66 (by decide), nm2 66 (by decide), ← em1, if_pos en]; simp [wm_at]
  have v67 : m4 67 i = (nu L n 4 (p + 1) 0).2 := by rw [← em4, wm_at, if_neg (by omega), wm_at, if_pos ⟨rfl, rfl⟩]
  have vc24 : c1 2024 3 i = L p := by rw [← ec1, if_pos en]; simp [wc_at]
  refine Or.inr ⟨wc c3 2025 3 i (nu L n 4 (p + 1) 0).2, m4, (nu L n 4 (p + 1) 0).1, ?_, hM _ ?_, ?_, w2.of nm4 rfl, (q2.tr (z3.j i)).tr (eJ.wc (by decide) _), (nm13.up (by decide)).tr (nm4.up (by decide)), ?_, ?_, ?_, ?_, by rw [v67]; exact hval.1, by rw [v67]; exact hval.2, ?_, fun f k hf hk => ?_, fun k hk => ?_⟩
  · rw [hC]
    unfold GB_Judge_takeTest_131
    rw [z1, q_some2, gd1 hi3, Int.toNat_natCast, bi1, if_neg (by rw [wc_at, if_pos ⟨rfl, rfl, rfl⟩]; omega)]
  · rw [w1, q_some2, if_pos (by decide), w3, bi1, gd1 (by omega), show (wm m3 67 i (nu L n 4 (p + 1) 0).2) 63 r = m 63 r by rw [wm_at, if_neg (by omega)]; exact e63, p_w1 (by omega) (by omega), bi1, em4]
  · have : T ++ [L p] ++ tN (nu L n 4 (p + 1) 0).2 = T ++ (m4 66 i :: tN (m4 67 i)) := by rw [v66, v67, List.append_assoc]; rfl
    rw [← this]
    exact z2.wc (by decide) _ _ _
  · rw [wc_ne (by decide), z3.1 2022 (by decide), y3.1 2022 (by decide), ← ec1, wc_ne (by decide)]
  · rw [wc_ne (by decide), z3.1 2023 (by decide), y3.1 2023 (by decide), ← ec1, wc_ne (by decide)]
  · rw [wc_ne (by decide), z3.1 2024 (by decide), y3.1 2024 (by decide), v66]; exact vc24
  · rw [wc_at, if_pos ⟨rfl, rfl, rfl⟩, v67]
  · rw [← em4, wm_at, if_pos ⟨rfl, rfl⟩]
  · rw [← em4, wm_at, if_neg (by
      simp only [List.mem_cons, List.not_mem_nil, or_false] at hf
      omega), wm_at, if_neg (fun z => hk z.2), w4 f (by
      simp only [List.mem_cons, List.not_mem_nil, or_false] at hf ⊢
      omega), nm2 f (by
      simp only [List.mem_cons, List.not_mem_nil, or_false] at hf ⊢
      omega), ← em1, wm_at, if_neg (fun z => hk z.2)]
  · rw [← em4, wm_at, if_neg (fun z => hk z.2), wm_at, if_neg (by omega), nm13 63 (by decide)]
def lmJ : List Nat := [63, 64, 65, 66, 67, 168, 169, 170]
/-- a test, in both -/
theorem j_test {c : h_C} {m : h_M} {L : Nat → Int} {n p : Nat} {T : List Int} (h : JC c L n p T) (g : JM m L n p) {r t : Nat} (hr : r < 12) (ht : t < 4) (h63 : m 63 r = (t : Int)) : (∃ c' m', G_Judge_takeTest ((4 * r + t : Nat) : Int) c = some (0, c') ∧ G_Mo_test (r : Int) m = some (0, m') ∧ QP c' m' ∧ eJ c c' (4 * r + t) ∧ eM lmJ m m') ∨ (∃ c' m' p', G_Judge_takeTest ((4 * r + t : Nat) : Int) c = some (1, c') ∧ G_Mo_test (r : Int) m = some (1, m') ∧ JC c' L n p' (T ++ tT (vw m') (4 * r + t)) ∧ JM m' L n p' ∧ eJ c c' (4 * r + t) ∧ eM lmJ m m' ∧ TS c' m' (4 * r + t) ∧ m' 63 r = ((t + 1 : Nat) : Int) ∧ (∀ f k, f ∈ [64, 65, 66, 67] → k ≠ 4 * r + t → m' f k = m f k) ∧ (∀ k, k ≠ r → m' 63 k = m 63 k)) := by
  have hn := h.2.2.2.1
  have hpn := h.2.2.1
  have jn := j_next h
  have jh := j_here g hn
  obtain ⟨i, hi⟩ : ∃ i, i = 4 * r + t := ⟨_, rfl⟩
  rw [← hi]
  have hi3 : (0 : Int) ≤ (i : Int) ∧ (i : Int) < 48 := by omega
  have hr3 : (0 : Int) ≤ (r : Int) ∧ (r : Int) < 12 := by omega
  by_cases e : p < n ∧ (L p = 68 ∨ L p = 87 ∨ L p = 83 ∨ L p = 84 ∨ L p = 81)
  case neg =>
    refine Or.inl ⟨c, wm m 169 0 (p : Int), ?_, ?_, ?_, (eT.rf c).j i, eM.up (l := [169]) (by repeat first | exact eM.rf _ _ | refine eM.wm ?_ (by decide) _ _) (by decide)⟩
    · unfold G_Judge_takeTest
      have hx : ∀ v : Int, (v = 68 ∨ v = 87 ∨ v = 83 ∨ v = 84 ∨ v = 81) → ¬ ((if p < n then L p else -1) = v) := fun v hv z => by
        by_cases e2 : p < n
        · rw [if_pos e2] at z; exact e ⟨e2, by omega⟩
        · rw [if_neg e2] at z; omega
      rw [jn, q_some, if_neg (hx 68 (by omega)), if_neg (hx 87 (by omega)), if_neg (hx 83 (by omega)), if_neg (hx 84 (by omega)), if_neg (hx 81 (by omega))]
    · unfold G_Mo_test GB_Mo_test_45 G_Mo_wrong
      have hx : ∀ v : Int, (v = 68 ∨ v = 87 ∨ v = 83 ∨ v = 84 ∨ v = 81) → ¬ ((if p < n then L p else 0) = v) := fun v hv z => by
        by_cases e2 : p < n
        · rw [if_pos e2] at z; exact e ⟨e2, by omega⟩
        · rw [if_neg e2] at z; omega
      rw [jh, q_some, gd1 hr3, Int.toNat_natCast, h63, if_neg (by omega), if_neg (hx 68 (by omega)), if_neg (hx 87 (by omega)), if_neg (hx 83 (by omega)), if_neg (hx 84 (by omega)), if_neg (hx 81 (by omega)), g.2.1, bi1, q_some2, gd1 (by decide)]
    · exact ⟨p, by omega, h.1.2.1, by rw [wm_at, if_pos ⟨rfl, rfl⟩]⟩
  obtain ⟨en, el⟩ := e
  rw [if_pos en] at jn jh
  have hC0 : G_Judge_takeTest (i : Int) c = GB_Judge_takeTest_37 (i : Int) (L p) c := by
    unfold G_Judge_takeTest
    rw [jn, q_some]
    by_cases a1 : L p = 68
    · rw [if_pos a1]
    · by_cases a2 : L p = 87
      · rw [if_neg a1, if_pos a2]
      · by_cases a3 : L p = 83
        · rw [if_neg a1, if_neg a2, if_pos a3]
        · by_cases a4 : L p = 84
          · rw [if_neg a1, if_neg a2, if_neg a3, if_pos a4]
          · rw [if_neg a1, if_neg a2, if_neg a3, if_neg a4, if_pos (by omega)]
  have hM0 : G_Mo_test (r : Int) m = GB_Mo_test_54 (r : Int) (L p) m := by
    unfold G_Mo_test
    rw [jh, q_some, gd1 hr3, Int.toNat_natCast, h63, if_neg (by omega)]
    by_cases a1 : L p = 68
    · rw [if_pos a1]
    · by_cases a2 : L p = 87
      · rw [if_neg a1, if_pos a2]
      · by_cases a3 : L p = 83
        · rw [if_neg a1, if_neg a2, if_pos a3]
        · by_cases a4 : L p = 84
          · rw [if_neg a1, if_neg a2, if_neg a3, if_pos a4]
          · rw [if_neg a1, if_neg a2, if_neg a3, if_neg a4, if_pos (by omega)]
  obtain ⟨c1, y1, y2, y3⟩ := j_take1 h en (v := L p) rfl
  generalize ec2 : wc c1 2022 3 i (L p) = c2
  have j2 : JC c2 L n (p + 1) (T ++ [L p]) := by rw [← ec2]; exact y2.wc (by decide) _ _ _
  have q2 : eJ c c2 i := by rw [← ec2]; exact (y3.j i).tr (eJ.wc (by decide) _)
  generalize em2 : wm (wm (wm m 64 i (L p)) 65 i 0) 168 0 ((p : Int) + 1) = m2
  have nm2 : eM [64, 65, 168] m m2 := by rw [← em2]; exact (by repeat first | exact eM.rf _ _ | refine eM.wm ?_ (by decide) _ _)
  have g2 : JM m2 L n (p + 1) := ⟨by rw [nm2 147 (by decide)]; exact g.1, by rw [← em2]; simp [wm_at], by rw [nm2 46 (by decide)]; exact g.2.2⟩
  have o2 : ∀ f k, f ∈ [64, 65, 66, 67] → k ≠ i → m2 f k = m f k := fun f k hf hk => by
    rw [← em2, wm_at, if_neg (by
      simp only [List.mem_cons, List.not_mem_nil, or_false] at hf
      omega), wm_at, if_neg (fun z => hk z.2), wm_at, if_neg (fun z => hk z.2)]
  have v64 : m2 64 i = L p := by rw [← em2]; simp [wm_at]
  have v22 : c2 2022 3 i = L p := by rw [← ec2]; simp [wc_at]
  have hC1 : ∀ X, (if L p ≠ 81 then GB_Judge_takeTest_87 (i : Int) c2 else q_bd (G_Judge_takeNumber c2) fun r12 c13 => p_bi (wc c13 2023 3 i r12) fun c15 => if (c15 2023 3 i) ≠ (-1) then GB_Judge_takeTest_87 (i : Int) c15 else some (0, c15)) = X → G_Judge_takeTest (i : Int) c = X := fun X hX => by
    rw [hC0]
    unfold GB_Judge_takeTest_37
    rw [y1, q_some2, gd1 hi3, Int.toNat_natCast, ec2, bi1]
    exact hX
  have hM1 : ∀ X, (if L p ≠ 81 then GB_Mo_test_114 (r : Int) (i : Int) m2 else q_bd (G_Mo_number m2) fun r14 m15 => if r14 ≠ 0 then p_bi (wm m15 65 i (m15 170 0)) fun m18 => GB_Mo_test_114 (r : Int) (i : Int) m18 else some (0, m15)) = X → G_Mo_test (r : Int) m = X := fun X hX => by
    rw [hM0]
    unfold GB_Mo_test_54
    rw [gd1 hr3, Int.toNat_natCast, h63, p_w1 (x := 4 * (r : Int)) (by omega) (by omega), p_w1 (x := 4 * (r : Int) + (t : Int)) (by omega) (by omega), bi1, show 4 * (r : Int) + (t : Int) = (i : Int) by omega, gd1 hi3, Int.toNat_natCast, bi1, bi1, show (wm (wm m 64 i (L p)) 65 i 0) 168 0 = (p : Int) by rw [wm_at, if_neg (by omega), wm_at, if_neg (by omega)]; exact g.2.1, p_w1 (x := (p : Int) + 1) (by omega) (by omega), bi1, em2]
    exact hX
  -- from the sign on
  have rest : ∀ (c3 : h_C) (m3 : h_M) (p3 : Nat) (N : List Int), JC c3 L n p3 (T ++ ([L p] ++ N)) → JM m3 L n p3 → eJ c c3 i → eM [64, 65, 168, 170] m m3 → m3 64 i = L p → c3 2022 3 i = L p → (L p = 81 → c3 2023 3 i = m3 65 i ∧ 0 ≤ m3 65 i ∧ m3 65 i ≤ 9999) → N = (if L p = 81 then tN (m3 65 i) else []) → (∀ f k, f ∈ [64, 65, 66, 67] → k ≠ i → m3 f k = m f k) → (∃ c' m', GB_Judge_takeTest_87 (i : Int) c3 = some (0, c') ∧ GB_Mo_test_114 (r : Int) (i : Int) m3 = some (0, m') ∧ QP c' m' ∧ eJ c c' i ∧ eM lmJ m m') ∨ (∃ c' m' p', GB_Judge_takeTest_87 (i : Int) c3 = some (1, c') ∧ GB_Mo_test_114 (r : Int) (i : Int) m3 = some (1, m') ∧ JC c' L n p' (T ++ tT (vw m') i) ∧ JM m' L n p' ∧ eJ c c' i ∧ eM lmJ m m' ∧ TS c' m' i ∧ m' 63 r = ((t + 1 : Nat) : Int) ∧ (∀ f k, f ∈ [64, 65, 66, 67] → k ≠ i → m' f k = m f k) ∧ (∀ k, k ≠ r → m' 63 k = m 63 k)) := fun c3 m3 p3 N a1 a2 a3 a4 a5 a6 a7 a8 a9 => by
    have b63 : m3 63 = m 63 := a4 63 (by decide)
    rcases j_signs a1 a2 (i := i) (by omega) hr (by rw [b63, h63]; omega) with ⟨c', m', b1, b2, b3, b4, b5⟩ | ⟨c', m', p', b1, b2, b3, b4, b5, b6, b7, b8, b9, b10, b11, b12, b13, b14, b15⟩
    · exact Or.inl ⟨c', m', b1, b2, b3, a3.tr b4, (a4.up (by decide)).tr (b5.up (by decide))⟩
    · have f64 : m' 64 = m3 64 := b6 64 (by decide)
      have f65 : m' 65 = m3 65 := b6 65 (by decide)
      refine Or.inr ⟨c', m', p', b1, b2, ?_, b4, a3.tr b5, (a4.up (by decide)).tr (b6.up (by decide)), ⟨by rw [b7, f64, a6, a5], fun z => ?_, b9, b10, b11, b12⟩, by rw [b13, b63, h63]; omega, fun f k hf hk => ?_, fun k hk => by rw [b15 k hk, b63]⟩
      · have : T ++ ([L p] ++ N) ++ (m' 66 i :: tN (m' 67 i)) = T ++ tT (vw m') i := by
          unfold tT
          rw [vw52, vw53, vw54, vw55, f64, f65, a5, a8, List.append_assoc, List.append_assoc]
          rfl
        rw [← this]
        exact b3
      · rw [f64, a5] at z
        rw [b8, f65]
        exact a7 z
      · by_cases z : f = 66 ∨ f = 67
        · rw [b14 f k (by simpa using z) hk]
          exact a9 f k hf hk
        · rw [b6 f (by
            simp only [List.mem_cons, List.not_mem_nil, or_false] at hf ⊢
            omega)]
          exact a9 f k hf hk
  by_cases e81 : L p = 81
  case neg =>
    rcases rest c2 m2 (p + 1) [] (by rw [List.append_nil]; exact j2) g2 q2 (nm2.up (by decide)) v64 v22 (fun z => absurd z e81) (by rw [if_neg e81]) o2 with ⟨c', m', b1, b2, b3⟩ | ⟨c', m', p', b1, b2, b3⟩
    · exact Or.inl ⟨c', m', hC1 _ (by rw [if_pos e81]; exact b1), hM1 _ (by rw [if_pos e81]; exact b2), b3⟩
    · exact Or.inr ⟨c', m', p', hC1 _ (by rw [if_pos e81]; exact b1), hM1 _ (by rw [if_pos e81]; exact b2), b3⟩
  by_cases d : dg L n (p + 1)
  case neg =>
    refine Or.inl ⟨wc c2 2023 3 i (-1), wm m2 169 0 ((p + 1 : Nat) : Int), hC1 _ ?_, hM1 _ ?_, ?_, q2.tr (eJ.wc (by decide) _), (nm2.up (by decide)).tr (eM.up (l := [169]) (by repeat first | exact eM.rf _ _ | refine eM.wm ?_ (by decide) _ _) (by decide))⟩
    · rw [if_neg (by simpa using e81), j_num0 j2 d, q_some2, bi1, if_neg (by simp [wc_at])]
    · rw [if_neg (by simpa using e81), n_num0 hn g2 d, q_some2, if_neg (by decide)]
    · exact ⟨p + 1, by omega, by rw [wc_ne (by decide)]; exact j2.1.2.1, by rw [wm_at, if_pos ⟨rfl, rfl⟩]⟩
  obtain ⟨c3, z1, z2, z3⟩ := j_num1 j2 d
  obtain ⟨m3, w1, w2, w3, w4⟩ := n_num1 hn g2 d
  have hval := nu_val L n 4 (p + 1) 0 (by omega) (by omega) (by decide)
  generalize em4 : wm m3 65 i (nu L n 4 (p + 1) 0).2 = m4
  have nm4 : eM [65] m3 m4 := by rw [← em4]; exact (by repeat first | exact eM.rf _ _ | refine eM.wm ?_ (by decide) _ _)
  have v65 : m4 65 i = (nu L n 4 (p + 1) 0).2 := by rw [← em4]; simp [wm_at]
  rcases rest (wc c3 2023 3 i (nu L n 4 (p + 1) 0).2) m4 (nu L n 4 (p + 1) 0).1 (tN (nu L n 4 (p + 1) 0).2) (by rw [← List.append_assoc]; exact z2.wc (by decide) _ _ _) (w2.of nm4 rfl) ((q2.tr (z3.j i)).tr (eJ.wc (by decide) _)) (((nm2.up (by decide)).tr (w4.up (by decide))).tr (nm4.up (by decide))) (by rw [nm4 64 (by decide), w4 64 (by decide)]; exact v64) (by rw [wc_ne (by decide), z3.1 2022 (by decide)]; exact v22) (fun _ => by rw [v65, wc_at, if_pos ⟨rfl, rfl, rfl⟩]; exact ⟨rfl, hval.1, hval.2⟩) (by rw [if_pos e81, v65]) (fun f k hf hk => by
    rw [← em4, wm_at, if_neg (fun z => hk z.2), w4 f (by
      simp only [List.mem_cons, List.not_mem_nil, or_false] at hf ⊢
      omega)]
    exact o2 f k hf hk) with ⟨c', m', b1, b2, b3⟩ | ⟨c', m', p', b1, b2, b3⟩
  · refine Or.inl ⟨c', m', hC1 _ ?_, hM1 _ ?_, b3⟩
    · rw [if_neg (by simpa using e81), z1, q_some2, bi1, if_pos (by rw [wc_at, if_pos ⟨rfl, rfl, rfl⟩]; omega)]
      exact b1
    · rw [if_neg (by simpa using e81), w1, q_some2, if_pos (by decide), w3, bi1, em4]
      exact b2
  · refine Or.inr ⟨c', m', p', hC1 _ ?_, hM1 _ ?_, b3⟩
    · rw [if_neg (by simpa using e81), z1, q_some2, bi1, if_pos (by rw [wc_at, if_pos ⟨rfl, rfl, rfl⟩]; omega)]
      exact b1
    · rw [if_neg (by simpa using e81), w1, q_some2, if_pos (by decide), w3, bi1, em4]
      exact b2
