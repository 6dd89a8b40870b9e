/-! ===== rules judged: a rule ===== -/
def R58 (r : Nat) (m : h_M) : Option (Int × h_M) := GL_Mo_rule_0_37 (fun _ _ _ => none) (r : Int) 0 m
theorem R58_eq (k : Int → Int → h_M → Option (Int × h_M)) (r : Nat) (m : h_M) : GL_Mo_rule_0_37 k (r : Int) 0 m = R58 r m := by
  unfold R58 GL_Mo_rule_0_37
  rw [if_pos rfl, if_pos rfl]
/-- what judging rule r may change -/
def eR (c c' : h_C) (r : Nat) : Prop := eC [2020, 2021, 2022, 2023, 2024, 2025, 2026, 508, 1003] c c' ∧ (∀ f x, f ∈ [2020, 2021, 2022, 2023, 2024, 2025, 2026, 508] → x ≠ 3 → c' f x = c f x) ∧ (∀ f k, f ∈ [2020, 2021] → k ≠ r → c' f 3 k = c f 3 k) ∧ (∀ f k, f ∈ [2022, 2023, 2024, 2025] → ¬ (4 * r ≤ k ∧ k < 4 * r + 4) → c' f 3 k = c f 3 k)
def eRm (m m' : h_M) (r : Nat) : Prop := eM [62, 63, 64, 65, 66, 67, 168, 169, 170] m m' ∧ (∀ f k, f ∈ [62, 63] → k ≠ r → m' f k = m f k) ∧ (∀ f k, f ∈ [64, 65, 66, 67] → ¬ (4 * r ≤ k ∧ k < 4 * r + 4) → m' f k = m f k)
def eF (c c' : h_C) : Prop := eC [2020, 2021, 2022, 2023, 2024, 2025, 2026, 508, 1003] c c' ∧ (∀ f x, f ∈ [2020, 2021, 2022, 2023, 2024, 2025, 2026, 508] → x ≠ 3 → c' f x = c f x)
def ljM : List Nat := [62, 63, 64, 65, 66, 67, 168, 169, 170]
theorem eR.f {c c' : h_C} {r : Nat} (h : eR c c' r) : eF c c' := ⟨h.1, h.2.1⟩
theorem eF.tr {c c1 c2 : h_C} (h : eF c c1) (k : eF c1 c2) : eF c c2 := ⟨h.1.tr k.1, fun f x a b => (k.2 f x a b).trans (h.2 f x a b)⟩
theorem eR.rf (c : h_C) (r : Nat) : eR c c r := ⟨eC.rf _ _, fun _ _ _ _ => rfl, fun _ _ _ _ => rfl, fun _ _ _ _ => rfl⟩
theorem eRm.rf (m : h_M) (r : Nat) : eRm m m r := ⟨eM.rf _ _, fun _ _ _ _ => rfl, fun _ _ _ _ => rfl⟩
theorem eR.tr {c c1 c2 : h_C} {r : Nat} (h : eR c c1 r) (k : eR c1 c2 r) : eR c c2 r := ⟨h.1.tr k.1, fun f x a b => (k.2.1 f x a b).trans (h.2.1 f x a b), fun f x a b => (k.2.2.1 f x a b).trans (h.2.2.1 f x a b), fun f x a b => (k.2.2.2 f x a b).trans (h.2.2.2 f x a b)⟩
theorem eRm.tr {c c1 c2 : h_M} {r : Nat} (h : eRm c c1 r) (k : eRm c1 c2 r) : eRm c c2 r := ⟨h.1.tr k.1, fun f x a b => (k.2.1 f x a b).trans (h.2.1 f x a b), fun f x a b => (k.2.2 f x a b).trans (h.2.2 f x a b)⟩
theorem eT.r {c c' : h_C} (h : eT c c') (r : Nat) : eR c c' r := by
  obtain ⟨a, b, d⟩ := h.j 0
  refine ⟨a.up (by decide), fun f x hf hx => ?_, fun f k hf _ => by rw [h.1 f (by revert hf; revert f; decide)], fun f k hf _ => by rw [h.1 f (by revert hf; revert f; decide)]⟩
  by_cases e : f = 2020 ∨ f = 2021
  · rw [h.1 f (by unfold jT; simp only [List.mem_cons, List.not_mem_nil, or_false]; omega)]
  · exact b f x (by simp only [List.mem_cons, List.not_mem_nil, or_false] at hf ⊢; omega) hx
theorem eJ.r {c c' : h_C} {r t : Nat} (ht : t < 4) (h : eJ c c' (4 * r + t)) : eR c c' r := by
  obtain ⟨a, b, d⟩ := h
  refine ⟨a.up (by decide), fun f x hf hx => ?_, fun f k hf _ => by rw [a f (by revert hf; revert f; decide)], fun f k hf hk => d f k hf (by omega)⟩
  by_cases e : f = 2020 ∨ f = 2021
  · rw [a f (by simp only [List.mem_cons, List.not_mem_nil, or_false]; omega)]
  · exact b f x (by simp only [List.mem_cons, List.not_mem_nil, or_false] at hf ⊢; omega) hx
theorem eR.w {c : h_C} {f r : Nat} (hf : f = 2020 ∨ f = 2021) (v : Int) : eR c (wc c f 3 r v) r := by
  refine ⟨?_, fun g x _ hx => by funext k; rw [wc_at, if_neg (fun z => hx z.2.1)], fun g k _ hk => by rw [wc_at, if_neg (fun z => hk z.2.2)], fun g k hg _ => by rw [wc_ne (by simp only [List.mem_cons, List.not_mem_nil, or_false] at hg; omega)]⟩
  rcases hf with rfl | rfl
  · exact eC.up (l := [2020]) (by repeat first | exact eC.rf _ _ | refine eC.wc ?_ (by decide) _ _ _ | refine eC.sr ?_ (by decide) _ _) (by decide)
  · exact eC.up (l := [2021]) (by repeat first | exact eC.rf _ _ | refine eC.wc ?_ (by decide) _ _ _ | refine eC.sr ?_ (by decide) _ _) (by decide)
/-- told and the end of a rule -/
theorem j_told {c : h_C} {m : h_M} {L : Nat → Int} {n p : Nat} {T : List Int} (h : JC c L n p T) (g : JM m L n p) {r : Nat} (hr : r < 12) : (∃ c' m', GB_Judge_takeRule_29 (r : Int) c = some (0, c') ∧ R58 r m = some (0, m') ∧ QP c' m' ∧ eF c c' ∧ eM ljM m m') ∨ (∃ c' m' p', GB_Judge_takeRule_29 (r : Int) c = some (1, c') ∧ R58 r m = some (1, m') ∧ JC c' L n p' (T ++ (58 :: (tN (m' 62 r) ++ [59]))) ∧ JM m' L n p' ∧ eR c c' r ∧ eRm m m' r ∧ c' 2020 3 r = m' 62 r ∧ 0 ≤ m' 62 r ∧ m' 62 r < 40 ∧ c' 2021 = c 2021 ∧ m' 63 = m 63 ∧ (∀ f, f ∈ [2022, 2023, 2024, 2025] → c' f = c f) ∧ (∀ f, f ∈ [64, 65, 66, 67] → m' f = m f)) := by
  have hn := h.2.2.2.1
  have hpn := h.2.2.1
  have hr3 : (0 : Int) ≤ (r : Int) ∧ (r : Int) < 12 := by omega
  have jh := j_here g hn
  have em : ∀ (m' : h_M) (l : List Nat), eM l m m' → (∀ f ∈ l, f ∈ [168, 169, 170]) → eRm m m' r := fun m' l a hl => ⟨a.up (fun f hf => by have := hl f hf; revert this; clear a hl hf; revert f; decide), fun f k hf _ => by rw [a f (fun z => by have := hl f z; revert hf this; clear a hl z; revert f; decide)], fun f k hf _ => by rw [a f (fun z => by have := hl f z; revert hf this; clear a hl z; revert f; decide)]⟩
  unfold R58 GL_Mo_rule_0_37 GB_Judge_takeRule_29 G_Mo_wrong
  rw [if_pos rfl, jh, q_some]
  by_cases e : p < n ∧ L p = 58
  case neg =>
    have hx : ¬ ((if p < n then L p else 0) = 58) := fun z => by
      by_cases e2 : p < n
      · rw [if_pos e2] at z; exact e ⟨e2, z⟩
      · rw [if_neg e2] at z; omega
    refine Or.inl ⟨c, wm m 169 0 (p : Int), ?_, ?_, ?_, (eR.rf c r).f, (em _ [169] (by repeat first | exact eM.rf _ _ | refine eM.wm ?_ (by decide) _ _) (by decide)).1⟩
    · rw [j_take0 h e, q_some2, if_pos rfl]
    · rw [if_neg hx, g.2.1, bi1, q_some2, gd1 (by decide)]
    · exact ⟨p, by omega, h.1.2.1, by rw [wm_at, if_pos ⟨rfl, rfl⟩]⟩
  obtain ⟨en, el⟩ := e
  obtain ⟨c1, y1, y2, y3⟩ := j_take1 h en el
  generalize em1 : wm m 168 0 ((p : Int) + 1) = m1
  have nm1 : eM [168] m m1 := by rw [← em1]; exact (by repeat first | exact eM.rf _ _ | refine eM.wm ?_ (by decide) _ _)
  have v168 : m1 168 0 = ((p + 1 : Nat) : Int) := by rw [← em1]; simp [wm_at]
  have g1 : JM m1 L n (p + 1) := ⟨by rw [nm1 147 (by decide)]; exact g.1, v168, by rw [nm1 46 (by decide)]; exact g.2.2⟩
  rw [if_pos en, if_pos el, y1, q_some2, if_neg (by decide), g.2.1, p_w1 (by omega) (by omega), em1, bi1, v168, bi1]
  unfold G_Judge_takeTold
  rw [y2.1.2.1, bi1]
  by_cases d : dg L n (p + 1)
  case neg =>
    refine Or.inl ⟨c1, wm m1 169 0 ((p + 1 : Nat) : Int), ?_, ?_, ?_, (y3.r r).f, (em _ [168, 169] ((nm1.up (by decide)).tr (eM.up (l := [169]) (by repeat first | exact eM.rf _ _ | refine eM.wm ?_ (by decide) _ _) (by decide))) (by decide)).1⟩
    · rw [j_num0 y2 d, q_some2, if_neg (by decide), q_some2, if_pos rfl]
    · rw [n_num0 hn g1 d, q_some2, if_neg (by decide)]
    · exact ⟨p + 1, by omega, y2.1.2.1, by rw [wm_at, if_pos ⟨rfl, rfl⟩]⟩
  obtain ⟨c2, z1, z2, z3⟩ := j_num1 y2 d
  obtain ⟨m2, w1, w2, w3, w4⟩ := n_num1 hn g1 d
  have hval := nu_val L n 4 (p + 1) 0 (by omega) (by omega) (by decide)
  have hle := nu_le L n 4 (p + 1) 0
  generalize hv : (nu L n 4 (p + 1) 0).2 = v at *
  generalize hp2 : (nu L n 4 (p + 1) 0).1 = p2 at *
  have nm2 : eM [168, 170] m m2 := (nm1.up (by decide)).tr (w4.up (by decide))
  have q2 : eR c c2 r := (y3.r r).tr (z3.r r)
  have p2n := hle.2.1 (by omega)
  rw [z1, q_some2, if_pos (show v ≠ -1 by omega), w1, q_some2, if_pos (show (1 : Int) ≠ 0 by decide), w3, z2.1.1, z2.1.2.1, w2.1, w2.2.1, p_w1 (x := (p2 : Int) - ((p + 1 : Nat) : Int)) (by omega) (by omega)]
  -- which way
  have hC : (if ((p2 : Int) - ((p + 1 : Nat) : Int)) = 4 then GB_Judge_takeTold_38 (r : Int) ((p + 1 : Nat) : Int) v c2 else if ((n : Nat) : Int) ≤ ((p2 : Nat) : Int) then GB_Judge_takeTold_43 (r : Int) ((p + 1 : Nat) : Int) v 0 c2 else GB_Judge_takeTold_38 (r : Int) ((p + 1 : Nat) : Int) v c2) = (if v < 40 ∨ (n ≤ p2 ∧ p2 ≠ p + 1 + 4) then some (1, wc c2 2020 3 r v) else some (0, wc c2 1003 0 0 ((p + 1 : Nat) : Int))) := by
    unfold GB_Judge_takeTold_38 GB_Judge_takeTold_43 GB_Judge_takeTold_63
    rw [gd1 hr3, Int.toNat_natCast, bi1, bi1]
    by_cases a : v < 40
    · rw [if_pos (Or.inl a), if_pos a, if_pos a]
      by_cases b1 : (p2 : Int) - ((p + 1 : Nat) : Int) = 4
      · rw [if_pos b1]
      · rw [if_neg b1]
        by_cases b2 : (n : Int) ≤ (p2 : Int)
        · rw [if_pos b2]
        · rw [if_neg b2]
    · rw [if_neg a, if_neg a, if_pos rfl, if_neg (show ¬ ((1 : Int) = 0) by decide)]
      by_cases b1 : (p2 : Int) - ((p + 1 : Nat) : Int) = 4
      · rw [if_pos b1, if_neg (by omega)]
      · rw [if_neg b1]
        by_cases b2 : (n : Int) ≤ (p2 : Int)
        · rw [if_pos b2, if_pos (by omega)]
        · rw [if_neg b2, if_neg (by omega)]
  have hM : (if v ≤ 39 then GB_Mo_rule_0_165 (r : Int) m2 else if ((p2 : Nat) : Int) < ((n : Nat) : Int) then GB_Mo_rule_0_159 ((p + 1 : Nat) : Int) m2 else if ((p2 : Int) - ((p + 1 : Nat) : Int)) ≠ 4 then GB_Mo_rule_0_165 (r : Int) m2 else GB_Mo_rule_0_159 ((p + 1 : Nat) : Int) m2) = (if v < 40 ∨ (n ≤ p2 ∧ p2 ≠ p + 1 + 4) then GB_Mo_rule_0_165 (r : Int) m2 else some (0, wm m2 169 0 ((p + 1 : Nat) : Int))) := by
    have h159 : GB_Mo_rule_0_159 ((p + 1 : Nat) : Int) m2 = some (0, wm m2 169 0 ((p + 1 : Nat) : Int)) := by
      unfold GB_Mo_rule_0_159 G_Mo_wrong
      rw [bi1, q_some2, gd1 (by decide)]
    rw [h159]
    by_cases a : v < 40
    · rw [if_pos (Or.inl a), if_pos (by omega)]
    · rw [if_neg (show ¬ v ≤ 39 by omega)]
      by_cases b2 : (p2 : Int) < (n : Int)
      · rw [if_pos b2, if_neg (by omega)]
      · rw [if_neg b2]
        by_cases b1 : (p2 : Int) - ((p + 1 : Nat) : Int) = 4
        · rw [if_neg (by omega), if_neg (by omega)]
        · rw [if_pos b1, if_pos (by omega)]
  rw [hC, hM]
  by_cases a : v < 40 ∨ (n ≤ p2 ∧ p2 ≠ p + 1 + 4)
  case neg =>
    rw [if_neg a, if_neg a, q_some2, if_pos rfl]
    refine Or.inl ⟨_, _, rfl, rfl, ⟨p + 1, by omega, by rw [wc_at, if_pos ⟨rfl, rfl, rfl⟩], by rw [wm_at, if_pos ⟨rfl, rfl⟩]⟩, (q2.tr ⟨eC.up (l := [1003]) (by repeat first | exact eC.rf _ _ | refine eC.wc ?_ (by decide) _ _ _ | refine eC.sr ?_ (by decide) _ _) (by decide), fun f x hf _ => ?_, fun f k hf _ => ?_, fun f k hf _ => ?_⟩).f, (em _ [168, 169, 170] ((nm2.up (by decide)).tr (eM.up (l := [169]) (by repeat first | exact eM.rf _ _ | refine eM.wm ?_ (by decide) _ _) (by decide))) (by decide)).1⟩
    · funext k; rw [wc_ne (by revert hf; revert f; decide)]
    · rw [wc_ne (by revert hf; revert f; decide)]
    · rw [wc_ne (by revert hf; revert f; decide)]
  rw [if_pos a, if_pos a, q_some2, if_neg (by decide)]
  have j3 : JC (wc c2 2020 3 r v) L n p2 (T ++ [58] ++ tN v) := z2.wc (by decide) _ _ _
  generalize em3 : wm m2 62 r v = m3
  have nm3 : eM [62] m2 m3 := by rw [← em3]; exact (by repeat first | exact eM.rf _ _ | refine eM.wm ?_ (by decide) _ _)
  have v62 : m3 62 r = v := by rw [← em3]; simp [wm_at]
  have g3 : JM m3 L n p2 := w2.of nm3 rfl
  have q3 : eR c (wc c2 2020 3 r v) r := q2.tr (eR.w (Or.inl rfl) v)
  have o3 : eRm m m3 r := (em m2 [168, 170] nm2 (by decide)).tr ⟨nm3.up (by decide), fun f k _ hk => by rw [← em3, wm_at, if_neg (fun z => hk z.2)], fun f k hf _ => by rw [nm3 f (by revert hf; revert f; decide)]⟩
  have e165 : GB_Mo_rule_0_165 (r : Int) m2 = (q_bv (G_Mo_here m3) fun r6 => if r6 = 59 then p_bi (wm m3 168 0 (p_w ((m3 168 0) + 1))) fun m9 => some (1, m9) else q_bd (G_Mo_wrong (m3 168 0) m3) fun r13 m14 => p_gd (r13 = 0 ∨ r13 = 1) <| some (r13, m14)) := by
    unfold GB_Mo_rule_0_165
    rw [gd1 hr3, Int.toNat_natCast, w3, em3, bi1]
  rw [e165, j_here g3 hn, q_some, g3.2.1]
  by_cases b : p2 < n ∧ L p2 = 59
  case neg =>
    have hx : ¬ ((if p2 < n then L p2 else 0) = 59) := fun z => by
      by_cases e2 : p2 < n
      · rw [if_pos e2] at z; exact b ⟨e2, z⟩
      · rw [if_neg e2] at z; omega
    refine Or.inl ⟨wc c2 2020 3 r v, wm m3 169 0 (p2 : Int), ?_, ?_, ?_, q3.f, o3.1.tr (eM.up (l := [169]) (by repeat first | exact eM.rf _ _ | refine eM.wm ?_ (by decide) _ _) (by decide))⟩
    · rw [j_take0 j3 b, q_some2, if_pos rfl]
    · unfold G_Mo_wrong
      rw [if_neg hx, bi1, q_some2, gd1 (by decide)]
    · exact ⟨p2, by omega, j3.1.2.1, by rw [wm_at, if_pos ⟨rfl, rfl⟩]⟩
  obtain ⟨b1, b2⟩ := b
  obtain ⟨c4, s1, s2, s3⟩ := j_take1 j3 b1 b2
  generalize em4 : wm m3 168 0 ((p2 : Int) + 1) = m4
  have nm4 : eM [168] m3 m4 := by rw [← em4]; exact (by repeat first | exact eM.rf _ _ | refine eM.wm ?_ (by decide) _ _)
  refine Or.inr ⟨c4, m4, p2 + 1, ?_, ?_, ?_, ⟨by rw [nm4 147 (by decide)]; exact g3.1, by rw [← em4]; simp [wm_at], by rw [nm4 46 (by decide)]; exact g3.2.2⟩, q3.tr (s3.r r), o3.tr ⟨nm4.up (by decide), fun f k hf _ => by rw [nm4 f (by revert hf; revert f; decide)], fun f k hf _ => by rw [nm4 f (by revert hf; revert f; decide)]⟩, ?_, by rw [nm4 62 (by decide), v62]; exact hval.1, by rw [nm4 62 (by decide), v62]; omega, ?_, ?_, fun f hf => ?_, fun f hf => ?_⟩
  · rw [s1, q_some2, if_neg (by decide)]
  · rw [if_pos b1, if_pos b2, p_w1 (by omega) (by omega), em4, bi1]
  · have : T ++ [58] ++ tN v ++ [59] = T ++ (58 :: (tN (m4 62 r) ++ [59])) := by
      rw [nm4 62 (by decide), v62, List.append_assoc, List.append_assoc]
      rfl
    rw [← this]
    exact s2
  · rw [s3.1 2020 (by decide), nm4 62 (by decide), v62, wc_at, if_pos ⟨rfl, rfl, rfl⟩]
  · have e : (wc c2 2020 3 r v) 2021 = c2 2021 := by funext x k; rw [wc_ne (by decide)]
    rw [s3.1 2021 (by decide), e, z3.1 2021 (by decide), y3.1 2021 (by decide)]
  · rw [nm4 63 (by decide), nm3 63 (by decide), nm2 63 (by decide)]
  · have hj : f ∉ jT := by revert hf; revert f; decide
    have h20 : f ≠ 2020 := by clear hj; revert hf; revert f; decide
    have e : (wc c2 2020 3 r v) f = c2 f := by funext x k; rw [wc_ne h20]
    rw [s3.1 f hj, e, z3.1 f hj, y3.1 f hj]
  · rw [nm4 f (by revert hf; revert f; decide), nm3 f (by revert hf; revert f; decide), nm2 f (by revert hf; revert f; decide)]
/-- tests of a rule, from the t-th on -/
theorem j_tests {L : Nat → Int} {n r : Nat} (hr : r < 12) {T : List Int} : ∀ (d t fu fm p : Nat) (c : h_C) (m : h_M), t + d = 4 → d < fu → d < fm → JC c L n p (T ++ (tS (vw m) (4 * r) t ++ (if t = 0 then [] else [44]))) → JM m L n p → m 63 r = (t : Int) → (∀ t', t' < t → TS c m (4 * r + t')) → (∃ c' m', GO_Judge_takeTests_2 fu (r : Int) (t : Int) c = some (0, c') ∧ GO_Mo_rule_0_37 fm (r : Int) 1 m = some (0, m') ∧ QP c' m' ∧ eF c c' ∧ eM ljM m m') ∨ (∃ c' m' p' t', GO_Judge_takeTests_2 fu (r : Int) (t : Int) c = some (1, c') ∧ GO_Mo_rule_0_37 fm (r : Int) 1 m = R58 r m' ∧ JC c' L n p' (T ++ tS (vw m') (4 * r) t') ∧ JM m' L n p' ∧ eR c c' r ∧ eRm m m' r ∧ c' 2021 3 r = ((t' : Nat) : Int) ∧ m' 63 r = (t' : Int) ∧ t' ≤ 4 ∧ (∀ t'', t'' < t' → TS c' m' (4 * r + t''))) := by
  intro d
  induction d with
  | zero =>
    intro t fu fm p c m hd hf hf' h g h63 hs
    obtain ⟨fu, rfl⟩ : ∃ g, fu = g + 1 := ⟨fu - 1, by omega⟩
    obtain ⟨fm, rfl⟩ : ∃ g, fm = g + 1 := ⟨fm - 1, by omega⟩
    have hn := h.2.2.2.1
    refine Or.inl ⟨c, wm m 169 0 (p : Int), ?_, ?_, ⟨p, Nat.le_trans h.2.2.1 hn, h.1.2.1, by rw [wm_at, if_pos ⟨rfl, rfl⟩]⟩, (eR.rf c r).f, eM.up (l := [169]) (by repeat first | exact eM.rf _ _ | refine eM.wm ?_ (by decide) _ _) (by decide)⟩
    · show GL_Judge_takeTests_2 _ _ _ c = _
      unfold GL_Judge_takeTests_2
      rw [if_pos (by omega)]
    · show GL_Mo_rule_0_37 _ _ _ m = _
      unfold GL_Mo_rule_0_37 G_Mo_test GB_Mo_test_45 G_Mo_wrong
      rw [if_neg (by decide), j_here g hn, q_some, gd1 (by omega), Int.toNat_natCast, h63, if_pos (by omega), g.2.1, bi1, q_some2, gd1 (by decide), q_some2, if_neg (by decide)]
  | succ d ih =>
    intro t fu fm p c m hd hf hf' h g h63 hs
    obtain ⟨fu, rfl⟩ : ∃ g, fu = g + 1 := ⟨fu - 1, by omega⟩
    obtain ⟨fm, rfl⟩ : ∃ g, fm = g + 1 := ⟨fm - 1, by omega⟩
    have hn := h.2.2.2.1
    have ei : p_w (p_w (4 * (r : Int)) + (t : Int)) = ((4 * r + t : Nat) : Int) := by rw [p_w1 (x := 4 * (r : Int)) (by omega) (by omega), p_w1 (by omega) (by omega)]; omega
    have lm : ∀ m' : h_M, eM lmJ m m' → (∀ f k, f ∈ [64, 65, 66, 67] → k ≠ 4 * r + t → m' f k = m f k) → (∀ k, k ≠ r → m' 63 k = m 63 k) → eRm m m' r := fun m' a b e => ⟨a.up (by decide), fun f k hf hk => by
      by_cases z : f = 63
      · rw [z]; exact e k hk
      · rw [a f (by
          unfold lmJ
          simp only [List.mem_cons, List.not_mem_nil, or_false] at hf ⊢
          omega)], fun f k hf hk => b f k hf (by omega)⟩
    rcases j_test h g hr (t := t) (by omega) h63 with ⟨c1, m1, a1, a2, a3, a4, a5⟩ | ⟨c1, m1, p1, a1, a2, a3, a4, a5, a6, a7, a8, a9, a10⟩
    · refine Or.inl ⟨c1, m1, ?_, ?_, a3, (a4.r (by omega)).f, a5.up (by decide)⟩
      · show GL_Judge_takeTests_2 _ _ _ c = _
        unfold GL_Judge_takeTests_2
        rw [if_neg (by omega), ei, a1, q_some2, if_neg (by decide)]
      · show GL_Mo_rule_0_37 _ _ _ m = _
        unfold GL_Mo_rule_0_37
        rw [if_neg (by decide), a2, q_some2, if_neg (by decide)]
    · have er := lm m1 a6 a9 a10
      generalize ec2 : wc c1 2021 3 r ((t + 1 : Nat) : Int) = c2
      have q2 : eR c c2 r := by rw [← ec2]; exact (a5.r (by omega)).tr (eR.w (Or.inr rfl) _)
      have n2 : eC [2021] c1 c2 := by rw [← ec2]; exact (by repeat first | exact eC.rf _ _ | refine eC.wc ?_ (by decide) _ _ _ | refine eC.sr ?_ (by decide) _ _)
      -- the text so far
      have eS : tS (vw m) (4 * r) t = tS (vw m1) (4 * r) t := tS_cg t (fun t' ht' => by
        rw [vw52, vw52, vw53, vw53, vw54, vw54, vw55, vw55, a9 64 _ (by decide) (by omega), a9 65 _ (by decide) (by omega), a9 66 _ (by decide) (by omega), a9 67 _ (by decide) (by omega)]
        exact ⟨rfl, rfl, rfl, rfl⟩)
      have eX : T ++ (tS (vw m) (4 * r) t ++ (if t = 0 then [] else [44])) ++ tT (vw m1) (4 * r + t) = T ++ tS (vw m1) (4 * r) (t + 1) := by
        rw [eS]
        show _ = T ++ (tS (vw m1) (4 * r) t ++ ((if t = 0 then [] else [44]) ++ tT (vw m1) (4 * r + t)))
        rw [List.append_assoc, List.append_assoc]
      rw [eX] at a3
      have j2 : JC c2 L n p1 (T ++ tS (vw m1) (4 * r) (t + 1)) := by rw [← ec2]; exact a3.wc (by decide) _ _ _
      have s2 : ∀ t', t' < t + 1 → TS c2 m1 (4 * r + t') := fun t' ht' => by
        unfold TS
        rw [n2 2022 (by decide), n2 2023 (by decide), n2 2024 (by decide), n2 2025 (by decide)]
        by_cases z : t' = t
        · rw [z]; exact a7
        · have := hs t' (by omega)
          unfold TS at this
          rw [a9 64 _ (by decide) (by omega), a9 65 _ (by decide) (by omega), a9 66 _ (by decide) (by omega), a9 67 _ (by decide) (by omega), a5.2.2 2022 _ (by decide) (by omega), a5.2.2 2023 _ (by decide) (by omega), a5.2.2 2024 _ (by decide) (by omega), a5.2.2 2025 _ (by decide) (by omega)]
          exact this
      have jh := j_here a4 hn
      have hC : ∀ X, (q_bd (G_Judge_take 44 c2) fun r13 c14 => if r13 ≠ 0 then p_bi (p_w ((t : Int) + 1)) fun x17 => GO_Judge_takeTests_2 fu (r : Int) x17 c14 else some (1, c14)) = X → GO_Judge_takeTests_2 (fu + 1) (r : Int) (t : Int) c = X := fun X hX => by
        show GL_Judge_takeTests_2 _ _ _ c = _
        unfold GL_Judge_takeTests_2
        rw [if_neg (by omega), ei, a1, q_some2, if_pos (by decide), gd1 (by omega), Int.toNat_natCast, p_w1 (x := (t : Int) + 1) (by omega) (by omega), show (t : Int) + 1 = ((t + 1 : Nat) : Int) by omega, ec2, bi1]
        rw [p_w1 (x := (t : Int) + 1) (by omega) (by omega), show (t : Int) + 1 = ((t + 1 : Nat) : Int) by omega] at hX
        exact hX
      have hM : ∀ X, (if (if p1 < n then L p1 else 0) ≠ 44 then GB_Mo_rule_0_65 (GO_Mo_rule_0_37 fm) (r : Int) 0 m1 else GB_Mo_rule_0_65 (GO_Mo_rule_0_37 fm) (r : Int) 1 m1) = X → GO_Mo_rule_0_37 (fm + 1) (r : Int) 1 m = X := fun X hX => by
        show GL_Mo_rule_0_37 _ _ _ m = _
        unfold GL_Mo_rule_0_37
        rw [if_neg (by decide), a2, q_some2, if_pos (by decide), jh, q_some]
        exact hX
      have p1n := a3.2.2.1
      by_cases e : p1 < n ∧ L p1 = 44
      · obtain ⟨c3, y1, y2, y3⟩ := j_take1 j2 e.1 e.2
        generalize em3 : wm m1 168 0 ((p1 : Int) + 1) = m3
        have nm3 : eM [168] m1 m3 := by rw [← em3]; exact (by repeat first | exact eM.rf _ _ | refine eM.wm ?_ (by decide) _ _)
        have g3 : JM m3 L n (p1 + 1) := ⟨by rw [nm3 147 (by decide)]; exact a4.1, by rw [← em3]; simp [wm_at], by rw [nm3 46 (by decide)]; exact a4.2.2⟩
        have ev : tS (vw m3) (4 * r) (t + 1) = tS (vw m1) (4 * r) (t + 1) := tS_cg _ (fun t' _ => by
          rw [vw52, vw52, vw53, vw53, vw54, vw54, vw55, vw55, nm3 64 (by decide), nm3 65 (by decide), nm3 66 (by decide), nm3 67 (by decide)]
          exact ⟨rfl, rfl, rfl, rfl⟩)
        have j3 : JC c3 L n (p1 + 1) (T ++ (tS (vw m3) (4 * r) (t + 1) ++ (if t + 1 = 0 then [] else [44]))) := by
          rw [ev, if_neg (by omega), ← List.append_assoc]
          exact y2
        have em3' : eRm m m3 r := er.tr ⟨nm3.up (by decide), fun f k hf _ => by rw [nm3 f (by revert hf; revert f; decide)], fun f k hf _ => by rw [nm3 f (by revert hf; revert f; decide)]⟩
        have hC1 : ∀ X, GO_Judge_takeTests_2 fu (r : Int) ((t + 1 : Nat) : Int) c3 = X → GO_Judge_takeTests_2 (fu + 1) (r : Int) (t : Int) c = X := fun X hX => hC X (by
          rw [y1, q_some2, if_pos (by decide), p_w1 (by omega) (by omega), bi1]
          exact hX)
        have hM1 : ∀ X, GO_Mo_rule_0_37 fm (r : Int) 1 m3 = X → GO_Mo_rule_0_37 (fm + 1) (r : Int) 1 m = X := fun X hX => hM X (by
          rw [if_pos e.1, if_neg (by simpa using e.2)]
          unfold GB_Mo_rule_0_65 GB_Mo_rule_0_80
          rw [if_neg (by decide), a4.2.1, p_w1 (by omega) (by omega), em3, bi1]
          exact hX)
        rcases ih (t + 1) fu fm (p1 + 1) c3 m3 (by omega) (by omega) (by omega) j3 g3 (by rw [nm3 63 (by decide)]; exact a8) (fun t' ht' => by
          have := s2 t' ht'
          unfold TS at this ⊢
          rw [nm3 64 (by decide), nm3 65 (by decide), nm3 66 (by decide), nm3 67 (by decide), y3.1 2022 (by decide), y3.1 2023 (by decide), y3.1 2024 (by decide), y3.1 2025 (by decide)]
          exact this) with ⟨c', m', b1, b2, b3, b4, b5⟩ | ⟨c', m', p', t', b1, b2, b3, b4, b5, b6, b7⟩
        · exact Or.inl ⟨c', m', hC1 _ b1, hM1 _ b2, b3, (q2.f.tr (y3.r r).f).tr b4, em3'.1.tr b5⟩
        · exact Or.inr ⟨c', m', p', t', hC1 _ b1, hM1 _ b2, b3, b4, (q2.tr (y3.r r)).tr b5, em3'.tr b6, b7⟩
      · have hx : (if p1 < n then L p1 else 0) ≠ 44 := fun z => by
          by_cases e2 : p1 < n
          · rw [if_pos e2] at z; exact e ⟨e2, z⟩
          · rw [if_neg e2] at z; omega
        have ew : wm m1 168 0 (p_w ((p1 : Int) + 0)) = m1 := wm_same (by rw [p_w1 (by omega) (by omega), a4.2.1]; omega)
        obtain ⟨fm', rfl⟩ : ∃ g, fm = g + 1 := ⟨fm - 1, by omega⟩
        refine Or.inr ⟨c2, m1, p1, t + 1, hC _ (by rw [j_take0 j2 e, q_some2, if_neg (by decide)]), hM _ ?_, j2, a4, q2, er, by rw [← ec2]; simp [wc_at], a8, by omega, s2⟩
        rw [if_pos hx]
        unfold GB_Mo_rule_0_65 GB_Mo_rule_0_80
        rw [if_pos rfl, a4.2.1, ew, bi1]
        exact R58_eq (GO_Mo_rule_0_37 fm') r m1
/-- rule r is stored alike -/
def RS1 (c : h_C) (m : h_M) (r : Nat) : Prop := (c 2020 3 r = m 62 r ∧ 0 ≤ m 62 r ∧ m 62 r < 40) ∧ (c 2021 3 r = m 63 r ∧ 0 ≤ m 63 r ∧ m 63 r ≤ 4) ∧ (∀ t : Nat, t < 4 → (t : Int) < m 63 r → TS c m (4 * r + t))
/-- a rule, in both -/
theorem j_rule {c : h_C} {m : h_M} {L : Nat → Int} {n p r : Nat} (hr : r < 12) (hs : ∀ k, k < r → m 63 k ≤ 4) (h : JC c L n p (tW (vw m) 0 r)) (g : JM m L n p) : (∃ c' m', G_Judge_takeRule (r : Int) c = some (0, c') ∧ G_Mo_rule_0 (r : Int) m = some (0, m') ∧ QP c' m' ∧ eF c c' ∧ eM ljM m m') ∨ (∃ c' m' p', G_Judge_takeRule (r : Int) c = some (1, c') ∧ G_Mo_rule_0 (r : Int) m = some (1, m') ∧ JC c' L n p' (tW (vw m') 0 (r + 1)) ∧ JM m' L n p' ∧ eR c c' r ∧ eRm m m' r ∧ RS1 c' m' r) := by
  have hn := h.2.2.2.1
  have hr3 : (0 : Int) ≤ (r : Int) ∧ (r : Int) < 12 := by omega
  generalize ec1 : wc c 2021 3 r 0 = c1
  generalize em1 : wm m 63 r 0 = m1
  have q1 : eR c c1 r := by rw [← ec1]; exact eR.w (Or.inr rfl) _
  have nm1 : eM [63] m m1 := by rw [← em1]; exact (by repeat first | exact eM.rf _ _ | refine eM.wm ?_ (by decide) _ _)
  have o1 : eRm m m1 r := ⟨nm1.up (by decide), fun f k _ hk => by rw [← em1, wm_at, if_neg (fun z => hk z.2)], fun f k hf _ => by rw [nm1 f (by revert hf; revert f; decide)]⟩
  have v63 : m1 63 r = 0 := by rw [← em1]; simp [wm_at]
  have v21 : c1 2021 3 r = 0 := by rw [← ec1]; simp [wc_at]
  have j1 : JC c1 L n p (tW (vw m) 0 r) := by rw [← ec1]; exact h.wc (by decide) _ _ _
  have g1 : JM m1 L n p := g.of nm1 rfl
  -- the text of the rules before stays
  have tws : ∀ m' : h_M, eRm m m' r → tW (vw m') 0 r = tW (vw m) 0 r := fun m' e => tW_cg r (fun k hk => by
    rw [vw49, vw49, vw50, vw50, vw52, vw52, vw53, vw53, vw54, vw54, vw55, vw55, e.2.1 62 _ (by decide) (by omega), e.2.1 63 _ (by decide) (by omega)]
    refine ⟨rfl, rfl, fun t ht => ?_⟩
    rw [Nat.zero_add] at ht
    have := hs k hk
    rw [e.2.2 64 _ (by decide) (by omega), e.2.2 65 _ (by decide) (by omega), e.2.2 66 _ (by decide) (by omega), e.2.2 67 _ (by decide) (by omega)]
    exact ⟨rfl, rfl, rfl, rfl⟩)
  have fin : ∀ (c2 : h_C) (m2 : h_M) (p2 t' : Nat), JC c2 L n p2 (tW (vw m) 0 r ++ tS (vw m2) (4 * r) t') → JM m2 L n p2 → eR c c2 r → eRm m m2 r → c2 2021 3 r = (t' : Int) → m2 63 r = (t' : Int) → t' ≤ 4 → (∀ t'', t'' < t' → TS c2 m2 (4 * r + t'')) → (∃ c' m', GB_Judge_takeRule_29 (r : Int) c2 = some (0, c') ∧ R58 r m2 = some (0, m') ∧ QP c' m' ∧ eF c c' ∧ eM ljM m m') ∨ (∃ c' m' p', GB_Judge_takeRule_29 (r : Int) c2 = some (1, c') ∧ R58 r m2 = some (1, m') ∧ JC c' L n p' (tW (vw m') 0 (r + 1)) ∧ JM m' L n p' ∧ eR c c' r ∧ eRm m m' r ∧ RS1 c' m' r) := fun c2 m2 p2 t' a1 a2 a3 a4 a5 a6 a7 a8 => by
    rcases j_told a1 a2 hr with ⟨c', m', b1, b2, b3, b4, b5⟩ | ⟨c', m', p', b1, b2, b3, b4, b5, b6, b7, b8, b9, b10, b11, b12, b13⟩
    · exact Or.inl ⟨c', m', b1, b2, b3, a3.f.tr b4, a4.1.tr b5⟩
    · have e' := a4.tr b6
      refine Or.inr ⟨c', m', p', b1, b2, ?_, b4, a3.tr b5, e', ⟨⟨b7, b8, b9⟩, ⟨by rw [b10, b11, a5, a6], by rw [b11, a6]; omega, by rw [b11, a6]; omega⟩, fun t ht ht' => ?_⟩⟩
      · have eS : tS (vw m') (4 * r) t' = tS (vw m2) (4 * r) t' := tS_cg _ (fun t _ => by
          rw [vw52, vw52, vw53, vw53, vw54, vw54, vw55, vw55, b13 64 (by decide), b13 65 (by decide), b13 66 (by decide), b13 67 (by decide)]
          exact ⟨rfl, rfl, rfl, rfl⟩)
        have : tW (vw m) 0 r ++ tS (vw m2) (4 * r) t' ++ (58 :: (tN (m' 62 r) ++ [59])) = tW (vw m') 0 (r + 1) := by
          show _ = tW (vw m') 0 r ++ tR (vw m') (0 + r)
          unfold tR
          rw [Nat.zero_add, tws m' e', vw50, vw49, b11, a6, Int.toNat_natCast, eS, List.append_assoc]
        rw [← this]
        exact b3
      · rw [b11, a6] at ht'
        have := a8 t (by omega)
        unfold TS at this ⊢
        rw [b12 2022 (by decide), b12 2023 (by decide), b12 2024 (by decide), b12 2025 (by decide), b13 64 (by decide), b13 65 (by decide), b13 66 (by decide), b13 67 (by decide)]
        exact this
  have hC : ∀ X, (if (if p < n then L p else -1) = 58 then GB_Judge_takeRule_29 (r : Int) c1 else q_bd (G_Judge_takeTests (r : Int) c1) fun r11 c12 => if r11 ≠ 0 then GB_Judge_takeRule_29 (r : Int) c12 else some (0, c12)) = X → G_Judge_takeRule (r : Int) c = X := fun X hX => by
    unfold G_Judge_takeRule
    rw [gd1 hr3, Int.toNat_natCast, ec1, bi1, j_next j1, q_some]
    exact hX
  have hM : ∀ X, (if (if p < n then L p else 0) = 58 then R58 r m1 else GO_Mo_rule_0_37 3000 (r : Int) 1 m1) = X → G_Mo_rule_0 (r : Int) m = X := fun X hX => by
    unfold G_Mo_rule_0 GB_Mo_rule_0_36
    rw [if_pos (by omega), gd1 hr3, Int.toNat_natCast, em1, bi1, j_here g1 hn, q_some, show GO_Mo_rule_0_37 3000 (r : Int) 0 m1 = R58 r m1 from R58_eq (GO_Mo_rule_0_37 2999) r m1]
    exact hX
  by_cases e : p < n ∧ L p = 58
  · rcases fin c1 m1 p 0 (by rw [show tS (vw m1) (4 * r) 0 = [] from rfl, List.append_nil]; exact j1) g1 q1 o1 v21 v63 (by omega) (fun t ht => by omega) with ⟨c', m', b1, b2, b3⟩ | ⟨c', m', p', b1, b2, b3⟩
    · exact Or.inl ⟨c', m', hC _ (by rw [if_pos e.1, if_pos e.2]; exact b1), hM _ (by rw [if_pos e.1, if_pos e.2]; exact b2), b3⟩
    · exact Or.inr ⟨c', m', p', hC _ (by rw [if_pos e.1, if_pos e.2]; exact b1), hM _ (by rw [if_pos e.1, if_pos e.2]; exact b2), b3⟩
  · have hx1 : ¬ ((if p < n then L p else -1) = 58) := fun z => by
      by_cases e2 : p < n
      · rw [if_pos e2] at z; exact e ⟨e2, z⟩
      · rw [if_neg e2] at z; omega
    have hx2 : ¬ ((if p < n then L p else 0) = 58) := fun z => by
      by_cases e2 : p < n
      · rw [if_pos e2] at z; exact e ⟨e2, z⟩
      · rw [if_neg e2] at z; omega
    rcases j_tests hr (T := tW (vw m) 0 r) 4 0 3000 3000 p c1 m1 (by omega) (by omega) (by omega) (by rw [show tS (vw m1) (4 * r) 0 = [] from rfl, if_pos rfl, List.append_nil, List.append_nil]; exact j1) g1 v63 (fun t ht => by omega) with ⟨c2, m2, a1, a2, a3, a4, a5⟩ | ⟨c2, m2, p2, t', a1, a2, a3, a4, a5, a6, a7, a8, a9, a10⟩
    · refine Or.inl ⟨c2, m2, hC _ ?_, hM _ (by rw [if_neg hx2]; exact a2), a3, q1.f.tr a4, o1.1.tr a5⟩
      unfold G_Judge_takeTests
      rw [if_neg hx1, show GO_Judge_takeTests_2 3000 (r : Int) 0 c1 = _ from a1, q_some2, if_neg (by decide)]
    · have hC1 : ∀ X, GB_Judge_takeRule_29 (r : Int) c2 = X → G_Judge_takeRule (r : Int) c = X := fun X hX => hC X (by
        unfold G_Judge_takeTests
        rw [if_neg hx1, show GO_Judge_takeTests_2 3000 (r : Int) 0 c1 = _ from a1, q_some2, if_pos (by decide)]
        exact hX)
      have hM1 : ∀ X, R58 r m2 = X → G_Mo_rule_0 (r : Int) m = X := fun X hX => hM X (by rw [if_neg hx2, a2]; exact hX)
      rcases fin c2 m2 p2 t' a3 a4 (q1.tr a5) (o1.tr a6) a7 a8 a9 a10 with ⟨c', m', b1, b2, b3⟩ | ⟨c', m', p', b1, b2, b3⟩
      · exact Or.inl ⟨c', m', hC1 _ b1, hM1 _ b2, b3⟩
      · exact Or.inr ⟨c', m', p', hC1 _ b1, hM1 _ b2, b3⟩
