/-! ===== the law's loop ===== -/
theorem pbd1 {α β : Type} (a : α) (s : p_Hp) (k : α → p_Hp → Option β) : p_bd (some (a, s)) k = k a s := rfl
theorem pbv1 {β : Type} (s : p_Hp) (k : p_Hp → Option β) : p_bv (some s) k = k s := rfl
theorem p_cmp0 (a : Int) : p_cmp a a = 0 := by
  unfold p_cmp
  rw [if_neg (by omega), if_pos rfl]
/-- after a call both are alike, and the law goes on -/
def PLw (b n9 : Nat) (t9 : Nat → Int) (k18 : Nat → Nat → Int → p_Hp → Option (Int × p_Hp)) (v3 : Nat) (y : Option (Int × p_Hp)) : Prop := ∃ c' m', y = B_La_law_1701 n9 t9 k18 1 1125 (v3 : Int) (h_H c' m') ∧ RR (b + 16000) c' m' ∧ c' 607 0 0 = m' 102 0
theorem PLw.ite {b n9 : Nat} {t9 : Nat → Int} {k18 : Nat → Nat → Int → p_Hp → Option (Int × p_Hp)} {v3 : Nat} {q : Prop} [Decidable q] {x y : Option (Int × p_Hp)} (hx : q → PLw b n9 t9 k18 v3 x) (hy : ¬ q → PLw b n9 t9 k18 v3 y) : PLw b n9 t9 k18 v3 (if q then x else y) := by
  by_cases h : q
  · rw [if_pos h]; exact hx h
  · rw [if_neg h]; exact hy h
theorem isS (c : h_C) (m : h_M) : p_is (h_H c m) 1 10 := ⟨by decide, by show 1 ≤ 1194; decide, by show h_T 1 = 10; decide⟩
theorem isM (c : h_C) (m : h_M) : p_is (h_H c m) 1125 11 := ⟨by decide, by show 1125 ≤ 1194; decide, by show h_T 1125 = 11; decide⟩
theorem la_0 {b : Nat} (hb : b < 400000000) {c : h_C} {m : h_M} (h : RR b c m) (hE : c 607 0 0 = m 102 0) {n9 : Nat} {t9 : Nat → Int} (ht : ∀ i, -2147483648 ≤ t9 i ∧ t9 i < 2147483648) {v3 : Nat} (hg : ∀ k : Int, (k = 1 ∨ k = 2 ∨ k = 3 ∨ k = 4 ∨ k = 5) → (0 : Int) ≤ p_w ((v3 : Int) + k) ∧ p_w ((v3 : Int) + k) < (n9 : Int)) (k18 : Nat → Nat → Int → p_Hp → Option (Int × p_Hp)) : PLw b n9 t9 k18 v3 (
      p_gd ((0 : Int) ≤ (p_w ((v3 : Int) + 1)) ∧ (p_w ((v3 : Int) + 1)) < (n9 : Int)) <|
      p_gd (p_is (h_H c m) 1 10) <|
      p_bd (F_SW_works 1 (t9 ((p_w ((v3 : Int) + 1)) : Int).toNat) (h_H c m)) fun r10 s6 =>
      p_gd ((0 : Int) ≤ (p_w ((v3 : Int) + 1)) ∧ (p_w ((v3 : Int) + 1)) < (n9 : Int)) <|
      p_gd (p_is s6 1125 11) <|
      p_bd (F_Mo_works 1125 (t9 ((p_w ((v3 : Int) + 1)) : Int).toNat) s6) fun r17 s13 =>
      if r10 = r17 then
        B_La_law_1701 n9 t9 k18 1 1125 (v3 : Int) s13
      else
        some (0, s13)) := by
  obtain ⟨r, c', m', x1, x2, x3, x4⟩ := pr_works h hE (t9 (p_w ((v3 : Int) + 1)).toNat)
  refine ⟨c', m', ?_, x3.more (by omega), x4⟩
  rw [gd1 (hg 1 (by omega)), gd1 (isS c m), u_SW_works m _ c _ x1, pbd1, gd1 (hg 1 (by omega)), gd1 (isM c' m), u_Mo_works c' _ m _ x2, pbd1, if_pos rfl]
theorem la_1 {b : Nat} (hb : b < 400000000) {c : h_C} {m : h_M} (h : RR b c m) (hE : c 607 0 0 = m 102 0) {n9 : Nat} {t9 : Nat → Int} (ht : ∀ i, -2147483648 ≤ t9 i ∧ t9 i < 2147483648) {v3 : Nat} (hg : ∀ k : Int, (k = 1 ∨ k = 2 ∨ k = 3 ∨ k = 4 ∨ k = 5) → (0 : Int) ≤ p_w ((v3 : Int) + k) ∧ p_w ((v3 : Int) + k) < (n9 : Int)) (k18 : Nat → Nat → Int → p_Hp → Option (Int × p_Hp)) : PLw b n9 t9 k18 v3 (
      p_gd ((0 : Int) ≤ (p_w ((v3 : Int) + 1)) ∧ (p_w ((v3 : Int) + 1)) < (n9 : Int)) <|
      p_gd ((0 : Int) ≤ (p_w ((v3 : Int) + 2)) ∧ (p_w ((v3 : Int) + 2)) < (n9 : Int)) <|
      p_gd (p_is (h_H c m) 1 10) <|
      p_bd (F_SW_gear 1 (t9 ((p_w ((v3 : Int) + 1)) : Int).toNat) (t9 ((p_w ((v3 : Int) + 2)) : Int).toNat) (h_H c m)) fun r27 s23 =>
      p_gd ((0 : Int) ≤ (p_w ((v3 : Int) + 1)) ∧ (p_w ((v3 : Int) + 1)) < (n9 : Int)) <|
      p_gd ((0 : Int) ≤ (p_w ((v3 : Int) + 2)) ∧ (p_w ((v3 : Int) + 2)) < (n9 : Int)) <|
      p_gd (p_is s23 1125 11) <|
      p_bd (F_Mo_gear 1125 (t9 ((p_w ((v3 : Int) + 1)) : Int).toNat) (t9 ((p_w ((v3 : Int) + 2)) : Int).toNat) s23) fun r35 s31 =>
      if r27 = r35 then
        B_La_law_1701 n9 t9 k18 1 1125 (v3 : Int) s31
      else
        some (0, s31)) := by
  obtain ⟨r, c', m', x1, x2, x3, x4⟩ := pr_gear h hE (t9 (p_w ((v3 : Int) + 1)).toNat) (t9 (p_w ((v3 : Int) + 2)).toNat)
  refine ⟨c', m', ?_, x3.more (by omega), x4⟩
  rw [gd1 (hg 1 (by omega)), gd1 (hg 2 (by omega)), gd1 (isS c m), u_SW_gear m _ _ c _ x1, pbd1, gd1 (hg 1 (by omega)), gd1 (hg 2 (by omega)), gd1 (isM c' m), u_Mo_gear c' _ _ m _ x2, pbd1, if_pos rfl]
theorem la_2 {b : Nat} (hb : b < 400000000) {c : h_C} {m : h_M} (h : RR b c m) (hE : c 607 0 0 = m 102 0) {n9 : Nat} {t9 : Nat → Int} (ht : ∀ i, -2147483648 ≤ t9 i ∧ t9 i < 2147483648) {v3 : Nat} (hg : ∀ k : Int, (k = 1 ∨ k = 2 ∨ k = 3 ∨ k = 4 ∨ k = 5) → (0 : Int) ≤ p_w ((v3 : Int) + k) ∧ p_w ((v3 : Int) + k) < (n9 : Int)) (k18 : Nat → Nat → Int → p_Hp → Option (Int × p_Hp)) : PLw b n9 t9 k18 v3 (
      p_gd ((0 : Int) ≤ (p_w ((v3 : Int) + 1)) ∧ (p_w ((v3 : Int) + 1)) < (n9 : Int)) <|
      p_gd ((0 : Int) ≤ (p_w ((v3 : Int) + 2)) ∧ (p_w ((v3 : Int) + 2)) < (n9 : Int)) <|
      p_gd (p_is (h_H c m) 1 10) <|
      p_bd (F_SW_links 1 (t9 ((p_w ((v3 : Int) + 1)) : Int).toNat) (t9 ((p_w ((v3 : Int) + 2)) : Int).toNat) (h_H c m)) fun r45 s41 =>
      p_gd ((0 : Int) ≤ (p_w ((v3 : Int) + 1)) ∧ (p_w ((v3 : Int) + 1)) < (n9 : Int)) <|
      p_gd ((0 : Int) ≤ (p_w ((v3 : Int) + 2)) ∧ (p_w ((v3 : Int) + 2)) < (n9 : Int)) <|
      p_gd (p_is s41 1125 11) <|
      p_bd (F_Mo_links 1125 (t9 ((p_w ((v3 : Int) + 1)) : Int).toNat) (t9 ((p_w ((v3 : Int) + 2)) : Int).toNat) s41) fun r53 s49 =>
      if r45 = r53 then
        B_La_law_1701 n9 t9 k18 1 1125 (v3 : Int) s49
      else
        some (0, s49)) := by
  obtain ⟨r, c', m', x1, x2, x3, x4⟩ := pr_links h hE (t9 (p_w ((v3 : Int) + 1)).toNat) (t9 (p_w ((v3 : Int) + 2)).toNat)
  refine ⟨c', m', ?_, x3.more (by omega), x4⟩
  rw [gd1 (hg 1 (by omega)), gd1 (hg 2 (by omega)), gd1 (isS c m), u_SW_links m _ _ c _ x1, pbd1, gd1 (hg 1 (by omega)), gd1 (hg 2 (by omega)), gd1 (isM c' m), u_Mo_links c' _ _ m _ x2, pbd1, if_pos rfl]
theorem la_3 {b : Nat} (hb : b < 400000000) {c : h_C} {m : h_M} (h : RR b c m) (hE : c 607 0 0 = m 102 0) {n9 : Nat} {t9 : Nat → Int} (ht : ∀ i, -2147483648 ≤ t9 i ∧ t9 i < 2147483648) {v3 : Nat} (hg : ∀ k : Int, (k = 1 ∨ k = 2 ∨ k = 3 ∨ k = 4 ∨ k = 5) → (0 : Int) ≤ p_w ((v3 : Int) + k) ∧ p_w ((v3 : Int) + k) < (n9 : Int)) (k18 : Nat → Nat → Int → p_Hp → Option (Int × p_Hp)) : PLw b n9 t9 k18 v3 (
      p_gd ((0 : Int) ≤ (p_w ((v3 : Int) + 1)) ∧ (p_w ((v3 : Int) + 1)) < (n9 : Int)) <|
      p_gd ((0 : Int) ≤ (p_w ((v3 : Int) + 2)) ∧ (p_w ((v3 : Int) + 2)) < (n9 : Int)) <|
      p_gd ((0 : Int) ≤ (p_w ((v3 : Int) + 3)) ∧ (p_w ((v3 : Int) + 3)) < (n9 : Int)) <|
      p_gd (p_is (h_H c m) 1 10) <|
      p_bd (F_SW_link 1 (t9 ((p_w ((v3 : Int) + 1)) : Int).toNat) (t9 ((p_w ((v3 : Int) + 2)) : Int).toNat) (t9 ((p_w ((v3 : Int) + 3)) : Int).toNat) (h_H c m)) fun r64 s60 =>
      p_gd ((0 : Int) ≤ (p_w ((v3 : Int) + 1)) ∧ (p_w ((v3 : Int) + 1)) < (n9 : Int)) <|
      p_gd ((0 : Int) ≤ (p_w ((v3 : Int) + 2)) ∧ (p_w ((v3 : Int) + 2)) < (n9 : Int)) <|
      p_gd ((0 : Int) ≤ (p_w ((v3 : Int) + 3)) ∧ (p_w ((v3 : Int) + 3)) < (n9 : Int)) <|
      p_gd (p_is s60 1125 11) <|
      p_bd (F_Mo_link 1125 (t9 ((p_w ((v3 : Int) + 1)) : Int).toNat) (t9 ((p_w ((v3 : Int) + 2)) : Int).toNat) (t9 ((p_w ((v3 : Int) + 3)) : Int).toNat) s60) fun r73 s69 =>
      if r64 = r73 then
        B_La_law_1701 n9 t9 k18 1 1125 (v3 : Int) s69
      else
        some (0, s69)) := by
  obtain ⟨r, c', m', x1, x2, x3, x4⟩ := pr_link h hE (t9 (p_w ((v3 : Int) + 1)).toNat) (t9 (p_w ((v3 : Int) + 2)).toNat) (t9 (p_w ((v3 : Int) + 3)).toNat)
  refine ⟨c', m', ?_, x3.more (by omega), x4⟩
  rw [gd1 (hg 1 (by omega)), gd1 (hg 2 (by omega)), gd1 (hg 3 (by omega)), gd1 (isS c m), u_SW_link m _ _ _ c _ x1, pbd1, gd1 (hg 1 (by omega)), gd1 (hg 2 (by omega)), gd1 (hg 3 (by omega)), gd1 (isM c' m), u_Mo_link c' _ _ _ m _ x2, pbd1, if_pos rfl]
theorem la_4 {b : Nat} (hb : b < 400000000) {c : h_C} {m : h_M} (h : RR b c m) (hE : c 607 0 0 = m 102 0) {n9 : Nat} {t9 : Nat → Int} (ht : ∀ i, -2147483648 ≤ t9 i ∧ t9 i < 2147483648) {v3 : Nat} (hg : ∀ k : Int, (k = 1 ∨ k = 2 ∨ k = 3 ∨ k = 4 ∨ k = 5) → (0 : Int) ≤ p_w ((v3 : Int) + k) ∧ p_w ((v3 : Int) + k) < (n9 : Int)) (k18 : Nat → Nat → Int → p_Hp → Option (Int × p_Hp)) : PLw b n9 t9 k18 v3 (
      p_gd ((0 : Int) ≤ (p_w ((v3 : Int) + 1)) ∧ (p_w ((v3 : Int) + 1)) < (n9 : Int)) <|
      p_gd ((0 : Int) ≤ (p_w ((v3 : Int) + 2)) ∧ (p_w ((v3 : Int) + 2)) < (n9 : Int)) <|
      p_gd ((0 : Int) ≤ (p_w ((v3 : Int) + 3)) ∧ (p_w ((v3 : Int) + 3)) < (n9 : Int)) <|
      p_gd ((0 : Int) ≤ (p_w ((v3 : Int) + 4)) ∧ (p_w ((v3 : Int) + 4)) < (n9 : Int)) <|
      if (t9 ((p_w ((v3 : Int) + 4)) : Int).toNat) = 0 then
        B_La_law_397 n9 t9 k18 1 1125 (v3 : Int) 0 (t9 ((p_w ((v3 : Int) + 3)) : Int).toNat) (t9 ((p_w ((v3 : Int) + 2)) : Int).toNat) (t9 ((p_w ((v3 : Int) + 1)) : Int).toNat) 1 (h_H c m)
      else
        B_La_law_397 n9 t9 k18 1 1125 (v3 : Int) 1 (t9 ((p_w ((v3 : Int) + 3)) : Int).toNat) (t9 ((p_w ((v3 : Int) + 2)) : Int).toNat) (t9 ((p_w ((v3 : Int) + 1)) : Int).toNat) 1 (h_H c m)) := by
  have key : ∀ x : Int, (x = 0 ∨ x = 1) → (x = if (t9 (p_w ((v3 : Int) + 4)).toNat) = 0 then 0 else 1) → ∃ c' m', B_La_law_397 n9 t9 k18 1 1125 (v3 : Int) x (t9 (p_w ((v3 : Int) + 3)).toNat) (t9 (p_w ((v3 : Int) + 2)).toNat) (t9 (p_w ((v3 : Int) + 1)).toNat) 1 (h_H c m) = B_La_law_1701 n9 t9 k18 1 1125 (v3 : Int) (h_H c' m') ∧ RR (b + 16000) c' m' ∧ c' 607 0 0 = m' 102 0 := fun x hx hxw => by
    obtain ⟨r, c', m', x1, x2, x3, x4⟩ := pr_aim h hE (t9 (p_w ((v3 : Int) + 1)).toNat) (t9 (p_w ((v3 : Int) + 2)).toNat) (t9 (p_w ((v3 : Int) + 3)).toNat) x hx
    refine ⟨c', m', ?_, x3.more (by omega), x4⟩
    unfold B_La_law_397
    rw [gd1 (isS c m), u_SW_aim m _ _ _ _ c _ x1, pbd1, gd1 (hg 1 (by omega)), gd1 (hg 2 (by omega)), gd1 (hg 3 (by omega)), gd1 (hg 4 (by omega)), show (if (t9 (p_w ((v3 : Int) + 4)).toNat) = 0 then B_La_law_429 n9 t9 k18 1 1125 (v3 : Int) 0 (t9 (p_w ((v3 : Int) + 3)).toNat) (t9 (p_w ((v3 : Int) + 2)).toNat) (t9 (p_w ((v3 : Int) + 1)).toNat) 1125 r (h_H c' m) else B_La_law_429 n9 t9 k18 1 1125 (v3 : Int) 1 (t9 (p_w ((v3 : Int) + 3)).toNat) (t9 (p_w ((v3 : Int) + 2)).toNat) (t9 (p_w ((v3 : Int) + 1)).toNat) 1125 r (h_H c' m)) = B_La_law_429 n9 t9 k18 1 1125 (v3 : Int) x (t9 (p_w ((v3 : Int) + 3)).toNat) (t9 (p_w ((v3 : Int) + 2)).toNat) (t9 (p_w ((v3 : Int) + 1)).toNat) 1125 r (h_H c' m) by
      by_cases z : (t9 (p_w ((v3 : Int) + 4)).toNat) = 0
      · rw [if_pos z] at hxw ⊢; rw [hxw]
      · rw [if_neg z] at hxw ⊢; rw [hxw]]
    unfold B_La_law_429
    rw [gd1 (isM c' m), u_Mo_aim c' _ _ _ _ m _ x2, pbd1, if_pos rfl]
  rw [gd1 (hg 1 (by omega)), gd1 (hg 2 (by omega)), gd1 (hg 3 (by omega)), gd1 (hg 4 (by omega))]
  by_cases z : (t9 (p_w ((v3 : Int) + 4)).toNat) = 0
  · rw [if_pos z]; exact key 0 (Or.inl rfl) (by rw [if_pos z])
  · rw [if_neg z]; exact key 1 (Or.inr rfl) (by rw [if_neg z])
theorem la_5 {b : Nat} (hb : b < 400000000) {c : h_C} {m : h_M} (h : RR b c m) (hE : c 607 0 0 = m 102 0) {n9 : Nat} {t9 : Nat → Int} (ht : ∀ i, -2147483648 ≤ t9 i ∧ t9 i < 2147483648) {v3 : Nat} (hg : ∀ k : Int, (k = 1 ∨ k = 2 ∨ k = 3 ∨ k = 4 ∨ k = 5) → (0 : Int) ≤ p_w ((v3 : Int) + k) ∧ p_w ((v3 : Int) + k) < (n9 : Int)) (k18 : Nat → Nat → Int → p_Hp → Option (Int × p_Hp)) : PLw b n9 t9 k18 v3 (
      p_gd ((0 : Int) ≤ (p_w ((v3 : Int) + 1)) ∧ (p_w ((v3 : Int) + 1)) < (n9 : Int)) <|
      p_gd ((0 : Int) ≤ (p_w ((v3 : Int) + 2)) ∧ (p_w ((v3 : Int) + 2)) < (n9 : Int)) <|
      p_gd (p_is (h_H c m) 1 10) <|
      p_bd (F_SW_rank 1 (t9 ((p_w ((v3 : Int) + 1)) : Int).toNat) (t9 ((p_w ((v3 : Int) + 2)) : Int).toNat) (h_H c m)) fun r89 s85 =>
      p_gd ((0 : Int) ≤ (p_w ((v3 : Int) + 1)) ∧ (p_w ((v3 : Int) + 1)) < (n9 : Int)) <|
      p_gd ((0 : Int) ≤ (p_w ((v3 : Int) + 2)) ∧ (p_w ((v3 : Int) + 2)) < (n9 : Int)) <|
      p_gd (p_is s85 1125 11) <|
      p_bd (F_Mo_rank 1125 (t9 ((p_w ((v3 : Int) + 1)) : Int).toNat) (t9 ((p_w ((v3 : Int) + 2)) : Int).toNat) s85) fun r97 s93 =>
      if r89 = r97 then
        B_La_law_1701 n9 t9 k18 1 1125 (v3 : Int) s93
      else
        some (0, s93)) := by
  obtain ⟨r, c', m', x1, x2, x3, x4⟩ := pr_rank h hE (t9 (p_w ((v3 : Int) + 1)).toNat) (t9 (p_w ((v3 : Int) + 2)).toNat)
  refine ⟨c', m', ?_, x3.more (by omega), x4⟩
  rw [gd1 (hg 1 (by omega)), gd1 (hg 2 (by omega)), gd1 (isS c m), u_SW_rank m _ _ c _ x1, pbd1, gd1 (hg 1 (by omega)), gd1 (hg 2 (by omega)), gd1 (isM c' m), u_Mo_rank c' _ _ m _ x2, pbd1, if_pos rfl]
theorem la_6 {b : Nat} (hb : b < 400000000) {c : h_C} {m : h_M} (h : RR b c m) (hE : c 607 0 0 = m 102 0) {n9 : Nat} {t9 : Nat → Int} (ht : ∀ i, -2147483648 ≤ t9 i ∧ t9 i < 2147483648) {v3 : Nat} (hg : ∀ k : Int, (k = 1 ∨ k = 2 ∨ k = 3 ∨ k = 4 ∨ k = 5) → (0 : Int) ≤ p_w ((v3 : Int) + k) ∧ p_w ((v3 : Int) + k) < (n9 : Int)) (k18 : Nat → Nat → Int → p_Hp → Option (Int × p_Hp)) : PLw b n9 t9 k18 v3 (
      p_gd ((0 : Int) ≤ (p_w ((v3 : Int) + 1)) ∧ (p_w ((v3 : Int) + 1)) < (n9 : Int)) <|
      p_gd ((0 : Int) ≤ (p_w ((v3 : Int) + 2)) ∧ (p_w ((v3 : Int) + 2)) < (n9 : Int)) <|
      p_gd (p_is (h_H c m) 1 10) <|
      p_bd (F_SW_refit 1 (t9 ((p_w ((v3 : Int) + 1)) : Int).toNat) (t9 ((p_w ((v3 : Int) + 2)) : Int).toNat) (h_H c m)) fun r107 s103 =>
      p_gd ((0 : Int) ≤ (p_w ((v3 : Int) + 1)) ∧ (p_w ((v3 : Int) + 1)) < (n9 : Int)) <|
      p_gd ((0 : Int) ≤ (p_w ((v3 : Int) + 2)) ∧ (p_w ((v3 : Int) + 2)) < (n9 : Int)) <|
      p_gd (p_is s103 1125 11) <|
      p_bd (F_Mo_refit 1125 (t9 ((p_w ((v3 : Int) + 1)) : Int).toNat) (t9 ((p_w ((v3 : Int) + 2)) : Int).toNat) s103) fun r115 s111 =>
      if r107 = r115 then
        B_La_law_1701 n9 t9 k18 1 1125 (v3 : Int) s111
      else
        some (0, s111)) := by
  obtain ⟨r, c', m', x1, x2, x3, x4⟩ := pr_refit h hE (t9 (p_w ((v3 : Int) + 1)).toNat) (t9 (p_w ((v3 : Int) + 2)).toNat)
  refine ⟨c', m', ?_, x3.more (by omega), x4⟩
  rw [gd1 (hg 1 (by omega)), gd1 (hg 2 (by omega)), gd1 (isS c m), u_SW_refit m _ _ c _ x1, pbd1, gd1 (hg 1 (by omega)), gd1 (hg 2 (by omega)), gd1 (isM c' m), u_Mo_refit c' _ _ m _ x2, pbd1, if_pos rfl]
theorem la_7 {b : Nat} (hb : b < 400000000) {c : h_C} {m : h_M} (h : RR b c m) (hE : c 607 0 0 = m 102 0) {n9 : Nat} {t9 : Nat → Int} (ht : ∀ i, -2147483648 ≤ t9 i ∧ t9 i < 2147483648) {v3 : Nat} (hg : ∀ k : Int, (k = 1 ∨ k = 2 ∨ k = 3 ∨ k = 4 ∨ k = 5) → (0 : Int) ≤ p_w ((v3 : Int) + k) ∧ p_w ((v3 : Int) + k) < (n9 : Int)) (k18 : Nat → Nat → Int → p_Hp → Option (Int × p_Hp)) : PLw b n9 t9 k18 v3 (
      p_gd ((0 : Int) ≤ (p_w ((v3 : Int) + 1)) ∧ (p_w ((v3 : Int) + 1)) < (n9 : Int)) <|
      p_gd (p_is (h_H c m) 1 10) <|
      p_bd (F_SW_copy 1 (t9 ((p_w ((v3 : Int) + 1)) : Int).toNat) (h_H c m)) fun r124 s120 =>
      p_gd ((0 : Int) ≤ (p_w ((v3 : Int) + 1)) ∧ (p_w ((v3 : Int) + 1)) < (n9 : Int)) <|
      p_gd (p_is s120 1125 11) <|
      p_bd (F_Mo_copy 1125 (t9 ((p_w ((v3 : Int) + 1)) : Int).toNat) s120) fun r131 s127 =>
      if r124 = r131 then
        B_La_law_1701 n9 t9 k18 1 1125 (v3 : Int) s127
      else
        some (0, s127)) := by
  obtain ⟨r, c', m', x1, x2, x3, x4⟩ := pr_copy h hE (t9 (p_w ((v3 : Int) + 1)).toNat)
  refine ⟨c', m', ?_, x3.more (by omega), x4⟩
  rw [gd1 (hg 1 (by omega)), gd1 (isS c m), u_SW_copy m _ c _ x1, pbd1, gd1 (hg 1 (by omega)), gd1 (isM c' m), u_Mo_copy c' _ m _ x2, pbd1, if_pos rfl]
theorem la_8 {b : Nat} (hb : b < 400000000) {c : h_C} {m : h_M} (h : RR b c m) (hE : c 607 0 0 = m 102 0) {n9 : Nat} {t9 : Nat → Int} (ht : ∀ i, -2147483648 ≤ t9 i ∧ t9 i < 2147483648) {v3 : Nat} (hg : ∀ k : Int, (k = 1 ∨ k = 2 ∨ k = 3 ∨ k = 4 ∨ k = 5) → (0 : Int) ≤ p_w ((v3 : Int) + k) ∧ p_w ((v3 : Int) + k) < (n9 : Int)) (k18 : Nat → Nat → Int → p_Hp → Option (Int × p_Hp)) : PLw b n9 t9 k18 v3 (
      p_gd ((0 : Int) ≤ (p_w ((v3 : Int) + 1)) ∧ (p_w ((v3 : Int) + 1)) < (n9 : Int)) <|
      p_gd (p_is (h_H c m) 1 10) <|
      p_bd (F_SW_letter 1 (t9 ((p_w ((v3 : Int) + 1)) : Int).toNat) (h_H c m)) fun r140 s136 =>
      p_gd ((0 : Int) ≤ (p_w ((v3 : Int) + 1)) ∧ (p_w ((v3 : Int) + 1)) < (n9 : Int)) <|
      p_gd (p_is s136 1125 11) <|
      p_bd (F_Mo_letter 1125 (t9 ((p_w ((v3 : Int) + 1)) : Int).toNat) s136) fun r147 s143 =>
      if r140 = r147 then
        B_La_law_1701 n9 t9 k18 1 1125 (v3 : Int) s143
      else
        some (0, s143)) := by
  obtain ⟨r, c', m', x1, x2, x3, x4⟩ := pr_letter h hE (t9 (p_w ((v3 : Int) + 1)).toNat)
  refine ⟨c', m', ?_, x3.more (by omega), x4⟩
  rw [gd1 (hg 1 (by omega)), gd1 (isS c m), u_SW_letter m _ c _ x1, pbd1, gd1 (hg 1 (by omega)), gd1 (isM c' m), u_Mo_letter c' _ m _ x2, pbd1, if_pos rfl]
theorem la_9 {b : Nat} (hb : b < 400000000) {c : h_C} {m : h_M} (h : RR b c m) (hE : c 607 0 0 = m 102 0) {n9 : Nat} {t9 : Nat → Int} (ht : ∀ i, -2147483648 ≤ t9 i ∧ t9 i < 2147483648) {v3 : Nat} (hg : ∀ k : Int, (k = 1 ∨ k = 2 ∨ k = 3 ∨ k = 4 ∨ k = 5) → (0 : Int) ≤ p_w ((v3 : Int) + k) ∧ p_w ((v3 : Int) + k) < (n9 : Int)) (k18 : Nat → Nat → Int → p_Hp → Option (Int × p_Hp)) : PLw b n9 t9 k18 v3 (
      p_gd (p_is (h_H c m) 1 10) <|
      p_bd (F_SW_load 1 (h_H c m)) fun r155 s151 =>
      p_gd (p_is s151 1125 11) <|
      p_bd (F_Mo_load 1125 s151) fun r161 s157 =>
      if r155 = r161 then
        B_La_law_1701 n9 t9 k18 1 1125 (v3 : Int) s157
      else
        some (0, s157)) := by
  obtain ⟨r, c', m', x1, x2, x3, x4⟩ := pr_load h hE 
  refine ⟨c', m', ?_, x3.more (by omega), x4⟩
  rw [gd1 (isS c m), u_SW_load m  c _ x1, pbd1, gd1 (isM c' m), u_Mo_load c'  m _ x2, pbd1, if_pos rfl]
theorem la_10 {b : Nat} (hb : b < 400000000) {c : h_C} {m : h_M} (h : RR b c m) (hE : c 607 0 0 = m 102 0) {n9 : Nat} {t9 : Nat → Int} (ht : ∀ i, -2147483648 ≤ t9 i ∧ t9 i < 2147483648) {v3 : Nat} (hg : ∀ k : Int, (k = 1 ∨ k = 2 ∨ k = 3 ∨ k = 4 ∨ k = 5) → (0 : Int) ≤ p_w ((v3 : Int) + k) ∧ p_w ((v3 : Int) + k) < (n9 : Int)) (k18 : Nat → Nat → Int → p_Hp → Option (Int × p_Hp)) : PLw b n9 t9 k18 v3 (
      p_gd ((0 : Int) ≤ (p_w ((v3 : Int) + 1)) ∧ (p_w ((v3 : Int) + 1)) < (n9 : Int)) <|
      p_gd ((0 : Int) ≤ (p_w ((v3 : Int) + 2)) ∧ (p_w ((v3 : Int) + 2)) < (n9 : Int)) <|
      p_gd ((0 : Int) ≤ (p_w ((v3 : Int) + 3)) ∧ (p_w ((v3 : Int) + 3)) < (n9 : Int)) <|
      p_gd ((0 : Int) ≤ (p_w ((v3 : Int) + 4)) ∧ (p_w ((v3 : Int) + 4)) < (n9 : Int)) <|
      p_gd ((0 : Int) ≤ (p_w ((v3 : Int) + 5)) ∧ (p_w ((v3 : Int) + 5)) < (n9 : Int)) <|
      p_gd (p_is (h_H c m) 1 10) <|
      p_bd (F_SW_plan 1 (t9 ((p_w ((v3 : Int) + 1)) : Int).toNat) (t9 ((p_w ((v3 : Int) + 2)) : Int).toNat) (t9 ((p_w ((v3 : Int) + 3)) : Int).toNat) (t9 ((p_w ((v3 : Int) + 4)) : Int).toNat) (t9 ((p_w ((v3 : Int) + 5)) : Int).toNat) (h_H c m)) fun r174 s170 =>
      p_gd ((0 : Int) ≤ (p_w ((v3 : Int) + 1)) ∧ (p_w ((v3 : Int) + 1)) < (n9 : Int)) <|
      p_gd ((0 : Int) ≤ (p_w ((v3 : Int) + 2)) ∧ (p_w ((v3 : Int) + 2)) < (n9 : Int)) <|
      p_gd ((0 : Int) ≤ (p_w ((v3 : Int) + 3)) ∧ (p_w ((v3 : Int) + 3)) < (n9 : Int)) <|
      p_gd ((0 : Int) ≤ (p_w ((v3 : Int) + 4)) ∧ (p_w ((v3 : Int) + 4)) < (n9 : Int)) <|
      p_gd ((0 : Int) ≤ (p_w ((v3 : Int) + 5)) ∧ (p_w ((v3 : Int) + 5)) < (n9 : Int)) <|
      p_gd (p_is s170 1125 11) <|
      p_bd (F_Mo_plan 1125 (t9 ((p_w ((v3 : Int) + 1)) : Int).toNat) (t9 ((p_w ((v3 : Int) + 2)) : Int).toNat) (t9 ((p_w ((v3 : Int) + 3)) : Int).toNat) (t9 ((p_w ((v3 : Int) + 4)) : Int).toNat) (t9 ((p_w ((v3 : Int) + 5)) : Int).toNat) s170) fun r185 s181 =>
      if r174 = r185 then
        B_La_law_1701 n9 t9 k18 1 1125 (v3 : Int) s181
      else
        some (0, s181)) := by
  obtain ⟨r, c', m', x1, x2, x3, x4⟩ := pr_plan h hE (t9 (p_w ((v3 : Int) + 1)).toNat) (t9 (p_w ((v3 : Int) + 2)).toNat) (t9 (p_w ((v3 : Int) + 3)).toNat) (t9 (p_w ((v3 : Int) + 4)).toNat) (t9 (p_w ((v3 : Int) + 5)).toNat)
  refine ⟨c', m', ?_, x3.more (by omega), x4⟩
  rw [gd1 (hg 1 (by omega)), gd1 (hg 2 (by omega)), gd1 (hg 3 (by omega)), gd1 (hg 4 (by omega)), gd1 (hg 5 (by omega)), gd1 (isS c m), u_SW_plan m _ _ _ _ _ c _ x1, pbd1, gd1 (hg 1 (by omega)), gd1 (hg 2 (by omega)), gd1 (hg 3 (by omega)), gd1 (hg 4 (by omega)), gd1 (hg 5 (by omega)), gd1 (isM c' m), u_Mo_plan c' _ _ _ _ _ m _ x2, pbd1, if_pos rfl]
theorem la_11 {b : Nat} (hb : b < 400000000) {c : h_C} {m : h_M} (h : RR b c m) (hE : c 607 0 0 = m 102 0) {n9 : Nat} {t9 : Nat → Int} (ht : ∀ i, -2147483648 ≤ t9 i ∧ t9 i < 2147483648) {v3 : Nat} (hg : ∀ k : Int, (k = 1 ∨ k = 2 ∨ k = 3 ∨ k = 4 ∨ k = 5) → (0 : Int) ≤ p_w ((v3 : Int) + k) ∧ p_w ((v3 : Int) + k) < (n9 : Int)) (k18 : Nat → Nat → Int → p_Hp → Option (Int × p_Hp)) : PLw b n9 t9 k18 v3 (
      p_gd ((0 : Int) ≤ (p_w ((v3 : Int) + 1)) ∧ (p_w ((v3 : Int) + 1)) < (n9 : Int)) <|
      p_gd ((0 : Int) ≤ (p_w ((v3 : Int) + 2)) ∧ (p_w ((v3 : Int) + 2)) < (n9 : Int)) <|
      p_gd ((0 : Int) ≤ (p_w ((v3 : Int) + 3)) ∧ (p_w ((v3 : Int) + 3)) < (n9 : Int)) <|
      p_gd (p_is (h_H c m) 1 10) <|
      p_bd (F_SW_come 1 (t9 ((p_w ((v3 : Int) + 1)) : Int).toNat) (t9 ((p_w ((v3 : Int) + 2)) : Int).toNat) (t9 ((p_w ((v3 : Int) + 3)) : Int).toNat) (h_H c m)) fun r196 s192 =>
      p_gd ((0 : Int) ≤ (p_w ((v3 : Int) + 1)) ∧ (p_w ((v3 : Int) + 1)) < (n9 : Int)) <|
      p_gd ((0 : Int) ≤ (p_w ((v3 : Int) + 2)) ∧ (p_w ((v3 : Int) + 2)) < (n9 : Int)) <|
      p_gd ((0 : Int) ≤ (p_w ((v3 : Int) + 3)) ∧ (p_w ((v3 : Int) + 3)) < (n9 : Int)) <|
      p_gd (p_is s192 1125 11) <|
      p_bd (F_Mo_come 1125 (t9 ((p_w ((v3 : Int) + 1)) : Int).toNat) (t9 ((p_w ((v3 : Int) + 2)) : Int).toNat) (t9 ((p_w ((v3 : Int) + 3)) : Int).toNat) s192) fun r205 s201 =>
      if r196 = r205 then
        B_La_law_1701 n9 t9 k18 1 1125 (v3 : Int) s201
      else
        some (0, s201)) := by
  obtain ⟨r, c', m', x1, x2, x3, x4⟩ := pr_come (by omega) h hE (t9 (p_w ((v3 : Int) + 1)).toNat) (t9 (p_w ((v3 : Int) + 2)).toNat) (t9 (p_w ((v3 : Int) + 3)).toNat)
  refine ⟨c', m', ?_, x3.more (by omega), x4⟩
  rw [gd1 (hg 1 (by omega)), gd1 (hg 2 (by omega)), gd1 (hg 3 (by omega)), gd1 (isS c m), u_SW_come m _ _ _ c _ x1, pbd1, gd1 (hg 1 (by omega)), gd1 (hg 2 (by omega)), gd1 (hg 3 (by omega)), gd1 (isM c' m), u_Mo_come c' _ _ _ m _ x2, pbd1, if_pos rfl]
theorem la_12 {b : Nat} (hb : b < 400000000) {c : h_C} {m : h_M} (h : RR b c m) (hE : c 607 0 0 = m 102 0) {n9 : Nat} {t9 : Nat → Int} (ht : ∀ i, -2147483648 ≤ t9 i ∧ t9 i < 2147483648) {v3 : Nat} (hg : ∀ k : Int, (k = 1 ∨ k = 2 ∨ k = 3 ∨ k = 4 ∨ k = 5) → (0 : Int) ≤ p_w ((v3 : Int) + k) ∧ p_w ((v3 : Int) + k) < (n9 : Int)) (k18 : Nat → Nat → Int → p_Hp → Option (Int × p_Hp)) : PLw b n9 t9 k18 v3 (
      p_gd ((0 : Int) ≤ (p_w ((v3 : Int) + 1)) ∧ (p_w ((v3 : Int) + 1)) < (n9 : Int)) <|
      p_gd ((0 : Int) ≤ (p_w ((v3 : Int) + 2)) ∧ (p_w ((v3 : Int) + 2)) < (n9 : Int)) <|
      p_gd (p_is (h_H c m) 1 10) <|
      p_bd (F_SW_label 1 (t9 ((p_w ((v3 : Int) + 1)) : Int).toNat) (t9 ((p_w ((v3 : Int) + 2)) : Int).toNat) (h_H c m)) fun r215 s211 =>
      p_gd ((0 : Int) ≤ (p_w ((v3 : Int) + 1)) ∧ (p_w ((v3 : Int) + 1)) < (n9 : Int)) <|
      p_gd ((0 : Int) ≤ (p_w ((v3 : Int) + 2)) ∧ (p_w ((v3 : Int) + 2)) < (n9 : Int)) <|
      p_gd (p_is s211 1125 11) <|
      p_bd (F_Mo_label 1125 (t9 ((p_w ((v3 : Int) + 1)) : Int).toNat) (t9 ((p_w ((v3 : Int) + 2)) : Int).toNat) s211) fun r223 s219 =>
      if r215 = r223 then
        B_La_law_1701 n9 t9 k18 1 1125 (v3 : Int) s219
      else
        some (0, s219)) := by
  obtain ⟨r, c', m', x1, x2, x3, x4⟩ := pr_label h hE (t9 (p_w ((v3 : Int) + 1)).toNat) (t9 (p_w ((v3 : Int) + 2)).toNat)
  refine ⟨c', m', ?_, x3.more (by omega), x4⟩
  rw [gd1 (hg 1 (by omega)), gd1 (hg 2 (by omega)), gd1 (isS c m), u_SW_label m _ _ c _ x1, pbd1, gd1 (hg 1 (by omega)), gd1 (hg 2 (by omega)), gd1 (isM c' m), u_Mo_label c' _ _ m _ x2, pbd1, if_pos rfl]
theorem la_13 {b : Nat} (hb : b < 400000000) {c : h_C} {m : h_M} (h : RR b c m) (hE : c 607 0 0 = m 102 0) {n9 : Nat} {t9 : Nat → Int} (ht : ∀ i, -2147483648 ≤ t9 i ∧ t9 i < 2147483648) {v3 : Nat} (hg : ∀ k : Int, (k = 1 ∨ k = 2 ∨ k = 3 ∨ k = 4 ∨ k = 5) → (0 : Int) ≤ p_w ((v3 : Int) + k) ∧ p_w ((v3 : Int) + k) < (n9 : Int)) (k18 : Nat → Nat → Int → p_Hp → Option (Int × p_Hp)) : PLw b n9 t9 k18 v3 (
      p_gd ((0 : Int) ≤ (p_w ((v3 : Int) + 1)) ∧ (p_w ((v3 : Int) + 1)) < (n9 : Int)) <|
      p_gd ((0 : Int) ≤ (p_w ((v3 : Int) + 2)) ∧ (p_w ((v3 : Int) + 2)) < (n9 : Int)) <|
      p_gd ((0 : Int) ≤ (p_w ((v3 : Int) + 3)) ∧ (p_w ((v3 : Int) + 3)) < (n9 : Int)) <|
      p_gd (p_is (h_H c m) 1 10) <|
      p_bd (F_SW_put 1 (t9 ((p_w ((v3 : Int) + 1)) : Int).toNat) (t9 ((p_w ((v3 : Int) + 2)) : Int).toNat) (t9 ((p_w ((v3 : Int) + 3)) : Int).toNat) (h_H c m)) fun r234 s230 =>
      p_gd ((0 : Int) ≤ (p_w ((v3 : Int) + 1)) ∧ (p_w ((v3 : Int) + 1)) < (n9 : Int)) <|
      p_gd ((0 : Int) ≤ (p_w ((v3 : Int) + 2)) ∧ (p_w ((v3 : Int) + 2)) < (n9 : Int)) <|
      p_gd ((0 : Int) ≤ (p_w ((v3 : Int) + 3)) ∧ (p_w ((v3 : Int) + 3)) < (n9 : Int)) <|
      p_gd (p_is s230 1125 11) <|
      p_bd (F_Mo_put 1125 (t9 ((p_w ((v3 : Int) + 1)) : Int).toNat) (t9 ((p_w ((v3 : Int) + 2)) : Int).toNat) (t9 ((p_w ((v3 : Int) + 3)) : Int).toNat) s230) fun r243 s239 =>
      if r234 = r243 then
        B_La_law_1701 n9 t9 k18 1 1125 (v3 : Int) s239
      else
        some (0, s239)) := by
  obtain ⟨r, c', m', x1, x2, x3, x4⟩ := pr_put h hE (t9 (p_w ((v3 : Int) + 1)).toNat) (t9 (p_w ((v3 : Int) + 2)).toNat) (t9 (p_w ((v3 : Int) + 3)).toNat)
  refine ⟨c', m', ?_, x3.more (by omega), x4⟩
  rw [gd1 (hg 1 (by omega)), gd1 (hg 2 (by omega)), gd1 (hg 3 (by omega)), gd1 (isS c m), u_SW_put m _ _ _ c _ x1, pbd1, gd1 (hg 1 (by omega)), gd1 (hg 2 (by omega)), gd1 (hg 3 (by omega)), gd1 (isM c' m), u_Mo_put c' _ _ _ m _ x2, pbd1, if_pos rfl]
theorem la_14 {b : Nat} (hb : b < 400000000) {c : h_C} {m : h_M} (h : RR b c m) (hE : c 607 0 0 = m 102 0) {n9 : Nat} {t9 : Nat → Int} (ht : ∀ i, -2147483648 ≤ t9 i ∧ t9 i < 2147483648) {v3 : Nat} (hg : ∀ k : Int, (k = 1 ∨ k = 2 ∨ k = 3 ∨ k = 4 ∨ k = 5) → (0 : Int) ≤ p_w ((v3 : Int) + k) ∧ p_w ((v3 : Int) + k) < (n9 : Int)) (k18 : Nat → Nat → Int → p_Hp → Option (Int × p_Hp)) : PLw b n9 t9 k18 v3 (
      p_gd ((0 : Int) ≤ (p_w ((v3 : Int) + 1)) ∧ (p_w ((v3 : Int) + 1)) < (n9 : Int)) <|
      p_gd ((0 : Int) ≤ (p_w ((v3 : Int) + 2)) ∧ (p_w ((v3 : Int) + 2)) < (n9 : Int)) <|
      p_gd ((0 : Int) ≤ (p_w ((v3 : Int) + 3)) ∧ (p_w ((v3 : Int) + 3)) < (n9 : Int)) <|
      p_gd (p_is (h_H c m) 1 10) <|
      p_bd (F_SW_tag 1 (t9 ((p_w ((v3 : Int) + 1)) : Int).toNat) (t9 ((p_w ((v3 : Int) + 2)) : Int).toNat) (t9 ((p_w ((v3 : Int) + 3)) : Int).toNat) (h_H c m)) fun r254 s250 =>
      p_gd ((0 : Int) ≤ (p_w ((v3 : Int) + 1)) ∧ (p_w ((v3 : Int) + 1)) < (n9 : Int)) <|
      p_gd ((0 : Int) ≤ (p_w ((v3 : Int) + 2)) ∧ (p_w ((v3 : Int) + 2)) < (n9 : Int)) <|
      p_gd ((0 : Int) ≤ (p_w ((v3 : Int) + 3)) ∧ (p_w ((v3 : Int) + 3)) < (n9 : Int)) <|
      p_gd (p_is s250 1125 11) <|
      p_bd (F_Mo_tag 1125 (t9 ((p_w ((v3 : Int) + 1)) : Int).toNat) (t9 ((p_w ((v3 : Int) + 2)) : Int).toNat) (t9 ((p_w ((v3 : Int) + 3)) : Int).toNat) s250) fun r263 s259 =>
      if r254 = r263 then
        B_La_law_1701 n9 t9 k18 1 1125 (v3 : Int) s259
      else
        some (0, s259)) := by
  obtain ⟨r, c', m', x1, x2, x3, x4⟩ := pr_tag h hE (t9 (p_w ((v3 : Int) + 1)).toNat) (t9 (p_w ((v3 : Int) + 2)).toNat) (t9 (p_w ((v3 : Int) + 3)).toNat)
  refine ⟨c', m', ?_, x3.more (by omega), x4⟩
  rw [gd1 (hg 1 (by omega)), gd1 (hg 2 (by omega)), gd1 (hg 3 (by omega)), gd1 (isS c m), u_SW_tag m _ _ _ c _ x1, pbd1, gd1 (hg 1 (by omega)), gd1 (hg 2 (by omega)), gd1 (hg 3 (by omega)), gd1 (isM c' m), u_Mo_tag c' _ _ _ m _ x2, pbd1, if_pos rfl]
theorem la_15 {b : Nat} (hb : b < 400000000) {c : h_C} {m : h_M} (h : RR b c m) (hE : c 607 0 0 = m 102 0) {n9 : Nat} {t9 : Nat → Int} (ht : ∀ i, -2147483648 ≤ t9 i ∧ t9 i < 2147483648) {v3 : Nat} (hg : ∀ k : Int, (k = 1 ∨ k = 2 ∨ k = 3 ∨ k = 4 ∨ k = 5) → (0 : Int) ≤ p_w ((v3 : Int) + k) ∧ p_w ((v3 : Int) + k) < (n9 : Int)) (k18 : Nat → Nat → Int → p_Hp → Option (Int × p_Hp)) : PLw b n9 t9 k18 v3 (
      p_gd ((0 : Int) ≤ (p_w ((v3 : Int) + 1)) ∧ (p_w ((v3 : Int) + 1)) < (n9 : Int)) <|
      p_gd ((0 : Int) ≤ (p_w ((v3 : Int) + 2)) ∧ (p_w ((v3 : Int) + 2)) < (n9 : Int)) <|
      if (t9 ((p_w ((v3 : Int) + 2)) : Int).toNat) = 0 then
        B_La_law_806 n9 t9 k18 1 1125 (v3 : Int) 0 (t9 ((p_w ((v3 : Int) + 1)) : Int).toNat) 1 (h_H c m)
      else
        B_La_law_806 n9 t9 k18 1 1125 (v3 : Int) 1 (t9 ((p_w ((v3 : Int) + 1)) : Int).toNat) 1 (h_H c m)) := by
  have key : ∀ x : Int, (x = 0 ∨ x = 1) → (x = if (t9 (p_w ((v3 : Int) + 2)).toNat) = 0 then 0 else 1) → ∃ c' m', B_La_law_806 n9 t9 k18 1 1125 (v3 : Int) x (t9 (p_w ((v3 : Int) + 1)).toNat) 1 (h_H c m) = B_La_law_1701 n9 t9 k18 1 1125 (v3 : Int) (h_H c' m') ∧ RR (b + 16000) c' m' ∧ c' 607 0 0 = m' 102 0 := fun x hx hxw => by
    obtain ⟨r, c', m', x1, x2, x3, x4⟩ := pr_door h hE (t9 (p_w ((v3 : Int) + 1)).toNat) x hx
    refine ⟨c', m', ?_, x3.more (by omega), x4⟩
    unfold B_La_law_806
    rw [gd1 (isS c m), u_SW_door m _ _ c _ x1, pbd1, gd1 (hg 1 (by omega)), gd1 (hg 2 (by omega)), show (if (t9 (p_w ((v3 : Int) + 2)).toNat) = 0 then B_La_law_828 n9 t9 k18 1 1125 (v3 : Int) 0 (t9 (p_w ((v3 : Int) + 1)).toNat) 1125 r (h_H c' m) else B_La_law_828 n9 t9 k18 1 1125 (v3 : Int) 1 (t9 (p_w ((v3 : Int) + 1)).toNat) 1125 r (h_H c' m)) = B_La_law_828 n9 t9 k18 1 1125 (v3 : Int) x (t9 (p_w ((v3 : Int) + 1)).toNat) 1125 r (h_H c' m) by
      by_cases z : (t9 (p_w ((v3 : Int) + 2)).toNat) = 0
      · rw [if_pos z] at hxw ⊢; rw [hxw]
      · rw [if_neg z] at hxw ⊢; rw [hxw]]
    unfold B_La_law_828
    rw [gd1 (isM c' m), u_Mo_door c' _ _ m _ x2, pbd1, if_pos rfl]
  rw [gd1 (hg 1 (by omega)), gd1 (hg 2 (by omega))]
  by_cases z : (t9 (p_w ((v3 : Int) + 2)).toNat) = 0
  · rw [if_pos z]; exact key 0 (Or.inl rfl) (by rw [if_pos z])
  · rw [if_neg z]; exact key 1 (Or.inr rfl) (by rw [if_neg z])
theorem la_16 {b : Nat} (hb : b < 400000000) {c : h_C} {m : h_M} (h : RR b c m) (hE : c 607 0 0 = m 102 0) {n9 : Nat} {t9 : Nat → Int} (ht : ∀ i, -2147483648 ≤ t9 i ∧ t9 i < 2147483648) {v3 : Nat} (hg : ∀ k : Int, (k = 1 ∨ k = 2 ∨ k = 3 ∨ k = 4 ∨ k = 5) → (0 : Int) ≤ p_w ((v3 : Int) + k) ∧ p_w ((v3 : Int) + k) < (n9 : Int)) (k18 : Nat → Nat → Int → p_Hp → Option (Int × p_Hp)) : PLw b n9 t9 k18 v3 (
      p_gd ((0 : Int) ≤ (p_w ((v3 : Int) + 1)) ∧ (p_w ((v3 : Int) + 1)) < (n9 : Int)) <|
      p_gd ((0 : Int) ≤ (p_w ((v3 : Int) + 2)) ∧ (p_w ((v3 : Int) + 2)) < (n9 : Int)) <|
      p_gd (p_is (h_H c m) 1 10) <|
      p_bd (F_SW_turn 1 (t9 ((p_w ((v3 : Int) + 1)) : Int).toNat) (t9 ((p_w ((v3 : Int) + 2)) : Int).toNat) (h_H c m)) fun r277 s273 =>
      p_gd ((0 : Int) ≤ (p_w ((v3 : Int) + 1)) ∧ (p_w ((v3 : Int) + 1)) < (n9 : Int)) <|
      p_gd ((0 : Int) ≤ (p_w ((v3 : Int) + 2)) ∧ (p_w ((v3 : Int) + 2)) < (n9 : Int)) <|
      p_gd (p_is s273 1125 11) <|
      p_bd (F_Mo_turn 1125 (t9 ((p_w ((v3 : Int) + 1)) : Int).toNat) (t9 ((p_w ((v3 : Int) + 2)) : Int).toNat) s273) fun r285 s281 =>
      if r277 = r285 then
        B_La_law_1701 n9 t9 k18 1 1125 (v3 : Int) s281
      else
        some (0, s281)) := by
  obtain ⟨r, c', m', x1, x2, x3, x4⟩ := pr_turn h hE (t9 (p_w ((v3 : Int) + 1)).toNat) (t9 (p_w ((v3 : Int) + 2)).toNat)
  refine ⟨c', m', ?_, x3.more (by omega), x4⟩
  rw [gd1 (hg 1 (by omega)), gd1 (hg 2 (by omega)), gd1 (isS c m), u_SW_turn m _ _ c _ x1, pbd1, gd1 (hg 1 (by omega)), gd1 (hg 2 (by omega)), gd1 (isM c' m), u_Mo_turn c' _ _ m _ x2, pbd1, if_pos rfl]
theorem la_17 {b : Nat} (hb : b < 400000000) {c : h_C} {m : h_M} (h : RR b c m) (hE : c 607 0 0 = m 102 0) {n9 : Nat} {t9 : Nat → Int} (ht : ∀ i, -2147483648 ≤ t9 i ∧ t9 i < 2147483648) {v3 : Nat} (hg : ∀ k : Int, (k = 1 ∨ k = 2 ∨ k = 3 ∨ k = 4 ∨ k = 5) → (0 : Int) ≤ p_w ((v3 : Int) + k) ∧ p_w ((v3 : Int) + k) < (n9 : Int)) (k18 : Nat → Nat → Int → p_Hp → Option (Int × p_Hp)) : PLw b n9 t9 k18 v3 (
      p_gd ((0 : Int) ≤ (p_w ((v3 : Int) + 1)) ∧ (p_w ((v3 : Int) + 1)) < (n9 : Int)) <|
      p_gd ((0 : Int) ≤ (p_w ((v3 : Int) + 2)) ∧ (p_w ((v3 : Int) + 2)) < (n9 : Int)) <|
      p_gd (p_is (h_H c m) 1 10) <|
      p_bd (F_SW_release 1 (t9 ((p_w ((v3 : Int) + 1)) : Int).toNat) (t9 ((p_w ((v3 : Int) + 2)) : Int).toNat) (h_H c m)) fun r295 s291 =>
      p_gd ((0 : Int) ≤ (p_w ((v3 : Int) + 1)) ∧ (p_w ((v3 : Int) + 1)) < (n9 : Int)) <|
      p_gd ((0 : Int) ≤ (p_w ((v3 : Int) + 2)) ∧ (p_w ((v3 : Int) + 2)) < (n9 : Int)) <|
      p_gd (p_is s291 1125 11) <|
      p_bd (F_Mo_release 1125 (t9 ((p_w ((v3 : Int) + 1)) : Int).toNat) (t9 ((p_w ((v3 : Int) + 2)) : Int).toNat) s291) fun r303 s299 =>
      if r295 = r303 then
        B_La_law_1701 n9 t9 k18 1 1125 (v3 : Int) s299
      else
        some (0, s299)) := by
  obtain ⟨r, c', m', x1, x2, x3, x4⟩ := pr_release h hE (t9 (p_w ((v3 : Int) + 1)).toNat) (t9 (p_w ((v3 : Int) + 2)).toNat)
  refine ⟨c', m', ?_, x3.more (by omega), x4⟩
  rw [gd1 (hg 1 (by omega)), gd1 (hg 2 (by omega)), gd1 (isS c m), u_SW_release m _ _ c _ x1, pbd1, gd1 (hg 1 (by omega)), gd1 (hg 2 (by omega)), gd1 (isM c' m), u_Mo_release c' _ _ m _ x2, pbd1, if_pos rfl]
theorem la_18 {b : Nat} (hb : b < 400000000) {c : h_C} {m : h_M} (h : RR b c m) (hE : c 607 0 0 = m 102 0) {n9 : Nat} {t9 : Nat → Int} (ht : ∀ i, -2147483648 ≤ t9 i ∧ t9 i < 2147483648) {v3 : Nat} (hg : ∀ k : Int, (k = 1 ∨ k = 2 ∨ k = 3 ∨ k = 4 ∨ k = 5) → (0 : Int) ≤ p_w ((v3 : Int) + k) ∧ p_w ((v3 : Int) + k) < (n9 : Int)) (k18 : Nat → Nat → Int → p_Hp → Option (Int × p_Hp)) : PLw b n9 t9 k18 v3 (
      p_gd ((0 : Int) ≤ (p_w ((v3 : Int) + 1)) ∧ (p_w ((v3 : Int) + 1)) < (n9 : Int)) <|
      p_gd (p_is (h_H c m) 1 10) <|
      p_bd (F_SW_clear 1 (t9 ((p_w ((v3 : Int) + 1)) : Int).toNat) (h_H c m)) fun r312 s308 =>
      p_gd ((0 : Int) ≤ (p_w ((v3 : Int) + 1)) ∧ (p_w ((v3 : Int) + 1)) < (n9 : Int)) <|
      p_gd (p_is s308 1125 11) <|
      p_bd (F_Mo_clear 1125 (t9 ((p_w ((v3 : Int) + 1)) : Int).toNat) s308) fun r319 s315 =>
      if r312 = r319 then
        B_La_law_1701 n9 t9 k18 1 1125 (v3 : Int) s315
      else
        some (0, s315)) := by
  obtain ⟨r, c', m', x1, x2, x3, x4⟩ := pr_clear (by omega) h hE (t9 (p_w ((v3 : Int) + 1)).toNat)
  refine ⟨c', m', ?_, x3.more (by omega), x4⟩
  rw [gd1 (hg 1 (by omega)), gd1 (isS c m), u_SW_clear m _ c _ x1, pbd1, gd1 (hg 1 (by omega)), gd1 (isM c' m), u_Mo_clear c' _ m _ x2, pbd1, if_pos rfl]
theorem la_19 {b : Nat} (hb : b < 400000000) {c : h_C} {m : h_M} (h : RR b c m) (hE : c 607 0 0 = m 102 0) {n9 : Nat} {t9 : Nat → Int} (ht : ∀ i, -2147483648 ≤ t9 i ∧ t9 i < 2147483648) {v3 : Nat} (hg : ∀ k : Int, (k = 1 ∨ k = 2 ∨ k = 3 ∨ k = 4 ∨ k = 5) → (0 : Int) ≤ p_w ((v3 : Int) + k) ∧ p_w ((v3 : Int) + k) < (n9 : Int)) (k18 : Nat → Nat → Int → p_Hp → Option (Int × p_Hp)) : PLw b n9 t9 k18 v3 (
      p_gd ((0 : Int) ≤ (p_w ((v3 : Int) + 1)) ∧ (p_w ((v3 : Int) + 1)) < (n9 : Int)) <|
      p_gd ((0 : Int) ≤ (p_w ((v3 : Int) + 2)) ∧ (p_w ((v3 : Int) + 2)) < (n9 : Int)) <|
      p_gd (p_is (h_H c m) 1 10) <|
      p_bd (F_SW_carry 1 (t9 ((p_w ((v3 : Int) + 1)) : Int).toNat) (t9 ((p_w ((v3 : Int) + 2)) : Int).toNat) (h_H c m)) fun r329 s325 =>
      p_gd ((0 : Int) ≤ (p_w ((v3 : Int) + 1)) ∧ (p_w ((v3 : Int) + 1)) < (n9 : Int)) <|
      p_gd ((0 : Int) ≤ (p_w ((v3 : Int) + 2)) ∧ (p_w ((v3 : Int) + 2)) < (n9 : Int)) <|
      p_gd (p_is s325 1125 11) <|
      p_bd (F_Mo_carry 1125 (t9 ((p_w ((v3 : Int) + 1)) : Int).toNat) (t9 ((p_w ((v3 : Int) + 2)) : Int).toNat) s325) fun r337 s333 =>
      if r329 = r337 then
        B_La_law_1701 n9 t9 k18 1 1125 (v3 : Int) s333
      else
        some (0, s333)) := by
  obtain ⟨r, c', m', x1, x2, x3, x4⟩ := pr_carry (by omega) h hE (t9 (p_w ((v3 : Int) + 1)).toNat) (t9 (p_w ((v3 : Int) + 2)).toNat)
  refine ⟨c', m', ?_, x3.more (by omega), x4⟩
  rw [gd1 (hg 1 (by omega)), gd1 (hg 2 (by omega)), gd1 (isS c m), u_SW_carry m _ _ c _ x1, pbd1, gd1 (hg 1 (by omega)), gd1 (hg 2 (by omega)), gd1 (isM c' m), u_Mo_carry c' _ _ m _ x2, pbd1, if_pos rfl]
theorem la_20 {b : Nat} (hb : b < 400000000) {c : h_C} {m : h_M} (h : RR b c m) (hE : c 607 0 0 = m 102 0) {n9 : Nat} {t9 : Nat → Int} (ht : ∀ i, -2147483648 ≤ t9 i ∧ t9 i < 2147483648) {v3 : Nat} (hg : ∀ k : Int, (k = 1 ∨ k = 2 ∨ k = 3 ∨ k = 4 ∨ k = 5) → (0 : Int) ≤ p_w ((v3 : Int) + k) ∧ p_w ((v3 : Int) + k) < (n9 : Int)) (k18 : Nat → Nat → Int → p_Hp → Option (Int × p_Hp)) : PLw b n9 t9 k18 v3 (
      p_gd ((0 : Int) ≤ (p_w ((v3 : Int) + 1)) ∧ (p_w ((v3 : Int) + 1)) < (n9 : Int)) <|
      p_gd ((0 : Int) ≤ (p_w ((v3 : Int) + 2)) ∧ (p_w ((v3 : Int) + 2)) < (n9 : Int)) <|
      p_gd ((0 : Int) ≤ (p_w ((v3 : Int) + 3)) ∧ (p_w ((v3 : Int) + 3)) < (n9 : Int)) <|
      p_gd (p_is (h_H c m) 1 10) <|
      p_bd (F_SW_group 1 (t9 ((p_w ((v3 : Int) + 1)) : Int).toNat) (t9 ((p_w ((v3 : Int) + 2)) : Int).toNat) (t9 ((p_w ((v3 : Int) + 3)) : Int).toNat) (h_H c m)) fun r348 s344 =>
      p_gd ((0 : Int) ≤ (p_w ((v3 : Int) + 1)) ∧ (p_w ((v3 : Int) + 1)) < (n9 : Int)) <|
      p_gd ((0 : Int) ≤ (p_w ((v3 : Int) + 2)) ∧ (p_w ((v3 : Int) + 2)) < (n9 : Int)) <|
      p_gd ((0 : Int) ≤ (p_w ((v3 : Int) + 3)) ∧ (p_w ((v3 : Int) + 3)) < (n9 : Int)) <|
      p_gd (p_is s344 1125 11) <|
      p_bd (F_Mo_group 1125 (t9 ((p_w ((v3 : Int) + 1)) : Int).toNat) (t9 ((p_w ((v3 : Int) + 2)) : Int).toNat) (t9 ((p_w ((v3 : Int) + 3)) : Int).toNat) s344) fun r357 s353 =>
      if r348 = r357 then
        B_La_law_1701 n9 t9 k18 1 1125 (v3 : Int) s353
      else
        some (0, s353)) := by
  obtain ⟨r, c', m', x1, x2, x3, x4⟩ := pr_group h hE (t9 (p_w ((v3 : Int) + 1)).toNat) (t9 (p_w ((v3 : Int) + 2)).toNat) (t9 (p_w ((v3 : Int) + 3)).toNat)
  refine ⟨c', m', ?_, x3.more (by omega), x4⟩
  rw [gd1 (hg 1 (by omega)), gd1 (hg 2 (by omega)), gd1 (hg 3 (by omega)), gd1 (isS c m), u_SW_group m _ _ _ c _ x1, pbd1, gd1 (hg 1 (by omega)), gd1 (hg 2 (by omega)), gd1 (hg 3 (by omega)), gd1 (isM c' m), u_Mo_group c' _ _ _ m _ x2, pbd1, if_pos rfl]
theorem la_21 {b : Nat} (hb : b < 400000000) {c : h_C} {m : h_M} (h : RR b c m) (hE : c 607 0 0 = m 102 0) {n9 : Nat} {t9 : Nat → Int} (ht : ∀ i, -2147483648 ≤ t9 i ∧ t9 i < 2147483648) {v3 : Nat} (hg : ∀ k : Int, (k = 1 ∨ k = 2 ∨ k = 3 ∨ k = 4 ∨ k = 5) → (0 : Int) ≤ p_w ((v3 : Int) + k) ∧ p_w ((v3 : Int) + k) < (n9 : Int)) (k18 : Nat → Nat → Int → p_Hp → Option (Int × p_Hp)) : PLw b n9 t9 k18 v3 (
      p_gd ((0 : Int) ≤ (p_w ((v3 : Int) + 1)) ∧ (p_w ((v3 : Int) + 1)) < (n9 : Int)) <|
      p_gd ((0 : Int) ≤ (p_w ((v3 : Int) + 2)) ∧ (p_w ((v3 : Int) + 2)) < (n9 : Int)) <|
      p_gd ((0 : Int) ≤ (p_w ((v3 : Int) + 3)) ∧ (p_w ((v3 : Int) + 3)) < (n9 : Int)) <|
      p_gd (p_is (h_H c m) 1 10) <|
      p_bd (F_SW_enter 1 (t9 ((p_w ((v3 : Int) + 1)) : Int).toNat) (t9 ((p_w ((v3 : Int) + 2)) : Int).toNat) (t9 ((p_w ((v3 : Int) + 3)) : Int).toNat) (h_H c m)) fun r368 s364 =>
      p_gd ((0 : Int) ≤ (p_w ((v3 : Int) + 1)) ∧ (p_w ((v3 : Int) + 1)) < (n9 : Int)) <|
      p_gd ((0 : Int) ≤ (p_w ((v3 : Int) + 2)) ∧ (p_w ((v3 : Int) + 2)) < (n9 : Int)) <|
      p_gd ((0 : Int) ≤ (p_w ((v3 : Int) + 3)) ∧ (p_w ((v3 : Int) + 3)) < (n9 : Int)) <|
      p_gd (p_is s364 1125 11) <|
      p_bd (F_Mo_enter 1125 (t9 ((p_w ((v3 : Int) + 1)) : Int).toNat) (t9 ((p_w ((v3 : Int) + 2)) : Int).toNat) (t9 ((p_w ((v3 : Int) + 3)) : Int).toNat) s364) fun r377 s373 =>
      if r368 = r377 then
        B_La_law_1701 n9 t9 k18 1 1125 (v3 : Int) s373
      else
        some (0, s373)) := by
  obtain ⟨r, c', m', x1, x2, x3, x4⟩ := pr_enter h hE (t9 (p_w ((v3 : Int) + 1)).toNat) (t9 (p_w ((v3 : Int) + 2)).toNat) (t9 (p_w ((v3 : Int) + 3)).toNat)
  refine ⟨c', m', ?_, x3.more (by omega), x4⟩
  rw [gd1 (hg 1 (by omega)), gd1 (hg 2 (by omega)), gd1 (hg 3 (by omega)), gd1 (isS c m), u_SW_enter m _ _ _ c _ x1, pbd1, gd1 (hg 1 (by omega)), gd1 (hg 2 (by omega)), gd1 (hg 3 (by omega)), gd1 (isM c' m), u_Mo_enter c' _ _ _ m _ x2, pbd1, if_pos rfl]
theorem la_22 {b : Nat} (hb : b < 400000000) {c : h_C} {m : h_M} (h : RR b c m) (hE : c 607 0 0 = m 102 0) {n9 : Nat} {t9 : Nat → Int} (ht : ∀ i, -2147483648 ≤ t9 i ∧ t9 i < 2147483648) {v3 : Nat} (hg : ∀ k : Int, (k = 1 ∨ k = 2 ∨ k = 3 ∨ k = 4 ∨ k = 5) → (0 : Int) ≤ p_w ((v3 : Int) + k) ∧ p_w ((v3 : Int) + k) < (n9 : Int)) (k18 : Nat → Nat → Int → p_Hp → Option (Int × p_Hp)) : PLw b n9 t9 k18 v3 (
      p_gd ((0 : Int) ≤ (p_w ((v3 : Int) + 1)) ∧ (p_w ((v3 : Int) + 1)) < (n9 : Int)) <|
      p_gd ((0 : Int) ≤ (p_w ((v3 : Int) + 2)) ∧ (p_w ((v3 : Int) + 2)) < (n9 : Int)) <|
      p_gd (p_is (h_H c m) 1 10) <|
      p_bd (F_SW_tally 1 (t9 ((p_w ((v3 : Int) + 1)) : Int).toNat) (t9 ((p_w ((v3 : Int) + 2)) : Int).toNat) (h_H c m)) fun r387 s383 =>
      p_gd ((0 : Int) ≤ (p_w ((v3 : Int) + 1)) ∧ (p_w ((v3 : Int) + 1)) < (n9 : Int)) <|
      p_gd ((0 : Int) ≤ (p_w ((v3 : Int) + 2)) ∧ (p_w ((v3 : Int) + 2)) < (n9 : Int)) <|
      p_gd (p_is s383 1125 11) <|
      p_bd (F_Mo_tally 1125 (t9 ((p_w ((v3 : Int) + 1)) : Int).toNat) (t9 ((p_w ((v3 : Int) + 2)) : Int).toNat) s383) fun r395 s391 =>
      if r387 = r395 then
        B_La_law_1701 n9 t9 k18 1 1125 (v3 : Int) s391
      else
        some (0, s391)) := by
  obtain ⟨r, c', m', x1, x2, x3, x4⟩ := pr_tally h hE (t9 (p_w ((v3 : Int) + 1)).toNat) (t9 (p_w ((v3 : Int) + 2)).toNat)
  refine ⟨c', m', ?_, x3.more (by omega), x4⟩
  rw [gd1 (hg 1 (by omega)), gd1 (hg 2 (by omega)), gd1 (isS c m), u_SW_tally m _ _ c _ x1, pbd1, gd1 (hg 1 (by omega)), gd1 (hg 2 (by omega)), gd1 (isM c' m), u_Mo_tally c' _ _ m _ x2, pbd1, if_pos rfl]
theorem la_23 {b : Nat} (hb : b < 400000000) {c : h_C} {m : h_M} (h : RR b c m) (hE : c 607 0 0 = m 102 0) {n9 : Nat} {t9 : Nat → Int} (ht : ∀ i, -2147483648 ≤ t9 i ∧ t9 i < 2147483648) {v3 : Nat} (hg : ∀ k : Int, (k = 1 ∨ k = 2 ∨ k = 3 ∨ k = 4 ∨ k = 5) → (0 : Int) ≤ p_w ((v3 : Int) + k) ∧ p_w ((v3 : Int) + k) < (n9 : Int)) (k18 : Nat → Nat → Int → p_Hp → Option (Int × p_Hp)) : PLw b n9 t9 k18 v3 (
      p_gd (p_is (h_H c m) 1 10) <|
      p_bd (F_SW_step 1 (h_H c m)) fun r403 s399 =>
      p_gd (p_is s399 1125 11) <|
      p_bd (F_Mo_step 1125 s399) fun r409 s405 =>
      if r403 = r409 then
        B_La_law_1701 n9 t9 k18 1 1125 (v3 : Int) s405
      else
        some (0, s405)) := by
  obtain ⟨r, c', m', x1, x2, x3, x4⟩ := pr_step (by omega) h hE 
  refine ⟨c', m', ?_, x3.more (by omega), x4⟩
  rw [gd1 (isS c m), u_SW_step m  c _ x1, pbd1, gd1 (isM c' m), u_Mo_step c'  m _ x2, pbd1, if_pos rfl]
theorem la_24 {b : Nat} (hb : b < 400000000) {c : h_C} {m : h_M} (h : RR b c m) (hE : c 607 0 0 = m 102 0) {n9 : Nat} {t9 : Nat → Int} (ht : ∀ i, -2147483648 ≤ t9 i ∧ t9 i < 2147483648) {v3 : Nat} (hg : ∀ k : Int, (k = 1 ∨ k = 2 ∨ k = 3 ∨ k = 4 ∨ k = 5) → (0 : Int) ≤ p_w ((v3 : Int) + k) ∧ p_w ((v3 : Int) + k) < (n9 : Int)) (k18 : Nat → Nat → Int → p_Hp → Option (Int × p_Hp)) : PLw b n9 t9 k18 v3 (
      p_gd ((0 : Int) ≤ (p_w ((v3 : Int) + 1)) ∧ (p_w ((v3 : Int) + 1)) < (n9 : Int)) <|
      p_gd ((0 : Int) ≤ (p_w ((v3 : Int) + 2)) ∧ (p_w ((v3 : Int) + 2)) < (n9 : Int)) <|
      p_gd (p_is (h_H c m) 1 10) <|
      p_bd (F_SW_night 1 (t9 ((p_w ((v3 : Int) + 1)) : Int).toNat) (t9 ((p_w ((v3 : Int) + 2)) : Int).toNat) (h_H c m)) fun r419 s415 =>
      p_gd ((0 : Int) ≤ (p_w ((v3 : Int) + 1)) ∧ (p_w ((v3 : Int) + 1)) < (n9 : Int)) <|
      p_gd ((0 : Int) ≤ (p_w ((v3 : Int) + 2)) ∧ (p_w ((v3 : Int) + 2)) < (n9 : Int)) <|
      p_gd (p_is s415 1125 11) <|
      p_bd (F_Mo_night 1125 (t9 ((p_w ((v3 : Int) + 1)) : Int).toNat) (t9 ((p_w ((v3 : Int) + 2)) : Int).toNat) s415) fun r427 s423 =>
      if r419 = r427 then
        B_La_law_1701 n9 t9 k18 1 1125 (v3 : Int) s423
      else
        some (0, s423)) := by
  obtain ⟨r, c', m', x1, x2, x3, x4⟩ := pr_night (by omega) h hE (t9 (p_w ((v3 : Int) + 1)).toNat) (t9 (p_w ((v3 : Int) + 2)).toNat)
  refine ⟨c', m', ?_, x3.more (by omega), x4⟩
  rw [gd1 (hg 1 (by omega)), gd1 (hg 2 (by omega)), gd1 (isS c m), u_SW_night m _ _ c _ x1, pbd1, gd1 (hg 1 (by omega)), gd1 (hg 2 (by omega)), gd1 (isM c' m), u_Mo_night c' _ _ m _ x2, pbd1, if_pos rfl]
theorem la_25 {b : Nat} (hb : b < 400000000) {c : h_C} {m : h_M} (h : RR b c m) (hE : c 607 0 0 = m 102 0) {n9 : Nat} {t9 : Nat → Int} (ht : ∀ i, -2147483648 ≤ t9 i ∧ t9 i < 2147483648) {v3 : Nat} (hg : ∀ k : Int, (k = 1 ∨ k = 2 ∨ k = 3 ∨ k = 4 ∨ k = 5) → (0 : Int) ≤ p_w ((v3 : Int) + k) ∧ p_w ((v3 : Int) + k) < (n9 : Int)) (k18 : Nat → Nat → Int → p_Hp → Option (Int × p_Hp)) : PLw b n9 t9 k18 v3 (
      p_gd ((0 : Int) ≤ (p_w ((v3 : Int) + 1)) ∧ (p_w ((v3 : Int) + 1)) < (n9 : Int)) <|
      p_gd (p_is (h_H c m) 1 10) <|
      p_bd (F_SW_back 1 (t9 ((p_w ((v3 : Int) + 1)) : Int).toNat) (h_H c m)) fun r436 s432 =>
      p_gd ((0 : Int) ≤ (p_w ((v3 : Int) + 1)) ∧ (p_w ((v3 : Int) + 1)) < (n9 : Int)) <|
      p_gd (p_is s432 1125 11) <|
      p_bd (F_Mo_back 1125 (t9 ((p_w ((v3 : Int) + 1)) : Int).toNat) s432) fun r443 s439 =>
      if r436 = r443 then
        B_La_law_1701 n9 t9 k18 1 1125 (v3 : Int) s439
      else
        some (0, s439)) := by
  obtain ⟨r, c', m', x1, x2, x3, x4⟩ := pr_back h hE (t9 (p_w ((v3 : Int) + 1)).toNat)
  refine ⟨c', m', ?_, x3.more (by omega), x4⟩
  rw [gd1 (hg 1 (by omega)), gd1 (isS c m), u_SW_back m _ c _ x1, pbd1, gd1 (hg 1 (by omega)), gd1 (isM c' m), u_Mo_back c' _ m _ x2, pbd1, if_pos rfl]
theorem la_26 {b : Nat} (hb : b < 400000000) {c : h_C} {m : h_M} (h : RR b c m) (hE : c 607 0 0 = m 102 0) {n9 : Nat} {t9 : Nat → Int} (ht : ∀ i, -2147483648 ≤ t9 i ∧ t9 i < 2147483648) {v3 : Nat} (hg : ∀ k : Int, (k = 1 ∨ k = 2 ∨ k = 3 ∨ k = 4 ∨ k = 5) → (0 : Int) ≤ p_w ((v3 : Int) + k) ∧ p_w ((v3 : Int) + k) < (n9 : Int)) (k18 : Nat → Nat → Int → p_Hp → Option (Int × p_Hp)) : PLw b n9 t9 k18 v3 (
      p_gd (p_is (h_H c m) 1 10) <|
      p_bd (F_SW_status 1 (h_H c m)) fun r451 s447 =>
      p_gd (p_is s447 1125 11) <|
      p_bd (F_Mo_status 1125 s447) fun r457 s453 =>
      if r451 = r457 then
        B_La_law_1701 n9 t9 k18 1 1125 (v3 : Int) s453
      else
        some (0, s453)) := by
  obtain ⟨r, x1, x2⟩ := pr_status h 
  refine ⟨c, m, ?_, h.more (by omega), hE⟩
  rw [gd1 (isS c m), u_SW_status m  c _ x1, pbd1, gd1 (isM c m), u_Mo_status c  m _ x2, pbd1, if_pos rfl]
theorem la_27 {b : Nat} (hb : b < 400000000) {c : h_C} {m : h_M} (h : RR b c m) (hE : c 607 0 0 = m 102 0) {n9 : Nat} {t9 : Nat → Int} (ht : ∀ i, -2147483648 ≤ t9 i ∧ t9 i < 2147483648) {v3 : Nat} (hg : ∀ k : Int, (k = 1 ∨ k = 2 ∨ k = 3 ∨ k = 4 ∨ k = 5) → (0 : Int) ≤ p_w ((v3 : Int) + k) ∧ p_w ((v3 : Int) + k) < (n9 : Int)) (k18 : Nat → Nat → Int → p_Hp → Option (Int × p_Hp)) : PLw b n9 t9 k18 v3 (
      p_gd ((0 : Int) ≤ (p_w ((v3 : Int) + 1)) ∧ (p_w ((v3 : Int) + 1)) < (n9 : Int)) <|
      p_gd ((0 : Int) ≤ (p_w ((v3 : Int) + 2)) ∧ (p_w ((v3 : Int) + 2)) < (n9 : Int)) <|
      p_gd (p_is (h_H c m) 1 10) <|
      p_bd (F_SW_told 1 (t9 ((p_w ((v3 : Int) + 1)) : Int).toNat) (t9 ((p_w ((v3 : Int) + 2)) : Int).toNat) (h_H c m)) fun r467 s463 =>
      p_gd ((0 : Int) ≤ (p_w ((v3 : Int) + 1)) ∧ (p_w ((v3 : Int) + 1)) < (n9 : Int)) <|
      p_gd ((0 : Int) ≤ (p_w ((v3 : Int) + 2)) ∧ (p_w ((v3 : Int) + 2)) < (n9 : Int)) <|
      p_gd (p_is s463 1125 11) <|
      p_bd (F_Mo_told 1125 (t9 ((p_w ((v3 : Int) + 1)) : Int).toNat) (t9 ((p_w ((v3 : Int) + 2)) : Int).toNat) s463) fun r475 s471 =>
      if r467 = r475 then
        B_La_law_1701 n9 t9 k18 1 1125 (v3 : Int) s471
      else
        some (0, s471)) := by
  obtain ⟨r, x1, x2⟩ := pr_told h (t9 (p_w ((v3 : Int) + 1)).toNat) (t9 (p_w ((v3 : Int) + 2)).toNat)
  refine ⟨c, m, ?_, h.more (by omega), hE⟩
  rw [gd1 (hg 1 (by omega)), gd1 (hg 2 (by omega)), gd1 (isS c m), u_SW_told m _ _ c _ x1, pbd1, gd1 (hg 1 (by omega)), gd1 (hg 2 (by omega)), gd1 (isM c m), u_Mo_told c _ _ m _ x2, pbd1, if_pos rfl]
theorem la_28 {b : Nat} (hb : b < 400000000) {c : h_C} {m : h_M} (h : RR b c m) (hE : c 607 0 0 = m 102 0) {n9 : Nat} {t9 : Nat → Int} (ht : ∀ i, -2147483648 ≤ t9 i ∧ t9 i < 2147483648) {v3 : Nat} (hg : ∀ k : Int, (k = 1 ∨ k = 2 ∨ k = 3 ∨ k = 4 ∨ k = 5) → (0 : Int) ≤ p_w ((v3 : Int) + k) ∧ p_w ((v3 : Int) + k) < (n9 : Int)) (k18 : Nat → Nat → Int → p_Hp → Option (Int × p_Hp)) : PLw b n9 t9 k18 v3 (
      p_gd ((0 : Int) ≤ (p_w ((v3 : Int) + 1)) ∧ (p_w ((v3 : Int) + 1)) < (n9 : Int)) <|
      p_gd ((0 : Int) ≤ (p_w ((v3 : Int) + 2)) ∧ (p_w ((v3 : Int) + 2)) < (n9 : Int)) <|
      p_gd (p_is (h_H c m) 1 10) <|
      p_bd (F_SW_slot 1 (t9 ((p_w ((v3 : Int) + 1)) : Int).toNat) (t9 ((p_w ((v3 : Int) + 2)) : Int).toNat) (h_H c m)) fun r485 s481 =>
      p_gd ((0 : Int) ≤ (p_w ((v3 : Int) + 1)) ∧ (p_w ((v3 : Int) + 1)) < (n9 : Int)) <|
      p_gd ((0 : Int) ≤ (p_w ((v3 : Int) + 2)) ∧ (p_w ((v3 : Int) + 2)) < (n9 : Int)) <|
      p_gd (p_is s481 1125 11) <|
      p_bd (F_Mo_slot 1125 (t9 ((p_w ((v3 : Int) + 1)) : Int).toNat) (t9 ((p_w ((v3 : Int) + 2)) : Int).toNat) s481) fun r493 s489 =>
      if r485 = r493 then
        B_La_law_1701 n9 t9 k18 1 1125 (v3 : Int) s489
      else
        some (0, s489)) := by
  obtain ⟨r, x1, x2⟩ := pr_slot h (t9 (p_w ((v3 : Int) + 1)).toNat) (t9 (p_w ((v3 : Int) + 2)).toNat)
  refine ⟨c, m, ?_, h.more (by omega), hE⟩
  rw [gd1 (hg 1 (by omega)), gd1 (hg 2 (by omega)), gd1 (isS c m), u_SW_slot m _ _ c _ x1, pbd1, gd1 (hg 1 (by omega)), gd1 (hg 2 (by omega)), gd1 (isM c m), u_Mo_slot c _ _ m _ x2, pbd1, if_pos rfl]
theorem la_29 {b : Nat} (hb : b < 400000000) {c : h_C} {m : h_M} (h : RR b c m) (hE : c 607 0 0 = m 102 0) {n9 : Nat} {t9 : Nat → Int} (ht : ∀ i, -2147483648 ≤ t9 i ∧ t9 i < 2147483648) {v3 : Nat} (hg : ∀ k : Int, (k = 1 ∨ k = 2 ∨ k = 3 ∨ k = 4 ∨ k = 5) → (0 : Int) ≤ p_w ((v3 : Int) + k) ∧ p_w ((v3 : Int) + k) < (n9 : Int)) (k18 : Nat → Nat → Int → p_Hp → Option (Int × p_Hp)) : PLw b n9 t9 k18 v3 (
      p_gd ((0 : Int) ≤ (p_w ((v3 : Int) + 1)) ∧ (p_w ((v3 : Int) + 1)) < (n9 : Int)) <|
      p_gd ((0 : Int) ≤ (p_w ((v3 : Int) + 2)) ∧ (p_w ((v3 : Int) + 2)) < (n9 : Int)) <|
      p_gd (p_is (h_H c m) 1 10) <|
      p_bd (F_SW_linkOf 1 (t9 ((p_w ((v3 : Int) + 1)) : Int).toNat) (t9 ((p_w ((v3 : Int) + 2)) : Int).toNat) (h_H c m)) fun r503 s499 =>
      p_gd ((0 : Int) ≤ (p_w ((v3 : Int) + 1)) ∧ (p_w ((v3 : Int) + 1)) < (n9 : Int)) <|
      p_gd ((0 : Int) ≤ (p_w ((v3 : Int) + 2)) ∧ (p_w ((v3 : Int) + 2)) < (n9 : Int)) <|
      p_gd (p_is s499 1125 11) <|
      p_bd (F_Mo_linkOf 1125 (t9 ((p_w ((v3 : Int) + 1)) : Int).toNat) (t9 ((p_w ((v3 : Int) + 2)) : Int).toNat) s499) fun r511 s507 =>
      if r503 = r511 then
        B_La_law_1701 n9 t9 k18 1 1125 (v3 : Int) s507
      else
        some (0, s507)) := by
  obtain ⟨r, x1, x2⟩ := pr_linkOf h (t9 (p_w ((v3 : Int) + 1)).toNat) (t9 (p_w ((v3 : Int) + 2)).toNat)
  refine ⟨c, m, ?_, h.more (by omega), hE⟩
  rw [gd1 (hg 1 (by omega)), gd1 (hg 2 (by omega)), gd1 (isS c m), u_SW_linkOf m _ _ c _ x1, pbd1, gd1 (hg 1 (by omega)), gd1 (hg 2 (by omega)), gd1 (isM c m), u_Mo_linkOf c _ _ m _ x2, pbd1, if_pos rfl]
theorem la_30 {b : Nat} (hb : b < 400000000) {c : h_C} {m : h_M} (h : RR b c m) (hE : c 607 0 0 = m 102 0) {n9 : Nat} {t9 : Nat → Int} (ht : ∀ i, -2147483648 ≤ t9 i ∧ t9 i < 2147483648) {v3 : Nat} (hg : ∀ k : Int, (k = 1 ∨ k = 2 ∨ k = 3 ∨ k = 4 ∨ k = 5) → (0 : Int) ≤ p_w ((v3 : Int) + k) ∧ p_w ((v3 : Int) + k) < (n9 : Int)) (k18 : Nat → Nat → Int → p_Hp → Option (Int × p_Hp)) : PLw b n9 t9 k18 v3 (
      p_gd ((0 : Int) ≤ (p_w ((v3 : Int) + 1)) ∧ (p_w ((v3 : Int) + 1)) < (n9 : Int)) <|
      p_gd ((0 : Int) ≤ (p_w ((v3 : Int) + 2)) ∧ (p_w ((v3 : Int) + 2)) < (n9 : Int)) <|
      p_gd (p_is (h_H c m) 1 10) <|
      p_bd (F_SW_parcel 1 (t9 ((p_w ((v3 : Int) + 1)) : Int).toNat) (t9 ((p_w ((v3 : Int) + 2)) : Int).toNat) (h_H c m)) fun r521 s517 =>
      p_gd ((0 : Int) ≤ (p_w ((v3 : Int) + 1)) ∧ (p_w ((v3 : Int) + 1)) < (n9 : Int)) <|
      p_gd ((0 : Int) ≤ (p_w ((v3 : Int) + 2)) ∧ (p_w ((v3 : Int) + 2)) < (n9 : Int)) <|
      p_gd (p_is s517 1125 11) <|
      p_bd (F_Mo_parcel 1125 (t9 ((p_w ((v3 : Int) + 1)) : Int).toNat) (t9 ((p_w ((v3 : Int) + 2)) : Int).toNat) s517) fun r529 s525 =>
      if r521 = r529 then
        B_La_law_1701 n9 t9 k18 1 1125 (v3 : Int) s525
      else
        some (0, s525)) := by
  obtain ⟨r, x1, x2⟩ := pr_parcel h (t9 (p_w ((v3 : Int) + 1)).toNat) (t9 (p_w ((v3 : Int) + 2)).toNat)
  refine ⟨c, m, ?_, h.more (by omega), hE⟩
  rw [gd1 (hg 1 (by omega)), gd1 (hg 2 (by omega)), gd1 (isS c m), u_SW_parcel m _ _ c _ x1, pbd1, gd1 (hg 1 (by omega)), gd1 (hg 2 (by omega)), gd1 (isM c m), u_Mo_parcel c _ _ m _ x2, pbd1, if_pos rfl]
theorem la_31 {b : Nat} (hb : b < 400000000) {c : h_C} {m : h_M} (h : RR b c m) (hE : c 607 0 0 = m 102 0) {n9 : Nat} {t9 : Nat → Int} (ht : ∀ i, -2147483648 ≤ t9 i ∧ t9 i < 2147483648) {v3 : Nat} (hg : ∀ k : Int, (k = 1 ∨ k = 2 ∨ k = 3 ∨ k = 4 ∨ k = 5) → (0 : Int) ≤ p_w ((v3 : Int) + k) ∧ p_w ((v3 : Int) + k) < (n9 : Int)) (k18 : Nat → Nat → Int → p_Hp → Option (Int × p_Hp)) : PLw b n9 t9 k18 v3 (
      p_gd ((0 : Int) ≤ (p_w ((v3 : Int) + 1)) ∧ (p_w ((v3 : Int) + 1)) < (n9 : Int)) <|
      p_gd ((0 : Int) ≤ (p_w ((v3 : Int) + 2)) ∧ (p_w ((v3 : Int) + 2)) < (n9 : Int)) <|
      p_gd (p_is (h_H c m) 1 10) <|
      p_bd (F_SW_way 1 (t9 ((p_w ((v3 : Int) + 1)) : Int).toNat) (t9 ((p_w ((v3 : Int) + 2)) : Int).toNat) (h_H c m)) fun r539 s535 =>
      p_gd ((0 : Int) ≤ (p_w ((v3 : Int) + 1)) ∧ (p_w ((v3 : Int) + 1)) < (n9 : Int)) <|
      p_gd ((0 : Int) ≤ (p_w ((v3 : Int) + 2)) ∧ (p_w ((v3 : Int) + 2)) < (n9 : Int)) <|
      p_gd (p_is s535 1125 11) <|
      p_bd (F_Mo_way 1125 (t9 ((p_w ((v3 : Int) + 1)) : Int).toNat) (t9 ((p_w ((v3 : Int) + 2)) : Int).toNat) s535) fun r547 s543 =>
      if r539 = r547 then
        B_La_law_1701 n9 t9 k18 1 1125 (v3 : Int) s543
      else
        some (0, s543)) := by
  obtain ⟨r, x1, x2⟩ := pr_way h (t9 (p_w ((v3 : Int) + 1)).toNat) (t9 (p_w ((v3 : Int) + 2)).toNat)
  refine ⟨c, m, ?_, h.more (by omega), hE⟩
  rw [gd1 (hg 1 (by omega)), gd1 (hg 2 (by omega)), gd1 (isS c m), u_SW_way m _ _ c _ x1, pbd1, gd1 (hg 1 (by omega)), gd1 (hg 2 (by omega)), gd1 (isM c m), u_Mo_way c _ _ m _ x2, pbd1, if_pos rfl]
theorem la_32 {b : Nat} (hb : b < 400000000) {c : h_C} {m : h_M} (h : RR b c m) (hE : c 607 0 0 = m 102 0) {n9 : Nat} {t9 : Nat → Int} (ht : ∀ i, -2147483648 ≤ t9 i ∧ t9 i < 2147483648) {v3 : Nat} (hg : ∀ k : Int, (k = 1 ∨ k = 2 ∨ k = 3 ∨ k = 4 ∨ k = 5) → (0 : Int) ≤ p_w ((v3 : Int) + k) ∧ p_w ((v3 : Int) + k) < (n9 : Int)) (k18 : Nat → Nat → Int → p_Hp → Option (Int × p_Hp)) : PLw b n9 t9 k18 v3 (
      p_gd ((0 : Int) ≤ (p_w ((v3 : Int) + 1)) ∧ (p_w ((v3 : Int) + 1)) < (n9 : Int)) <|
      p_gd ((0 : Int) ≤ (p_w ((v3 : Int) + 2)) ∧ (p_w ((v3 : Int) + 2)) < (n9 : Int)) <|
      p_gd (p_is (h_H c m) 1 10) <|
      p_bd (F_SW_byteOf 1 (t9 ((p_w ((v3 : Int) + 1)) : Int).toNat) (t9 ((p_w ((v3 : Int) + 2)) : Int).toNat) (h_H c m)) fun r557 s553 =>
      p_gd ((0 : Int) ≤ (p_w ((v3 : Int) + 1)) ∧ (p_w ((v3 : Int) + 1)) < (n9 : Int)) <|
      p_gd ((0 : Int) ≤ (p_w ((v3 : Int) + 2)) ∧ (p_w ((v3 : Int) + 2)) < (n9 : Int)) <|
      p_gd (p_is s553 1125 11) <|
      p_bd (F_Mo_byteOf 1125 (t9 ((p_w ((v3 : Int) + 1)) : Int).toNat) (t9 ((p_w ((v3 : Int) + 2)) : Int).toNat) s553) fun r565 s561 =>
      if r557 = r565 then
        B_La_law_1701 n9 t9 k18 1 1125 (v3 : Int) s561
      else
        some (0, s561)) := by
  obtain ⟨r, x1, x2⟩ := pr_byteOf h (t9 (p_w ((v3 : Int) + 1)).toNat) (t9 (p_w ((v3 : Int) + 2)).toNat)
  refine ⟨c, m, ?_, h.more (by omega), hE⟩
  rw [gd1 (hg 1 (by omega)), gd1 (hg 2 (by omega)), gd1 (isS c m), u_SW_byteOf m _ _ c _ x1, pbd1, gd1 (hg 1 (by omega)), gd1 (hg 2 (by omega)), gd1 (isM c m), u_Mo_byteOf c _ _ m _ x2, pbd1, if_pos rfl]
theorem la_33 {b : Nat} (hb : b < 400000000) {c : h_C} {m : h_M} (h : RR b c m) (hE : c 607 0 0 = m 102 0) {n9 : Nat} {t9 : Nat → Int} (ht : ∀ i, -2147483648 ≤ t9 i ∧ t9 i < 2147483648) {v3 : Nat} (hg : ∀ k : Int, (k = 1 ∨ k = 2 ∨ k = 3 ∨ k = 4 ∨ k = 5) → (0 : Int) ≤ p_w ((v3 : Int) + k) ∧ p_w ((v3 : Int) + k) < (n9 : Int)) (k18 : Nat → Nat → Int → p_Hp → Option (Int × p_Hp)) : PLw b n9 t9 k18 v3 (
      p_gd ((0 : Int) ≤ (p_w ((v3 : Int) + 1)) ∧ (p_w ((v3 : Int) + 1)) < (n9 : Int)) <|
      p_gd (p_is (h_H c m) 1 10) <|
      p_bd (F_SW_left 1 (t9 ((p_w ((v3 : Int) + 1)) : Int).toNat) (h_H c m)) fun r574 s570 =>
      p_gd ((0 : Int) ≤ (p_w ((v3 : Int) + 1)) ∧ (p_w ((v3 : Int) + 1)) < (n9 : Int)) <|
      p_gd (p_is s570 1125 11) <|
      p_bd (F_Mo_left 1125 (t9 ((p_w ((v3 : Int) + 1)) : Int).toNat) s570) fun r581 s577 =>
      if r574 = r581 then
        B_La_law_1701 n9 t9 k18 1 1125 (v3 : Int) s577
      else
        some (0, s577)) := by
  obtain ⟨r, x1, x2⟩ := pr_left h (t9 (p_w ((v3 : Int) + 1)).toNat)
  refine ⟨c, m, ?_, h.more (by omega), hE⟩
  rw [gd1 (hg 1 (by omega)), gd1 (isS c m), u_SW_left m _ c _ x1, pbd1, gd1 (hg 1 (by omega)), gd1 (isM c m), u_Mo_left c _ m _ x2, pbd1, if_pos rfl]
theorem la_34 {b : Nat} (hb : b < 400000000) {c : h_C} {m : h_M} (h : RR b c m) (hE : c 607 0 0 = m 102 0) {n9 : Nat} {t9 : Nat → Int} (ht : ∀ i, -2147483648 ≤ t9 i ∧ t9 i < 2147483648) {v3 : Nat} (hg : ∀ k : Int, (k = 1 ∨ k = 2 ∨ k = 3 ∨ k = 4 ∨ k = 5) → (0 : Int) ≤ p_w ((v3 : Int) + k) ∧ p_w ((v3 : Int) + k) < (n9 : Int)) (k18 : Nat → Nat → Int → p_Hp → Option (Int × p_Hp)) : PLw b n9 t9 k18 v3 (
      p_gd ((0 : Int) ≤ (p_w ((v3 : Int) + 1)) ∧ (p_w ((v3 : Int) + 1)) < (n9 : Int)) <|
      p_gd ((0 : Int) ≤ (p_w ((v3 : Int) + 2)) ∧ (p_w ((v3 : Int) + 2)) < (n9 : Int)) <|
      p_gd (p_is (h_H c m) 1 10) <|
      p_bd (F_SW_out 1 (t9 ((p_w ((v3 : Int) + 1)) : Int).toNat) (t9 ((p_w ((v3 : Int) + 2)) : Int).toNat) (h_H c m)) fun r591 s587 =>
      p_gd ((0 : Int) ≤ (p_w ((v3 : Int) + 1)) ∧ (p_w ((v3 : Int) + 1)) < (n9 : Int)) <|
      p_gd ((0 : Int) ≤ (p_w ((v3 : Int) + 2)) ∧ (p_w ((v3 : Int) + 2)) < (n9 : Int)) <|
      p_gd (p_is s587 1125 11) <|
      p_bd (F_Mo_out 1125 (t9 ((p_w ((v3 : Int) + 1)) : Int).toNat) (t9 ((p_w ((v3 : Int) + 2)) : Int).toNat) s587) fun r599 s595 =>
      if r591 = r599 then
        B_La_law_1701 n9 t9 k18 1 1125 (v3 : Int) s595
      else
        some (0, s595)) := by
  obtain ⟨r, x1, x2⟩ := pr_out (by omega) h (t9 (p_w ((v3 : Int) + 1)).toNat) (t9 (p_w ((v3 : Int) + 2)).toNat)
  refine ⟨c, m, ?_, h.more (by omega), hE⟩
  rw [gd1 (hg 1 (by omega)), gd1 (hg 2 (by omega)), gd1 (isS c m), u_SW_out m _ _ c _ x1, pbd1, gd1 (hg 1 (by omega)), gd1 (hg 2 (by omega)), gd1 (isM c m), u_Mo_out c _ _ m _ x2, pbd1, if_pos rfl]
theorem la_35 {b : Nat} (hb : b < 400000000) {c : h_C} {m : h_M} (h : RR b c m) (hE : c 607 0 0 = m 102 0) {n9 : Nat} {t9 : Nat → Int} (ht : ∀ i, -2147483648 ≤ t9 i ∧ t9 i < 2147483648) {v3 : Nat} (hg : ∀ k : Int, (k = 1 ∨ k = 2 ∨ k = 3 ∨ k = 4 ∨ k = 5) → (0 : Int) ≤ p_w ((v3 : Int) + k) ∧ p_w ((v3 : Int) + k) < (n9 : Int)) (k18 : Nat → Nat → Int → p_Hp → Option (Int × p_Hp)) : PLw b n9 t9 k18 v3 (
      p_gd ((0 : Int) ≤ (p_w ((v3 : Int) + 1)) ∧ (p_w ((v3 : Int) + 1)) < (n9 : Int)) <|
      p_gd ((0 : Int) ≤ (p_w ((v3 : Int) + 2)) ∧ (p_w ((v3 : Int) + 2)) < (n9 : Int)) <|
      p_gd (p_is (h_H c m) 1 10) <|
      p_bd (F_SW_rule 1 (t9 ((p_w ((v3 : Int) + 1)) : Int).toNat) (t9 ((p_w ((v3 : Int) + 2)) : Int).toNat) (h_H c m)) fun r609 s605 =>
      p_gd ((0 : Int) ≤ (p_w ((v3 : Int) + 1)) ∧ (p_w ((v3 : Int) + 1)) < (n9 : Int)) <|
      p_gd ((0 : Int) ≤ (p_w ((v3 : Int) + 2)) ∧ (p_w ((v3 : Int) + 2)) < (n9 : Int)) <|
      p_gd (p_is s605 1125 11) <|
      p_bd (F_Mo_rule_1 1125 (t9 ((p_w ((v3 : Int) + 1)) : Int).toNat) (t9 ((p_w ((v3 : Int) + 2)) : Int).toNat) s605) fun r617 s613 =>
      if r609 = r617 then
        B_La_law_1701 n9 t9 k18 1 1125 (v3 : Int) s613
      else
        some (0, s613)) := by
  obtain ⟨r, x1, x2⟩ := pr_rule h (t9 (p_w ((v3 : Int) + 1)).toNat) (t9 (p_w ((v3 : Int) + 2)).toNat)
  refine ⟨c, m, ?_, h.more (by omega), hE⟩
  rw [gd1 (hg 1 (by omega)), gd1 (hg 2 (by omega)), gd1 (isS c m), u_SW_rule m _ _ c _ x1, pbd1, gd1 (hg 1 (by omega)), gd1 (hg 2 (by omega)), gd1 (isM c m), u_Mo_rule_1 c _ _ m _ x2, pbd1, if_pos rfl]
theorem la_36 {b : Nat} (hb : b < 400000000) {c : h_C} {m : h_M} (h : RR b c m) (hE : c 607 0 0 = m 102 0) {n9 : Nat} {t9 : Nat → Int} (ht : ∀ i, -2147483648 ≤ t9 i ∧ t9 i < 2147483648) {v3 : Nat} (hg : ∀ k : Int, (k = 1 ∨ k = 2 ∨ k = 3 ∨ k = 4 ∨ k = 5) → (0 : Int) ≤ p_w ((v3 : Int) + k) ∧ p_w ((v3 : Int) + k) < (n9 : Int)) (k18 : Nat → Nat → Int → p_Hp → Option (Int × p_Hp)) : PLw b n9 t9 k18 v3 (
      p_gd ((0 : Int) ≤ (p_w ((v3 : Int) + 1)) ∧ (p_w ((v3 : Int) + 1)) < (n9 : Int)) <|
      p_gd (p_is (h_H c m) 1 10) <|
      p_bd (F_SW_said 1 (t9 ((p_w ((v3 : Int) + 1)) : Int).toNat) (h_H c m)) fun r626 s622 =>
      p_gd ((0 : Int) ≤ (p_w ((v3 : Int) + 1)) ∧ (p_w ((v3 : Int) + 1)) < (n9 : Int)) <|
      p_gd (p_is s622 1125 11) <|
      p_bd (F_Mo_said 1125 (t9 ((p_w ((v3 : Int) + 1)) : Int).toNat) s622) fun r633 s629 =>
      if r626 = r633 then
        B_La_law_1701 n9 t9 k18 1 1125 (v3 : Int) s629
      else
        some (0, s629)) := by
  obtain ⟨r, m', x1, x2, x3, x4⟩ := pr_said h (t9 (p_w ((v3 : Int) + 1)).toNat) (ht _).2
  refine ⟨c, m', ?_, x3.more (by omega), by rw [x4]; exact hE⟩
  rw [gd1 (hg 1 (by omega)), gd1 (isS c m), u_SW_said m _ c _ x1, pbd1, gd1 (hg 1 (by omega)), gd1 (isM c m), u_Mo_said c _ m _ x2, pbd1, if_pos rfl]
theorem la_37 {b : Nat} (hb : b < 400000000) {c : h_C} {m : h_M} (h : RR b c m) (hE : c 607 0 0 = m 102 0) {n9 : Nat} {t9 : Nat → Int} (ht : ∀ i, -2147483648 ≤ t9 i ∧ t9 i < 2147483648) {v3 : Nat} (hg : ∀ k : Int, (k = 1 ∨ k = 2 ∨ k = 3 ∨ k = 4 ∨ k = 5) → (0 : Int) ≤ p_w ((v3 : Int) + k) ∧ p_w ((v3 : Int) + k) < (n9 : Int)) (k18 : Nat → Nat → Int → p_Hp → Option (Int × p_Hp)) : PLw b n9 t9 k18 v3 (
      p_gd ((0 : Int) ≤ (p_w ((v3 : Int) + 1)) ∧ (p_w ((v3 : Int) + 1)) < (n9 : Int)) <|
      p_gd (p_is (h_H c m) 1 10) <|
      p_bd (F_SW_unused 1 (t9 ((p_w ((v3 : Int) + 1)) : Int).toNat) (h_H c m)) fun r642 s638 =>
      p_gd ((0 : Int) ≤ (p_w ((v3 : Int) + 1)) ∧ (p_w ((v3 : Int) + 1)) < (n9 : Int)) <|
      p_gd (p_is s638 1125 11) <|
      p_bd (F_Mo_unused 1125 (t9 ((p_w ((v3 : Int) + 1)) : Int).toNat) s638) fun r649 s645 =>
      if r642 = r649 then
        B_La_law_1701 n9 t9 k18 1 1125 (v3 : Int) s645
      else
        some (0, s645)) := by
  obtain ⟨r, x1, x2⟩ := pr_unused h (t9 (p_w ((v3 : Int) + 1)).toNat) (ht _)
  refine ⟨c, m, ?_, h.more (by omega), hE⟩
  rw [gd1 (hg 1 (by omega)), gd1 (isS c m), u_SW_unused m _ c _ x1, pbd1, gd1 (hg 1 (by omega)), gd1 (isM c m), u_Mo_unused c _ m _ x2, pbd1, if_pos rfl]
theorem la_38 {b : Nat} (hb : b < 400000000) {c : h_C} {m : h_M} (h : RR b c m) (hE : c 607 0 0 = m 102 0) {n9 : Nat} {t9 : Nat → Int} (ht : ∀ i, -2147483648 ≤ t9 i ∧ t9 i < 2147483648) {v3 : Nat} (hg : ∀ k : Int, (k = 1 ∨ k = 2 ∨ k = 3 ∨ k = 4 ∨ k = 5) → (0 : Int) ≤ p_w ((v3 : Int) + k) ∧ p_w ((v3 : Int) + k) < (n9 : Int)) (k18 : Nat → Nat → Int → p_Hp → Option (Int × p_Hp)) : PLw b n9 t9 k18 v3 (
      p_gd ((0 : Int) ≤ (p_w ((v3 : Int) + 1)) ∧ (p_w ((v3 : Int) + 1)) < (n9 : Int)) <|
      p_gd ((0 : Int) ≤ (p_w ((v3 : Int) + 2)) ∧ (p_w ((v3 : Int) + 2)) < (n9 : Int)) <|
      p_gd (p_is (h_H c m) 1 10) <|
      p_bd (F_SW_finding 1 (t9 ((p_w ((v3 : Int) + 1)) : Int).toNat) (t9 ((p_w ((v3 : Int) + 2)) : Int).toNat) (h_H c m)) fun r659 s655 =>
      p_gd ((0 : Int) ≤ (p_w ((v3 : Int) + 1)) ∧ (p_w ((v3 : Int) + 1)) < (n9 : Int)) <|
      p_gd ((0 : Int) ≤ (p_w ((v3 : Int) + 2)) ∧ (p_w ((v3 : Int) + 2)) < (n9 : Int)) <|
      p_gd (p_is s655 1125 11) <|
      p_bd (F_Mo_finding 1125 (t9 ((p_w ((v3 : Int) + 1)) : Int).toNat) (t9 ((p_w ((v3 : Int) + 2)) : Int).toNat) s655) fun r667 s663 =>
      if r659 = r667 then
        B_La_law_1701 n9 t9 k18 1 1125 (v3 : Int) s663
      else
        some (0, s663)) := by
  obtain ⟨r, x1, x2⟩ := pr_finding (by omega) h (t9 (p_w ((v3 : Int) + 1)).toNat) (t9 (p_w ((v3 : Int) + 2)).toNat)
  refine ⟨c, m, ?_, h.more (by omega), hE⟩
  rw [gd1 (hg 1 (by omega)), gd1 (hg 2 (by omega)), gd1 (isS c m), u_SW_finding m _ _ c _ x1, pbd1, gd1 (hg 1 (by omega)), gd1 (hg 2 (by omega)), gd1 (isM c m), u_Mo_finding c _ _ m _ x2, pbd1, if_pos rfl]
theorem la_39 {b : Nat} (hb : b < 400000000) {c : h_C} {m : h_M} (h : RR b c m) (hE : c 607 0 0 = m 102 0) {n9 : Nat} {t9 : Nat → Int} (ht : ∀ i, -2147483648 ≤ t9 i ∧ t9 i < 2147483648) {v3 : Nat} (hg : ∀ k : Int, (k = 1 ∨ k = 2 ∨ k = 3 ∨ k = 4 ∨ k = 5) → (0 : Int) ≤ p_w ((v3 : Int) + k) ∧ p_w ((v3 : Int) + k) < (n9 : Int)) (k18 : Nat → Nat → Int → p_Hp → Option (Int × p_Hp)) : PLw b n9 t9 k18 v3 (
      p_gd ((0 : Int) ≤ (p_w ((v3 : Int) + 1)) ∧ (p_w ((v3 : Int) + 1)) < (n9 : Int)) <|
      p_gd (p_is (h_H c m) 1 10) <|
      p_bd (F_SW_trace 1 (t9 ((p_w ((v3 : Int) + 1)) : Int).toNat) (h_H c m)) fun r676 s672 =>
      p_gd ((0 : Int) ≤ (p_w ((v3 : Int) + 1)) ∧ (p_w ((v3 : Int) + 1)) < (n9 : Int)) <|
      p_gd (p_is s672 1125 11) <|
      p_bd (F_Mo_trace 1125 (t9 ((p_w ((v3 : Int) + 1)) : Int).toNat) s672) fun r683 s679 =>
      if r676 = r683 then
        B_La_law_1701 n9 t9 k18 1 1125 (v3 : Int) s679
      else
        some (0, s679)) := by
  obtain ⟨r, x1, x2⟩ := pr_trace h (t9 (p_w ((v3 : Int) + 1)).toNat)
  refine ⟨c, m, ?_, h.more (by omega), hE⟩
  rw [gd1 (hg 1 (by omega)), gd1 (isS c m), u_SW_trace m _ c _ x1, pbd1, gd1 (hg 1 (by omega)), gd1 (isM c m), u_Mo_trace c _ m _ x2, pbd1, if_pos rfl]
theorem la_40 {b : Nat} (hb : b < 400000000) {c : h_C} {m : h_M} (h : RR b c m) (hE : c 607 0 0 = m 102 0) {n9 : Nat} {t9 : Nat → Int} (ht : ∀ i, -2147483648 ≤ t9 i ∧ t9 i < 2147483648) {v3 : Nat} (hg : ∀ k : Int, (k = 1 ∨ k = 2 ∨ k = 3 ∨ k = 4 ∨ k = 5) → (0 : Int) ≤ p_w ((v3 : Int) + k) ∧ p_w ((v3 : Int) + k) < (n9 : Int)) (k18 : Nat → Nat → Int → p_Hp → Option (Int × p_Hp)) : PLw b n9 t9 k18 v3 (
      p_gd ((0 : Int) ≤ (p_w ((v3 : Int) + 1)) ∧ (p_w ((v3 : Int) + 1)) < (n9 : Int)) <|
      p_gd (p_is (h_H c m) 1 10) <|
      p_bd (F_SW_jam 1 (t9 ((p_w ((v3 : Int) + 1)) : Int).toNat) (h_H c m)) fun r692 s688 =>
      p_gd ((0 : Int) ≤ (p_w ((v3 : Int) + 1)) ∧ (p_w ((v3 : Int) + 1)) < (n9 : Int)) <|
      p_gd (p_is s688 1125 11) <|
      p_bd (F_Mo_jam 1125 (t9 ((p_w ((v3 : Int) + 1)) : Int).toNat) s688) fun r699 s695 =>
      if r692 = r699 then
        B_La_law_1701 n9 t9 k18 1 1125 (v3 : Int) s695
      else
        some (0, s695)) := by
  obtain ⟨r, x1, x2⟩ := pr_jam h (t9 (p_w ((v3 : Int) + 1)).toNat) (ht _)
  refine ⟨c, m, ?_, h.more (by omega), hE⟩
  rw [gd1 (hg 1 (by omega)), gd1 (isS c m), u_SW_jam m _ c _ x1, pbd1, gd1 (hg 1 (by omega)), gd1 (isM c m), u_Mo_jam c _ m _ x2, pbd1, if_pos rfl]
theorem la_41 {b : Nat} (hb : b < 400000000) {c : h_C} {m : h_M} (h : RR b c m) (hE : c 607 0 0 = m 102 0) {n9 : Nat} {t9 : Nat → Int} (ht : ∀ i, -2147483648 ≤ t9 i ∧ t9 i < 2147483648) {v3 : Nat} (hg : ∀ k : Int, (k = 1 ∨ k = 2 ∨ k = 3 ∨ k = 4 ∨ k = 5) → (0 : Int) ≤ p_w ((v3 : Int) + k) ∧ p_w ((v3 : Int) + k) < (n9 : Int)) (k18 : Nat → Nat → Int → p_Hp → Option (Int × p_Hp)) : PLw b n9 t9 k18 v3 (
      p_gd ((0 : Int) ≤ (p_w ((v3 : Int) + 1)) ∧ (p_w ((v3 : Int) + 1)) < (n9 : Int)) <|
      p_gd ((0 : Int) ≤ (p_w ((v3 : Int) + 2)) ∧ (p_w ((v3 : Int) + 2)) < (n9 : Int)) <|
      p_gd (p_is (h_H c m) 1 10) <|
      p_bd (F_SW_far 1 (t9 ((p_w ((v3 : Int) + 1)) : Int).toNat) (t9 ((p_w ((v3 : Int) + 2)) : Int).toNat) (h_H c m)) fun r709 s705 =>
      p_gd ((0 : Int) ≤ (p_w ((v3 : Int) + 1)) ∧ (p_w ((v3 : Int) + 1)) < (n9 : Int)) <|
      p_gd ((0 : Int) ≤ (p_w ((v3 : Int) + 2)) ∧ (p_w ((v3 : Int) + 2)) < (n9 : Int)) <|
      p_gd (p_is s705 1125 11) <|
      p_bd (F_Mo_far 1125 (t9 ((p_w ((v3 : Int) + 1)) : Int).toNat) (t9 ((p_w ((v3 : Int) + 2)) : Int).toNat) s705) fun r717 s713 =>
      if r709 = r717 then
        B_La_law_1701 n9 t9 k18 1 1125 (v3 : Int) s713
      else
        some (0, s713)) := by
  obtain ⟨r, c', m', x1, x2, x3, x4⟩ := pr_far h hE (t9 (p_w ((v3 : Int) + 1)).toNat) (t9 (p_w ((v3 : Int) + 2)).toNat)
  refine ⟨c', m', ?_, x3.more (by omega), x4⟩
  rw [gd1 (hg 1 (by omega)), gd1 (hg 2 (by omega)), gd1 (isS c m), u_SW_far m _ _ c _ x1, pbd1, gd1 (hg 1 (by omega)), gd1 (hg 2 (by omega)), gd1 (isM c' m), u_Mo_far c' _ _ m _ x2, pbd1, if_pos rfl]
theorem la_42 {b : Nat} (hb : b < 400000000) {c : h_C} {m : h_M} (h : RR b c m) (hE : c 607 0 0 = m 102 0) {n9 : Nat} {t9 : Nat → Int} (ht : ∀ i, -2147483648 ≤ t9 i ∧ t9 i < 2147483648) {v3 : Nat} (hg : ∀ k : Int, (k = 1 ∨ k = 2 ∨ k = 3 ∨ k = 4 ∨ k = 5) → (0 : Int) ≤ p_w ((v3 : Int) + k) ∧ p_w ((v3 : Int) + k) < (n9 : Int)) (k18 : Nat → Nat → Int → p_Hp → Option (Int × p_Hp)) : PLw b n9 t9 k18 v3 (
      p_gd ((0 : Int) ≤ (p_w ((v3 : Int) + 1)) ∧ (p_w ((v3 : Int) + 1)) < (n9 : Int)) <|
      p_gd (p_is (h_H c m) 1 10) <|
      p_bd (F_SW_reach 1 (t9 ((p_w ((v3 : Int) + 1)) : Int).toNat) (h_H c m)) fun r726 s722 =>
      p_gd ((0 : Int) ≤ (p_w ((v3 : Int) + 1)) ∧ (p_w ((v3 : Int) + 1)) < (n9 : Int)) <|
      p_gd (p_is s722 1125 11) <|
      p_bd (F_Mo_reach 1125 (t9 ((p_w ((v3 : Int) + 1)) : Int).toNat) s722) fun r733 s729 =>
      if (p_cmp r726 r733) = 0 then
        B_La_law_1701 n9 t9 k18 1 1125 (v3 : Int) s729
      else
        some (0, s729)) := by
  obtain ⟨r, c', m', x1, x2, x3, x4⟩ := pr_reach h hE (t9 (p_w ((v3 : Int) + 1)).toNat)
  refine ⟨c', m', ?_, x3.more (by omega), x4⟩
  rw [gd1 (hg 1 (by omega)), gd1 (isS c m), u_SW_reach m _ c _ x1, pbd1, gd1 (hg 1 (by omega)), gd1 (isM c' m), u_Mo_reach c' _ m _ x2, pbd1, if_pos (p_cmp0 _)]
theorem la_43 {b : Nat} (hb : b < 400000000) {c : h_C} {m : h_M} (h : RR b c m) (hE : c 607 0 0 = m 102 0) {n9 : Nat} {t9 : Nat → Int} (ht : ∀ i, -2147483648 ≤ t9 i ∧ t9 i < 2147483648) {v3 : Nat} (hg : ∀ k : Int, (k = 1 ∨ k = 2 ∨ k = 3 ∨ k = 4 ∨ k = 5) → (0 : Int) ≤ p_w ((v3 : Int) + k) ∧ p_w ((v3 : Int) + k) < (n9 : Int)) (k18 : Nat → Nat → Int → p_Hp → Option (Int × p_Hp)) : PLw b n9 t9 k18 v3 (
      p_gd ((0 : Int) ≤ (p_w ((v3 : Int) + 1)) ∧ (p_w ((v3 : Int) + 1)) < (n9 : Int)) <|
      p_gd (p_is (h_H c m) 1 10) <|
      p_bd (F_SW_ring 1 (t9 ((p_w ((v3 : Int) + 1)) : Int).toNat) (h_H c m)) fun r742 s738 =>
      p_gd ((0 : Int) ≤ (p_w ((v3 : Int) + 1)) ∧ (p_w ((v3 : Int) + 1)) < (n9 : Int)) <|
      p_gd (p_is s738 1125 11) <|
      p_bd (F_Mo_ring 1125 (t9 ((p_w ((v3 : Int) + 1)) : Int).toNat) s738) fun r749 s745 =>
      if r742 = r749 then
        B_La_law_1701 n9 t9 k18 1 1125 (v3 : Int) s745
      else
        some (0, s745)) := by
  obtain ⟨r, c', m', x1, x2, x3, x4⟩ := pr_ring h hE (t9 (p_w ((v3 : Int) + 1)).toNat)
  refine ⟨c', m', ?_, x3.more (by omega), x4⟩
  rw [gd1 (hg 1 (by omega)), gd1 (isS c m), u_SW_ring m _ c _ x1, pbd1, gd1 (hg 1 (by omega)), gd1 (isM c' m), u_Mo_ring c' _ m _ x2, pbd1, if_pos rfl]
theorem la_44 {b : Nat} (hb : b < 400000000) {c : h_C} {m : h_M} (h : RR b c m) (hE : c 607 0 0 = m 102 0) {n9 : Nat} {t9 : Nat → Int} (ht : ∀ i, -2147483648 ≤ t9 i ∧ t9 i < 2147483648) {v3 : Nat} (hg : ∀ k : Int, (k = 1 ∨ k = 2 ∨ k = 3 ∨ k = 4 ∨ k = 5) → (0 : Int) ≤ p_w ((v3 : Int) + k) ∧ p_w ((v3 : Int) + k) < (n9 : Int)) (k18 : Nat → Nat → Int → p_Hp → Option (Int × p_Hp)) : PLw b n9 t9 k18 v3 (
      p_gd (p_is (h_H c m) 1 10) <|
      p_bd (F_SW_audit 1 (h_H c m)) fun r757 s753 =>
      p_gd (p_is s753 1125 11) <|
      p_bd (F_Mo_audit 1125 s753) fun r763 s759 =>
      if r757 = r763 then
        B_La_law_1701 n9 t9 k18 1 1125 (v3 : Int) s759
      else
        some (0, s759)) := by
  obtain ⟨r, x1, x2⟩ := pr_audit h 
  refine ⟨c, m, ?_, h.more (by omega), hE⟩
  rw [gd1 (isS c m), u_SW_audit m  c _ x1, pbd1, gd1 (isM c m), u_Mo_audit c  m _ x2, pbd1, if_pos rfl]
theorem la_45 {b : Nat} (hb : b < 400000000) {c : h_C} {m : h_M} (h : RR b c m) (hE : c 607 0 0 = m 102 0) {n9 : Nat} {t9 : Nat → Int} (ht : ∀ i, -2147483648 ≤ t9 i ∧ t9 i < 2147483648) {v3 : Nat} (hg : ∀ k : Int, (k = 1 ∨ k = 2 ∨ k = 3 ∨ k = 4 ∨ k = 5) → (0 : Int) ≤ p_w ((v3 : Int) + k) ∧ p_w ((v3 : Int) + k) < (n9 : Int)) (k18 : Nat → Nat → Int → p_Hp → Option (Int × p_Hp)) : PLw b n9 t9 k18 v3 (
      p_gd ((0 : Int) ≤ (p_w ((v3 : Int) + 1)) ∧ (p_w ((v3 : Int) + 1)) < (n9 : Int)) <|
      p_gd (p_is (h_H c m) 1 10) <|
      p_bd (F_SW_count 1 (t9 ((p_w ((v3 : Int) + 1)) : Int).toNat) (h_H c m)) fun r772 s768 =>
      p_gd ((0 : Int) ≤ (p_w ((v3 : Int) + 1)) ∧ (p_w ((v3 : Int) + 1)) < (n9 : Int)) <|
      p_gd (p_is s768 1125 11) <|
      p_bd (F_Mo_count 1125 (t9 ((p_w ((v3 : Int) + 1)) : Int).toNat) s768) fun r779 s775 =>
      if r772 = r779 then
        B_La_law_1701 n9 t9 k18 1 1125 (v3 : Int) s775
      else
        some (0, s775)) := by
  obtain ⟨r, x1, x2⟩ := pr_count h hE (t9 (p_w ((v3 : Int) + 1)).toNat)
  refine ⟨c, m, ?_, h.more (by omega), hE⟩
  rw [gd1 (hg 1 (by omega)), gd1 (isS c m), u_SW_count m _ c _ x1, pbd1, gd1 (hg 1 (by omega)), gd1 (isM c m), u_Mo_count c _ m _ x2, pbd1, if_pos rfl]
theorem la_46 {b : Nat} (hb : b < 400000000) {c : h_C} {m : h_M} (h : RR b c m) (hE : c 607 0 0 = m 102 0) {n9 : Nat} {t9 : Nat → Int} (ht : ∀ i, -2147483648 ≤ t9 i ∧ t9 i < 2147483648) {v3 : Nat} (hg : ∀ k : Int, (k = 1 ∨ k = 2 ∨ k = 3 ∨ k = 4 ∨ k = 5) → (0 : Int) ≤ p_w ((v3 : Int) + k) ∧ p_w ((v3 : Int) + k) < (n9 : Int)) (k18 : Nat → Nat → Int → p_Hp → Option (Int × p_Hp)) : PLw b n9 t9 k18 v3 (
      p_gd (p_is (h_H c m) 1 10) <|
      p_bd (F_SW_digest 1 (h_H c m)) fun r787 s783 =>
      p_gd (p_is s783 1125 11) <|
      p_bd (F_Mo_digest 1125 s783) fun r793 s789 =>
      if (p_cmp r787 r793) = 0 then
        B_La_law_1701 n9 t9 k18 1 1125 (v3 : Int) s789
      else
        some (0, s789)) := by
  obtain ⟨r, m', x1, x2, x3, x4⟩ := pr_digest h
  refine ⟨c, m', ?_, x3.more (by omega), by rw [x4]; exact hE⟩
  rw [gd1 (isS c m), u_SW_digest m c _ x1, pbd1, gd1 (isM c m), u_Mo_digest c m _ x2, pbd1, if_pos (p_cmp0 _)]
theorem la_call {b : Nat} (hb : b < 400000000) {c : h_C} {m : h_M} (h : RR b c m) (hE : c 607 0 0 = m 102 0) {n9 : Nat} {t9 : Nat → Int} (ht : ∀ i, -2147483648 ≤ t9 i ∧ t9 i < 2147483648) {v3 : Nat} (hg : ∀ k : Int, (k = 1 ∨ k = 2 ∨ k = 3 ∨ k = 4 ∨ k = 5) → (0 : Int) ≤ p_w ((v3 : Int) + k) ∧ p_w ((v3 : Int) + k) < (n9 : Int)) (k18 : Nat → Nat → Int → p_Hp → Option (Int × p_Hp)) (hv : ¬ (p_w ((n9 : Int) - 6) < (v3 : Int))) (hv2 : (v3 : Int) < (n9 : Int)) : PLw b n9 t9 k18 v3 (L_La_law_18 n9 t9 k18 1 1125 (v3 : Int) (h_H c m)) := by
  unfold L_La_law_18
  rw [if_neg hv, gd1 (show (0 : Int) ≤ (v3 : Int) ∧ (v3 : Int) < (n9 : Int) from ⟨by omega, hv2⟩)]
  refine PLw.ite (fun _ => la_0 hb h hE ht hg k18) (fun _ => ?_)
  refine PLw.ite (fun _ => la_1 hb h hE ht hg k18) (fun _ => ?_)
  refine PLw.ite (fun _ => la_2 hb h hE ht hg k18) (fun _ => ?_)
  refine PLw.ite (fun _ => la_3 hb h hE ht hg k18) (fun _ => ?_)
  refine PLw.ite (fun _ => la_4 hb h hE ht hg k18) (fun _ => ?_)
  refine PLw.ite (fun _ => la_5 hb h hE ht hg k18) (fun _ => ?_)
  refine PLw.ite (fun _ => la_6 hb h hE ht hg k18) (fun _ => ?_)
  refine PLw.ite (fun _ => la_7 hb h hE ht hg k18) (fun _ => ?_)
  refine PLw.ite (fun _ => la_8 hb h hE ht hg k18) (fun _ => ?_)
  refine PLw.ite (fun _ => la_9 hb h hE ht hg k18) (fun _ => ?_)
  refine PLw.ite (fun _ => la_10 hb h hE ht hg k18) (fun _ => ?_)
  refine PLw.ite (fun _ => la_11 hb h hE ht hg k18) (fun _ => ?_)
  refine PLw.ite (fun _ => la_12 hb h hE ht hg k18) (fun _ => ?_)
  refine PLw.ite (fun _ => la_13 hb h hE ht hg k18) (fun _ => ?_)
  refine PLw.ite (fun _ => la_14 hb h hE ht hg k18) (fun _ => ?_)
  refine PLw.ite (fun _ => la_15 hb h hE ht hg k18) (fun _ => ?_)
  refine PLw.ite (fun _ => la_16 hb h hE ht hg k18) (fun _ => ?_)
  refine PLw.ite (fun _ => la_17 hb h hE ht hg k18) (fun _ => ?_)
  refine PLw.ite (fun _ => la_18 hb h hE ht hg k18) (fun _ => ?_)
  refine PLw.ite (fun _ => la_19 hb h hE ht hg k18) (fun _ => ?_)
  refine PLw.ite (fun _ => la_20 hb h hE ht hg k18) (fun _ => ?_)
  refine PLw.ite (fun _ => la_21 hb h hE ht hg k18) (fun _ => ?_)
  refine PLw.ite (fun _ => la_22 hb h hE ht hg k18) (fun _ => ?_)
  refine PLw.ite (fun _ => la_23 hb h hE ht hg k18) (fun _ => ?_)
  refine PLw.ite (fun _ => la_24 hb h hE ht hg k18) (fun _ => ?_)
  refine PLw.ite (fun _ => la_25 hb h hE ht hg k18) (fun _ => ?_)
  refine PLw.ite (fun _ => la_26 hb h hE ht hg k18) (fun _ => ?_)
  refine PLw.ite (fun _ => la_27 hb h hE ht hg k18) (fun _ => ?_)
  refine PLw.ite (fun _ => la_28 hb h hE ht hg k18) (fun _ => ?_)
  refine PLw.ite (fun _ => la_29 hb h hE ht hg k18) (fun _ => ?_)
  refine PLw.ite (fun _ => la_30 hb h hE ht hg k18) (fun _ => ?_)
  refine PLw.ite (fun _ => la_31 hb h hE ht hg k18) (fun _ => ?_)
  refine PLw.ite (fun _ => la_32 hb h hE ht hg k18) (fun _ => ?_)
  refine PLw.ite (fun _ => la_33 hb h hE ht hg k18) (fun _ => ?_)
  refine PLw.ite (fun _ => la_34 hb h hE ht hg k18) (fun _ => ?_)
  refine PLw.ite (fun _ => la_35 hb h hE ht hg k18) (fun _ => ?_)
  refine PLw.ite (fun _ => la_36 hb h hE ht hg k18) (fun _ => ?_)
  refine PLw.ite (fun _ => la_37 hb h hE ht hg k18) (fun _ => ?_)
  refine PLw.ite (fun _ => la_38 hb h hE ht hg k18) (fun _ => ?_)
  refine PLw.ite (fun _ => la_39 hb h hE ht hg k18) (fun _ => ?_)
  refine PLw.ite (fun _ => la_40 hb h hE ht hg k18) (fun _ => ?_)
  refine PLw.ite (fun _ => la_41 hb h hE ht hg k18) (fun _ => ?_)
  refine PLw.ite (fun _ => la_42 hb h hE ht hg k18) (fun _ => ?_)
  refine PLw.ite (fun _ => la_43 hb h hE ht hg k18) (fun _ => ?_)
  refine PLw.ite (fun _ => la_44 hb h hE ht hg k18) (fun _ => ?_)
  refine PLw.ite (fun _ => la_45 hb h hE ht hg k18) (fun _ => ?_)
  refine PLw.ite (fun _ => la_46 hb h hE ht hg k18) (fun _ => ?_)
  exact ⟨c, m, rfl, h.more (by omega), hE⟩
