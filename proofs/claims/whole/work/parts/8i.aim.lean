/-! ===== aim ===== -/
theorem bv_of (n : Nat) : (Int64.ofInt (n : Int)).toBitVec = BitVec.ofNat 64 n := by
  show BitVec.ofInt 64 (n : Int) = _
  exact BitVec.ofInt_natCast 64 n
theorem bv_in {x : BitVec 64} {n : Nat} (h : x.toNat = n) (hn : n < 9223372036854775808) : x.toInt = (n : Int) := by
  rw [BitVec.toInt_eq_toNat_of_lt (by rw [h]; omega), h]
theorem and6_n {n k : Nat} (hn : n < 9223372036854775808) (hk : k < 9223372036854775808) : p_and6 (n : Int) (k : Int) = ((n &&& k : Nat) : Int) := by
  unfold p_and6
  show (Int64.ofInt (n : Int) &&& Int64.ofInt (k : Int)).toBitVec.toInt = _
  rw [Int64.toBitVec_and, bv_of, bv_of]
  refine bv_in ?_ (Nat.lt_of_le_of_lt Nat.and_le_left hn)
  rw [BitVec.toNat_and, BitVec.toNat_ofNat, BitVec.toNat_ofNat, Nat.mod_eq_of_lt (by omega), Nat.mod_eq_of_lt (by omega)]
theorem or6_n {n k : Nat} (hn : n < 2 ^ 62) (hk : k < 2 ^ 62) : p_or6 (n : Int) (k : Int) = ((n ||| k : Nat) : Int) := by
  unfold p_or6
  show (Int64.ofInt (n : Int) ||| Int64.ofInt (k : Int)).toBitVec.toInt = _
  rw [Int64.toBitVec_or, bv_of, bv_of]
  have := Nat.or_lt_two_pow hn hk
  refine bv_in ?_ (by omega)
  rw [BitVec.toNat_or, BitVec.toNat_ofNat, BitVec.toNat_ofNat, Nat.mod_eq_of_lt (by omega), Nat.mod_eq_of_lt (by omega)]
theorem xor6_n {n k : Nat} (hn : n < 2 ^ 62) (hk : k < 2 ^ 62) : p_xor6 (n : Int) (k : Int) = ((n ^^^ k : Nat) : Int) := by
  unfold p_xor6
  show (Int64.ofInt (n : Int) ^^^ Int64.ofInt (k : Int)).toBitVec.toInt = _
  rw [Int64.toBitVec_xor, bv_of, bv_of]
  have := Nat.xor_lt_two_pow hn hk
  refine bv_in ?_ (by omega)
  rw [BitVec.toNat_xor, BitVec.toNat_ofNat, BitVec.toNat_ofNat, Nat.mod_eq_of_lt (by omega), Nat.mod_eq_of_lt (by omega)]
theorem shl6_1 : ∀ t : Fin 40, p_shl6 1 (t.val : Int) = ((2 ^ t.val : Nat) : Int) := by decide +kernel
theorem andn6 (n x : Nat) (hn : n < 2 ^ 62) (hx : x < 2 ^ 62) : p_and6 (n : Int) (p_xor6 (x : Int) (-1)) = ((n ^^^ (n &&& x) : Nat) : Int) := by
  unfold p_and6 p_xor6
  rw [Int64.ofInt_toInt]
  show (Int64.ofInt (n : Int) &&& (Int64.ofInt (x : Int) ^^^ Int64.ofInt (-1))).toBitVec.toInt = _
  rw [Int64.toBitVec_and, Int64.toBitVec_xor, bv_of, bv_of, show (Int64.ofInt (-1)).toBitVec = BitVec.allOnes 64 by decide]
  have e : ∀ a b : BitVec 64, a &&& (b ^^^ BitVec.allOnes 64) = a ^^^ (a &&& b) := fun a b => by
    apply BitVec.eq_of_getLsbD_eq
    intro i hi
    rw [BitVec.getLsbD_and, BitVec.getLsbD_xor, BitVec.getLsbD_xor, BitVec.getLsbD_and, BitVec.getLsbD_allOnes, decide_eq_true hi]
    cases a.getLsbD i <;> cases b.getLsbD i <;> rfl
  rw [e]
  have h1 : n &&& x < 2 ^ 62 := Nat.lt_of_le_of_lt Nat.and_le_left hn
  have := Nat.xor_lt_two_pow hn h1
  refine bv_in ?_ (by omega)
  rw [BitVec.toNat_xor, BitVec.toNat_and, BitVec.toNat_ofNat, BitVec.toNat_ofNat, Nat.mod_eq_of_lt (by omega), Nat.mod_eq_of_lt (by omega)]
theorem ushr6_n {n t : Nat} (hn : n < 2 ^ 62) (ht : t < 40) : p_ushr6 (n : Int) (t : Int) = ((n >>> t : Nat) : Int) := by
  unfold p_ushr6
  have e : ∀ t : Fin 40, ((Int32.ofInt (t.val : Int)).toInt64.toUInt64 &&& Int64.toUInt64 63) = UInt64.ofNat t.val := by decide +kernel
  rw [e ⟨t, ht⟩]
  show ((Int64.ofInt (n : Int)).toUInt64 >>> UInt64.ofNat t).toBitVec.toInt = _
  have hle : n >>> t ≤ n := by rw [Nat.shiftRight_eq_div_pow]; exact Nat.div_le_self _ _
  refine bv_in ?_ (by omega)
  show ((Int64.ofInt (n : Int)).toUInt64 >>> UInt64.ofNat t).toNat = _
  rw [UInt64.toNat_shiftRight]
  have h1 : (Int64.ofInt (n : Int)).toUInt64.toNat = n := by
    show (Int64.ofInt (n : Int)).toBitVec.toNat = n
    rw [bv_of, BitVec.toNat_ofNat, Nat.mod_eq_of_lt (by omega)]
  have h2 : (UInt64.ofNat t).toNat % 64 = t := by
    rw [UInt64.toNat_ofNat_of_lt' (by show t < 2 ^ 64; omega)]
    omega
  rw [h1, h2]
theorem bit_and (n t : Nat) : n &&& 2 ^ t = if n.testBit t then 2 ^ t else 0 := by
  apply Nat.eq_of_testBit_eq
  intro i
  rw [Nat.testBit_and, Nat.testBit_two_pow]
  by_cases e : t = i
  · subst e
    cases h : n.testBit t
    · simp
    · simp
  · cases h : n.testBit t
    · simp [e]
    · simp [e, Nat.testBit_two_pow]
theorem bit_sh (n t : Nat) : (n >>> t) &&& 1 = if n.testBit t then 1 else 0 := by
  have : n.testBit t = decide ((n >>> t) % 2 = 1) := by
    rw [Nat.testBit_eq_decide_div_mod_eq, Nat.shiftRight_eq_div_pow]
  rw [Nat.and_one_is_mod, this]
  rcases Nat.mod_two_eq_zero_or_one (n >>> t) with h | h
  · simp [h]
  · simp [h]
theorem bit_or1 {n t : Nat} (h : n.testBit t = true) : n ||| 2 ^ t = n := by
  apply Nat.eq_of_testBit_eq
  intro i
  rw [Nat.testBit_or, Nat.testBit_two_pow]
  by_cases e : t = i
  · subst e; simp [h]
  · simp [e]
theorem bit_or0 {n t : Nat} (h : n.testBit t = false) : n ||| 2 ^ t = n ^^^ 2 ^ t := by
  apply Nat.eq_of_testBit_eq
  intro i
  rw [Nat.testBit_or, Nat.testBit_xor, Nat.testBit_two_pow]
  by_cases e : t = i
  · subst e; simp [h]
  · simp [e]
theorem RR.f2011 {b : Nat} {c : h_C} {m : h_M} (h : RR b c m) {i s : Nat} (hs : s = 1 ∨ s = 2) (x : Int) (hx : 0 ≤ x ∧ x < 1099511627776) (hk : m 5 i = 5 → s = 1) : RR b (wc c 2011 (i + 1) s x) (wm m 11 (2 * i + (s - 1)) x) := by
  have hG := h.G
  refine (RR.gen [2011] [11] h (by repeat first | exact eC.rf _ _ | refine eC.wc ?_ (by decide) _ _ _ | refine eC.sr ?_ (by decide) _ _) (by repeat first | exact eM.rf _ _ | refine eM.wm ?_ (by decide) _ _) (Or.inl ⟨rfl, rfl⟩) (Or.inl ⟨rfl, rfl⟩) (Or.inr ?_) (Or.inl ⟨rfl, rfl⟩) (Or.inl ⟨rfl, rfl⟩) (Or.inl ⟨rfl, rfl⟩) (Or.inl ⟨rfl, rfl⟩) (Or.inl ⟨rfl, rfl⟩) (Or.inl ⟨rfl, rfl⟩) (Or.inl ⟨rfl, rfl⟩) (Or.inl ⟨rfl, rfl⟩) (Or.inl ⟨rfl, rfl⟩))
  refine ⟨fun i' => ?_, fun w g hw hg => ?_⟩
  · obtain ⟨a, b1, b2, b3, b5, b6, b7, ⟨d1, d2, d3, d4, d5, d6, d7⟩⟩ := hG.1 i'
    refine ⟨by simpa [wc_at, wm_at] using a, by simpa [wc_at, wm_at] using b1, by simpa [wc_at, wm_at] using b2, by simpa [wc_at, wm_at] using b3, by simpa [wc_at, wm_at] using b5, by simpa [wc_at, wm_at] using b6, by simpa [wc_at, wm_at] using b7, ?_⟩
    simp only [wc_at, wm_at]
    by_cases e : i' = i
    · subst e
      rcases hs with rfl | rfl
      · refine ⟨by simp, by rw [if_neg (by omega), if_neg (by omega)]; exact d2, by simpa using hx.1, by simpa using hx.2, by rw [if_neg (by omega)]; exact d5, by rw [if_neg (by omega)]; exact d6, by rw [if_neg (by omega), if_neg (by omega)]; exact d7⟩
      · refine ⟨by rw [if_neg (by omega), if_neg (by omega)]; exact d1, by simp, by rw [if_neg (by omega)]; exact d3, by rw [if_neg (by omega)]; exact d4, by simpa using hx.1, by simpa using hx.2, by rw [if_neg (by omega)]; intro z; exact absurd (hk z) (by decide)⟩
    · rw [if_neg (by omega), if_neg (by omega), if_neg (by omega), if_neg (by omega), if_neg (by omega)]
      exact ⟨d1, d2, d3, d4, d5, d6, d7⟩
  · simpa [wc_at, wm_at] using hG.2 w g hw hg
theorem pr_aim {b : Nat} {c : h_C} {m : h_M} (h : RR b c m) (hE : c 607 0 0 = m 102 0) (v1 v2 v3 v4 : Int) (hv4 : v4 = 0 ∨ v4 = 1) : PR b (G_SW_aim v1 v2 v3 v4 c) (G_Mo_aim v1 v2 v3 v4 m) := by
  obtain ⟨w, hw, e1, e2⟩ := h.w
  by_cases hg : 0 ≤ v1 ∧ v1 < m 3 w
  case neg =>
    obtain ⟨r, c', m', x1, x2, x3⟩ := pr_refuse h (-1) (by omega)
    refine ⟨r, c', m', ?_, ?_, x3⟩
    · unfold G_SW_aim
      simp only [e2, Int.toNat_natCast, q_eta, s_gearOf0 hw h.F hg, q_some]
      exact gdT (by omega) (ifF (by simp) x1)
    · unfold G_Mo_aim
      simp only [s_noGear hw h.F e1, if_neg hg, q_some, q_eta]
      exact ifF (by decide) x2
  obtain ⟨g, rfl⟩ : ∃ g : Nat, v1 = (g : Int) := ⟨v1.toNat, by omega⟩
  obtain ⟨g40, i120, hj, eK, k0, k10, eL, l0, l8, lt, ln⟩ := h.gr hw hg.2
  have w3 : (0 : Int) ≤ (w : Int) ∧ (w : Int) < 3 := by omega
  unfold G_SW_aim G_Mo_aim GB_SW_aim_41 GB_Mo_aim_38
  simp only [e2, Int.toNat_natCast, gd1 w3, q_eta, s_gearOf hw h.F hg.2, s_noGear hw h.F e1, if_pos hg, q_some, show ¬ (40 * w + g + 1 = 0) by omega, ne_eq, not_false_eq_true, if_true, s_beyond, s_g hw e1 g40, gd1 hj, gd1 (show (0 : Int) ≤ ((40 * w + g : Nat) : Int) ∧ ((40 * w + g : Nat) : Int) < 120 by omega), s_cDivert hj, s_mDivert, s_mSides, eK, s_cHasSide hj v2 c (by omega) (by omega)]
  by_cases c1 : 1 ≤ v2 ∧ v2 ≤ 2
  case neg =>
    simp only [if_neg c1, show ¬ ((1 : Int) = 0) by decide, not_false_eq_true, if_true]
    by_cases c3 : v2 < 1
    · simp only [if_pos c3]
      exact pr_refuse h _ (by omega) hE
    · simp only [if_neg c3, if_pos (show 2 < v2 by omega)]
      exact pr_refuse h _ (by omega) hE
  simp only [if_pos c1, not_true_eq_false, if_false, if_neg (show ¬ v2 < 1 by omega), if_neg (show ¬ 2 < v2 by omega)]
  by_cases c2 : 0 ≤ v3 ∧ v3 ≤ 39
  case neg =>
    simp only [if_neg c2, show ¬ ((1 : Int) = 0) by decide, if_false]
    by_cases c3 : v3 < 0
    · simp only [if_pos c3]
      exact pr_refuse h _ (by omega) hE
    · simp only [if_neg c3, if_neg (show ¬ v3 < 40 by omega)]
      exact pr_refuse h _ (by omega) hE
  simp only [if_pos c2, if_true, if_neg (show ¬ v3 < 0 by omega), if_pos (show v3 < 40 by omega)]
  by_cases c4 : m 5 (40 * w + g) = 5 ∨ m 5 (40 * w + g) = 6
  case neg =>
    unfold GB_Mo_aim_79 GB_Mo_aim_98
    simp only [if_neg c4, gd1 (show (0 : Int) ≤ ((40 * w + g : Nat) : Int) ∧ ((40 * w + g : Nat) : Int) < 120 by omega), Int.toNat_natCast, s_mDivert, q_some, not_true_eq_false, if_false, if_true, q_eta]
    exact pr_fault h _ _ (by omega) (by omega) (by omega) hE
  simp only [if_pos c4, show ¬ ((1 : Int) = 0) by decide, not_false_eq_true, if_true, if_false]
  by_cases c5 : v2 < (if m 5 (40 * w + g) = 5 then 2 else 3)
  case neg =>
    have k5 : m 5 (40 * w + g) = 5 := by
      by_cases z : m 5 (40 * w + g) = 5
      · exact z
      · rw [if_neg z] at c5; omega
    rw [k5, if_pos rfl] at c5
    unfold GB_Mo_aim_79 GB_Mo_aim_98
    simp only [k5, if_true, if_neg c5, if_neg (show ¬ (0 ≤ v2 ∧ v2 < 2) by omega), gd1 (show (0 : Int) ≤ ((40 * w + g : Nat) : Int) ∧ ((40 * w + g : Nat) : Int) < 120 by omega), Int.toNat_natCast, s_mDivert, q_some, not_true_eq_false, if_false, q_eta, true_or, show ¬ ((1 : Int) = 0) by decide]
    exact pr_fault h _ _ (by omega) (by omega) (by omega) hE
  obtain ⟨s, rfl⟩ : ∃ s : Nat, v2 = (s : Int) := ⟨v2.toNat, by omega⟩
  obtain ⟨t, rfl⟩ : ∃ t : Nat, v3 = (t : Int) := ⟨v3.toNat, by omega⟩
  have t40 : t < 40 := by omega
  have hs12 : s = 1 ∨ s = 2 := by omega
  have hk5 : m 5 (40 * w + g) = 5 → s = 1 := fun z => by rw [if_pos z] at c5; omega
  have cs : 0 ≤ (s : Int) ∧ (s : Int) < (if m 5 (40 * w + g) = 5 then 2 else if m 5 (40 * w + g) = 6 then 3 else if m 5 (40 * w + g) = 7 ∨ m 5 (40 * w + g) = 9 ∨ m 5 (40 * w + g) = 10 then 0 else 1) := by
    by_cases z : m 5 (40 * w + g) = 5
    · rw [if_pos z] at c5 ⊢; omega
    · rw [if_neg z] at c5 ⊢; rw [if_pos (by omega)]; omega
  have ms : (s : Int) < (if m 5 (40 * w + g) = 5 then 2 else if m 5 (40 * w + g) = 6 then 3 else 0) := by
    by_cases z : m 5 (40 * w + g) = 5
    · rw [if_pos z] at c5 ⊢; omega
    · rw [if_neg z] at c5 ⊢; rw [if_pos (by omega)]; omega
  obtain ⟨_, _, _, _, _, _, _, ⟨d1, d2, d3, d4, d5, d6, d7⟩⟩ := h.G.1 (40 * w + g)
  obtain ⟨n, hn, hn40, hc⟩ : ∃ n : Nat, m 11 (2 * (40 * w + g) + (s - 1)) = (n : Int) ∧ n < 1099511627776 ∧ c 2011 (40 * w + g + 1) s = (n : Int) := by
    rcases hs12 with rfl | rfl
    · refine ⟨(m 11 (2 * (40 * w + g))).toNat, ?_, by omega, by rw [d1]; omega⟩
      show m 11 (2 * (40 * w + g)) = _
      omega
    · refine ⟨(m 11 (2 * (40 * w + g) + 1)).toNat, ?_, by omega, by rw [d2]; omega⟩
      show m 11 (2 * (40 * w + g) + 1) = _
      omega
  have hp : 2 ^ t < 1099511627776 := by
    have : 2 ^ t ≤ 2 ^ 39 := Nat.pow_le_pow_right (by decide) (by omega)
    have e : (2 : Nat) ^ 39 = 549755813888 := by decide
    omega
  have p62 : (2 : Nat) ^ 62 = 4611686018427387904 := by decide
  have p40 : (2 : Nat) ^ 40 = 1099511627776 := by decide
  have sh : p_shl6 1 (t : Int) = ((2 ^ t : Nat) : Int) := shl6_1 ⟨t, t40⟩
  have hx40 : n ^^^ 2 ^ t < 1099511627776 := by rw [← p40]; exact Nat.xor_lt_two_pow (by omega) (by omega)
  have cb : (if 0 ≤ (t : Int) ∧ p_cmp (p_and6 (p_ushr6 (n : Int) (t : Int)) 1) 1 = 0 then (1 : Int) else 0) = if n.testBit t then 1 else 0 := by
    rw [ushr6_n (by omega) t40, show (1 : Int) = ((1 : Nat) : Int) from rfl, and6_n (by
      have : n >>> t ≤ n := by rw [Nat.shiftRight_eq_div_pow]; exact Nat.div_le_self _ _
      omega) (by decide), bit_sh]
    unfold p_cmp
    cases n.testBit t <;> simp
  have mb : (p_cmp (p_and6 (n : Int) ((2 ^ t : Nat) : Int)) 0 = 0) ↔ n.testBit t = false := by
    rw [and6_n (by omega) (by omega), bit_and]
    have hpos : (0 : Int) < ((2 ^ t : Nat) : Int) := Int.natCast_pos.mpr (Nat.pow_pos (by decide))
    unfold p_cmp
    cases n.testBit t
    · simp
    · rw [if_pos rfl, if_pos hpos]
      simp
  simp only [if_pos cs, if_pos ms, show ¬ ((1 : Int) = 0) by decide, not_false_eq_true, if_true, s_aims hj (s : Int) (t : Int) (by omega), q_some, Int.toNat_natCast, hc, cb, sh, bi1, p_w1 (x := 2 * ((40 * w + g : Nat) : Int)) (by omega) (by omega), p_w1 (x := 2 * ((40 * w + g : Nat) : Int) + (s : Int)) (by omega) (by omega), p_w1 (x := 2 * ((40 * w + g : Nat) : Int) + (s : Int) - 1) (by omega) (by omega), gd1 (show (0 : Int) ≤ 2 * ((40 * w + g : Nat) : Int) + (s : Int) - 1 ∧ 2 * ((40 * w + g : Nat) : Int) + (s : Int) - 1 < 240 by omega), show (2 * ((40 * w + g : Nat) : Int) + (s : Int) - 1).toNat = 2 * (40 * w + g) + (s - 1) by omega, hn]
  have hA : G_Gear_aimAt (40 * w + g + 1) (s : Int) (t : Int) v4 c = some (wc c 2011 (40 * w + g + 1) s (if v4 = 0 then ((n ^^^ (n &&& 2 ^ t) : Nat) : Int) else ((n ||| 2 ^ t : Nat) : Int))) := by
    unfold G_Gear_aimAt
    rw [sh, bi1, gd1 hj, gd1 (by omega), gd1 (by omega), Int.toNat_natCast, hc, andn6 n (2 ^ t) (by omega) (by omega), or6_n (by omega) (by omega)]
    by_cases z : v4 = 0
    · rw [if_pos z, if_pos z]; rfl
    · rw [if_neg z, if_neg z]; rfl
  have same : wc c 2011 (40 * w + g + 1) s (n : Int) = c := by
    funext f i k
    rw [wc_at]
    split
    · rename_i e
      rw [e.1, e.2.1, e.2.2, hc]
    · rfl
  rw [hA, q_some]
  have hR : RR b (wc c 2011 (40 * w + g + 1) s ((n ^^^ 2 ^ t : Nat) : Int)) (wm m 11 (2 * (40 * w + g) + (s - 1)) ((n ^^^ 2 ^ t : Nat) : Int)) := h.f2011 hs12 _ (by omega) hk5
  have hE' : (wc c 2011 (40 * w + g + 1) s ((n ^^^ 2 ^ t : Nat) : Int)) 607 0 0 = (wm m 11 (2 * (40 * w + g) + (s - 1)) ((n ^^^ 2 ^ t : Nat) : Int)) 102 0 := by rw [wc_ne (by decide), wm_at, if_neg (by omega)]; exact hE
  have hMx : ∀ w0 : Int, w0 ≠ v4 → GB_Mo_aim_133 (s : Int) v4 ((40 * w + g : Nat) : Int) ((2 ^ t : Nat) : Int) w0 m = G_Mo_built 1 (wm m 11 (2 * (40 * w + g) + (s - 1)) ((n ^^^ 2 ^ t : Nat) : Int)) := fun w0 hw0 => by
    unfold GB_Mo_aim_133 GB_Mo_aim_160 GB_Mo_aim_173
    rw [if_neg hw0, p_w1 (x := 2 * ((40 * w + g : Nat) : Int)) (by omega) (by omega), p_w1 (x := 2 * ((40 * w + g : Nat) : Int) + (s : Int)) (by omega) (by omega), p_w1 (x := 2 * ((40 * w + g : Nat) : Int) + (s : Int) - 1) (by omega) (by omega), gd1 (by omega), show (2 * ((40 * w + g : Nat) : Int) + (s : Int) - 1).toNat = 2 * (40 * w + g) + (s - 1) by omega, hn, xor6_n (by omega) (by omega), bi1, if_neg hw0, q_eta]
  have hMs : GB_Mo_aim_133 (s : Int) v4 ((40 * w + g : Nat) : Int) ((2 ^ t : Nat) : Int) v4 m = G_Mo_built 0 m := by
    unfold GB_Mo_aim_133 GB_Mo_aim_160 GB_Mo_aim_173
    rw [if_pos rfl, if_pos rfl, q_eta]
  unfold GB_SW_aim_110
  simp only [q_eta]
  cases hb : n.testBit t
  · have hm := mb.mpr hb
    rw [if_pos hm]
    rcases hv4 with rfl | rfl
    · have e : (if (0 : Int) = 0 then ((n ^^^ (n &&& 2 ^ t) : Nat) : Int) else ((n ||| 2 ^ t : Nat) : Int)) = (n : Int) := by rw [if_pos rfl, bit_and, hb]; simp
      rw [hMs, e, same, if_neg (show ¬ ¬ ((if false = true then (1 : Int) else 0) = 0) by decide)]
      exact pr_built h _ hE
    · have e : (if (1 : Int) = 0 then ((n ^^^ (n &&& 2 ^ t) : Nat) : Int) else ((n ||| 2 ^ t : Nat) : Int)) = ((n ^^^ 2 ^ t : Nat) : Int) := by rw [if_neg (by decide), bit_or0 hb]
      rw [hMx 0 (by decide), e, if_pos (show ¬ ((if false = true then (1 : Int) else 0) = 1) by decide)]
      exact pr_built hR _ hE'
  · have hm : ¬ (p_cmp (p_and6 (n : Int) ((2 ^ t : Nat) : Int)) 0 = 0) := fun z => by rw [mb, hb] at z; cases z
    rw [if_neg hm]
    rcases hv4 with rfl | rfl
    · have e : (if (0 : Int) = 0 then ((n ^^^ (n &&& 2 ^ t) : Nat) : Int) else ((n ||| 2 ^ t : Nat) : Int)) = ((n ^^^ 2 ^ t : Nat) : Int) := by rw [if_pos rfl, bit_and, hb]; simp
      rw [hMx 1 (by decide), e, if_pos (show ¬ ((if true = true then (1 : Int) else 0) = 0) by decide)]
      exact pr_built hR _ hE'
    · have e : (if (1 : Int) = 0 then ((n ^^^ (n &&& 2 ^ t) : Nat) : Int) else ((n ||| 2 ^ t : Nat) : Int)) = (n : Int) := by rw [if_neg (by decide), bit_or1 hb]
      rw [hMs, e, same, if_neg (show ¬ ¬ ((if true = true then (1 : Int) else 0) = 1) by decide)]
      exact pr_built h _ hE
