/-! ===== links ===== -/
theorem s_follow {b : Nat} {c : h_C} {m : h_M} (h : RR b c m) {w g : Nat} (hw : w < 3) (e1 : m 100 0 = (w : Int)) (hg : (g : Int) < m 3 w) (k : Int) (hk : 0 ≤ k) : ∃ f v m', G_Works_follow w (40 * w + g + 1) k c = some v ∧ G_Mo_follow (g : Int) k m = some (f, m') ∧ eM [173] m m' ∧ ((f = 0 ∧ ∃ t : Nat, v = (t : Int) ∧ (t : Int) < m 3 w ∧ m' 173 0 = (t : Int)) ∨ ((f = 1 ∨ f = 3) ∧ v = -10 - f)) := by
  obtain ⟨g40, i120, hj, _⟩ := h.gr hw hg
  obtain ⟨n1, n2, n3, _, _⟩ := (h.G.2 w g hw g40).1 hg
  have f1 := h.F.1 w
  unfold G_Works_follow G_Mo_follow
  simp only [s_g hw e1 g40, q_some, gd1 (show (0 : Int) ≤ ((40 * w + g : Nat) : Int) ∧ ((40 * w + g : Nat) : Int) < 120 by omega), gd1 hj, n1, Int.toNat_natCast, gd1 hw, f1.1]
  by_cases c1 : m 7 (40 * w + g) = -1
  · refine ⟨1, -11, m, ?_, ?_, eM.rf _ _, Or.inr ⟨Or.inl rfl, by decide⟩⟩
    · exact ifF (by simp [c1]) rfl
    · exact ifF (by omega) rfl
  · by_cases c2 : m 7 (40 * w + g) ≤ k
    · refine ⟨3, -13, m, ?_, ?_, eM.rf _ _, Or.inr ⟨Or.inr rfl, by decide⟩⟩
      · exact ifT c1 (ifF (by omega) (ifT c2 rfl))
      · exact ifT (by omega) (ifT c2 rfl)
    · obtain ⟨l, rfl⟩ : ∃ l : Nat, k = (l : Int) := ⟨k.toNat, by omega⟩
      obtain ⟨k1, k2, k3⟩ := (h.G.1 (40 * w + g)).2.2.2.2.2.2.1 l (by omega)
      simp only [gd1 (show (0 : Int) ≤ (l : Int) ∧ (l : Int) < 3 by omega), Int.toNat_natCast, k1, p_w1 (x := 3 * ((40 * w + g : Nat) : Int)) (by omega) (by omega), p_w1 (x := 3 * ((40 * w + g : Nat) : Int) + (l : Int)) (by omega) (by omega), gd1 (show (0 : Int) ≤ 3 * ((40 * w + g : Nat) : Int) + (l : Int) ∧ 3 * ((40 * w + g : Nat) : Int) + (l : Int) < 360 by omega), show (3 * ((40 * w + g : Nat) : Int) + (l : Int)).toNat = 3 * (40 * w + g) + l by omega]
      by_cases c3 : m 8 (3 * (40 * w + g) + l) = -1
      · refine ⟨3, -13, m, ?_, ?_, eM.rf _ _, Or.inr ⟨Or.inr rfl, by decide⟩⟩
        · exact ifT c1 (ifF (by omega) (ifF c2 (ifF (by simp [c3]) rfl)))
        · exact ifT (by omega) (ifF c2 (ifF (by omega) rfl))
      · obtain ⟨t, ht⟩ : ∃ t : Nat, m 8 (3 * (40 * w + g) + l) = (t : Int) := ⟨(m 8 (3 * (40 * w + g) + l)).toNat, by omega⟩
        have r1 : (wm m 173 0 (t : Int)) 173 0 = (t : Int) := by simp [wm_at]
        have nM : eM [173] m (wm m 173 0 (t : Int)) := (by repeat first | exact eM.rf _ _ | refine eM.wm ?_ (by decide) _ _)
        have hF' : RF c (wm m 173 0 (t : Int)) := h.F.fr (fun _ _ => rfl) (fun f hf => nM.of hf rfl)
        have r3 : (wm m 173 0 (t : Int)) 3 w = m 3 w := by rw [nM 3 (by decide)]
        rw [ht]
        by_cases c4 : (t : Int) < m 3 w
        · refine ⟨0, (t : Int), wm m 173 0 (t : Int), ?_, ?_, nM, Or.inl ⟨rfl, t, rfl, c4, r1⟩⟩
          · exact ifT c1 (ifF (by omega) (ifF c2 (ifT (by omega) (ifF (by omega) rfl))))
          · refine ifT (by omega) (ifF c2 (ifT (by omega) (bX ?_)))
            rw [r1, s_noGear hw hF' (by rw [nM 100 (by decide)]; exact e1), r3, if_pos (by omega), q_some, if_pos rfl]
        · refine ⟨1, -11, wm m 173 0 (t : Int), ?_, ?_, nM, Or.inr ⟨Or.inl rfl, by decide⟩⟩
          · exact ifT c1 (ifF (by omega) (ifF c2 (ifT (by omega) (ifT (by omega) rfl))))
          · refine ifT (by omega) (ifF c2 (ifT (by omega) (bX ?_)))
            rw [r1, s_noGear hw hF' (by rw [nM 100 (by decide)]; exact e1), r3, if_neg (by omega), q_some, if_neg (by decide)]
theorem s_linkAt {b : Nat} {c : h_C} {m : h_M} (h : RR b c m) {w g : Nat} (hw : w < 3) (e1 : m 100 0 = (w : Int)) (hg : (g : Int) < m 3 w) : ∃ l : Int, 0 ≤ l ∧ l < 3 ∧ G_Gear_linkAhead (40 * w + g + 1) c = some l ∧ G_Mo_linkAt (g : Int) m = some l := by
  obtain ⟨g40, i120, hj, eK, _⟩ := h.gr hw hg
  obtain ⟨⟨a1, _⟩, ⟨b1, b2⟩, _⟩ := h.G.1 (40 * w + g)
  refine ⟨if m 5 (40 * w + g) = 5 ∨ m 5 (40 * w + g) = 6 then m 10 (40 * w + g) else 0, ?_, ?_, ?_, ?_⟩
  · split <;> omega
  · split <;> omega
  · rw [s_cLinkAhead hj, eK, a1]
  · unfold G_Mo_linkAt
    rw [s_g hw e1 g40, q_some, gd1 (by omega), Int.toNat_natCast, s_mDivert, q_some]
    by_cases k : m 5 (40 * w + g) = 5 ∨ m 5 (40 * w + g) = 6
    · rw [if_pos k, if_pos k, if_neg (by decide), q_some, gd1 (by omega), Int.toNat_natCast]
    · rw [if_neg k, if_neg k, if_pos rfl]
theorem s_inLast {b : Nat} {c : h_C} {m : h_M} (h : RR b c m) {w g : Nat} (hw : w < 3) (hg : (g : Int) < m 3 w) (hk : m 5 (40 * w + g) < 9) : ∃ k : Nat, k < 8 ∧ m 6 (40 * w + g) = ((k + 1 : Nat) : Int) ∧ G_State_inLastSlot w (40 * w + g + 1) c = G_State_inSlot w (40 * w + g + 1) (k : Int) c := by
  obtain ⟨g40, i120, hj, eK, k0, k10, eL, l0, l8, lt, ln⟩ := h.gr hw hg
  obtain ⟨k, hk'⟩ : ∃ k : Nat, m 6 (40 * w + g) = ((k + 1 : Nat) : Int) := ⟨(m 6 (40 * w + g)).toNat - 1, by have := lt hk; omega⟩
  refine ⟨k, by omega, hk', ?_⟩
  unfold G_State_inLastSlot
  rw [gd1 hj, eL, if_pos (by omega), gd1 hw, p_w1 (by omega) (by omega), show m 6 (40 * w + g) - 1 = (k : Int) by omega]
  cases G_State_inSlot w (40 * w + g + 1) (k : Int) c <;> rfl
/-! ===== a bit of a set ===== -/
theorem y_bits : ∀ t : Fin 40, (((Int32.ofInt (t.val : Int)).toInt64 &&& 63).toBitVec.smod 64 = BitVec.ofNat 64 t.val) ∧ (((Int32.ofInt (t.val : Int)).toInt64.toUInt64 &&& Int64.toUInt64 63).toBitVec % 64 = BitVec.ofNat 64 t.val) := by decide
theorem shr_eq {s : Int} (h0 : 0 ≤ s) (h1 : s < 1099511627776) {t : Nat} (ht : t < 40) : p_ushr6 s (t : Int) = p_shr6 s (t : Int) := by
  obtain ⟨y1, y2⟩ := y_bits ⟨t, ht⟩
  unfold p_ushr6 p_shr6
  have hs : (Int64.ofInt s).toBitVec.msb = false := by
    rw [BitVec.msb_eq_false_iff_two_mul_lt]
    have : (Int64.ofInt s).toBitVec = BitVec.ofInt 64 s := rfl
    rw [this, BitVec.toNat_ofInt]
    omega
  show ((((Int64.ofInt s).toUInt64 >>> ((Int32.ofInt (t : Int)).toInt64.toUInt64 &&& Int64.toUInt64 63)).toInt64).toBitVec).toInt = ((Int64.ofInt s >>> ((Int32.ofInt (t : Int)).toInt64 &&& 63)).toBitVec).toInt
  have e1 : ((((Int64.ofInt s).toUInt64 >>> ((Int32.ofInt (t : Int)).toInt64.toUInt64 &&& Int64.toUInt64 63)).toInt64).toBitVec) = (Int64.ofInt s).toBitVec >>> (((Int32.ofInt (t : Int)).toInt64.toUInt64 &&& Int64.toUInt64 63).toBitVec % 64) := rfl
  have e2 : (Int64.ofInt s >>> ((Int32.ofInt (t : Int)).toInt64 &&& 63)).toBitVec = (Int64.ofInt s).toBitVec.sshiftRight' (((Int32.ofInt (t : Int)).toInt64 &&& 63).toBitVec.smod 64) := rfl
  rw [e1, e2, y1, y2]
  show _ = ((Int64.ofInt s).toBitVec.sshiftRight (BitVec.ofNat 64 t).toNat).toInt
  rw [BitVec.sshiftRight_eq_of_msb_false hs]
  rfl
