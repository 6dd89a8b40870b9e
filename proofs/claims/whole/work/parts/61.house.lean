/-! ===== how calls end, in both ===== -/
def PR (b : Nat) (x : Option (Int × h_C)) (y : Option (Int × h_M)) : Prop := ∃ r c' m', x = some (r, c') ∧ y = some (r, m') ∧ RR b c' m' ∧ c' 607 0 0 = m' 102 0
theorem RR.w {b : Nat} {c : h_C} {m : h_M} (h : RR b c m) : ∃ w : Nat, w < 3 ∧ m 100 0 = (w : Int) ∧ c 5000 0 0 = (w : Int) := by
  obtain ⟨a1, a2, a3, _⟩ := h.A
  exact ⟨(m 100 0).toNat, by omega, by omega, by omega⟩
theorem pr_refuse {b : Nat} {c : h_C} {m : h_M} (h : RR b c m) (v : Int) (hv : -11 < v ∨ v < -16) (hE : c 607 0 0 = m 102 0 := by first | assumption | (simp [wc_at, wm_at, sr_at]; assumption)) : PR b (G_SW_refuse v c) (G_Mo_refused v m) := by
  refine ⟨v, wc c 608 0 0 v, wm m 101 0 v, ?_, rfl, ?_, by simp [wc_at, wm_at, hE]⟩
  · unfold G_SW_refuse
    by_cases h1 : -11 < v
    · exact ifT h1 rfl
    · exact ifF h1 (ifT (by omega) rfl)
  · have hA := h.A
    exact (RR.gen [608] [101] h (by repeat first | exact eC.rf _ _ | refine eC.wc ?_ (by decide) _ _ _ | refine eC.sr ?_ (by decide) _ _) (by repeat first | exact eM.rf _ _ | refine eM.wm ?_ (by decide) _ _) (Or.inr (by obtain ⟨a1, a2, a3, a4, a5, a6, a7, a8, a9, a10⟩ := hA; simp +contextual [RA, wc_at, wm_at, a1, a2, a3, a4, a5, a6, a7, a8, a9, a10])) (Or.inl ⟨rfl, rfl⟩) (Or.inl ⟨rfl, rfl⟩) (Or.inl ⟨rfl, rfl⟩) (Or.inl ⟨rfl, rfl⟩) (Or.inl ⟨rfl, rfl⟩) (Or.inl ⟨rfl, rfl⟩) (Or.inl ⟨rfl, rfl⟩) (Or.inl ⟨rfl, rfl⟩) (Or.inl ⟨rfl, rfl⟩) (Or.inl ⟨rfl, rfl⟩) (Or.inl ⟨rfl, rfl⟩))
theorem pr_fault {b : Nat} {c : h_C} {m : h_M} (h : RR b c m) (v f : Int) (hv : v = -10 - f) (h1 : 1 ≤ f) (h6 : f ≤ 6) (hE : c 607 0 0 = m 102 0 := by first | assumption | (simp [wc_at, wm_at, sr_at]; assumption)) : PR b (G_SW_refuse v c) (G_Mo_faulted f m) := by
  have hA := h.A
  refine ⟨v, wc (wc c 607 0 0 (p_w (c 607 0 0 + 1))) 608 0 0 v, wm (wm m 102 0 (p_w (m 102 0 + 1))) 101 0 v, ?_, ?_, ?_, by simp [wc_at, wm_at, hE]⟩
  · unfold G_SW_refuse
    exact ifF (by omega) (ifF (by omega) rfl)
  · unfold G_Mo_faulted
    refine bX (bX ?_)
    rw [p_w1 (x := -10 - f) (by omega) (by omega), ← hv]
    simp [wm_at]
  · exact (RR.gen [607, 608] [102, 101] h (by repeat first | exact eC.rf _ _ | refine eC.wc ?_ (by decide) _ _ _ | refine eC.sr ?_ (by decide) _ _) (by repeat first | exact eM.rf _ _ | refine eM.wm ?_ (by decide) _ _) (Or.inr (by obtain ⟨a1, a2, a3, a4, a5, a6, a7, a8, a9, a10⟩ := hA; simp +contextual [RA, wc_at, wm_at, a1, a2, a3, a4, a5, a6, a7, a8, a9, a10, (p_w_c (m 102 0 + 1)).1, (p_w_c (m 102 0 + 1)).2])) (Or.inl ⟨rfl, rfl⟩) (Or.inl ⟨rfl, rfl⟩) (Or.inl ⟨rfl, rfl⟩) (Or.inl ⟨rfl, rfl⟩) (Or.inl ⟨rfl, rfl⟩) (Or.inl ⟨rfl, rfl⟩) (Or.inl ⟨rfl, rfl⟩) (Or.inl ⟨rfl, rfl⟩) (Or.inl ⟨rfl, rfl⟩) (Or.inl ⟨rfl, rfl⟩) (Or.inl ⟨rfl, rfl⟩))
theorem pr_done {b : Nat} {c : h_C} {m : h_M} (h : RR b c m) (v : Int) (hE : c 607 0 0 = m 102 0 := by first | assumption | (simp [wc_at, wm_at, sr_at]; assumption)) : PR b (G_SW_done v c) (G_Mo_well v m) := by
  refine ⟨v, wc c 608 0 0 0, wm m 101 0 0, rfl, rfl, ?_, by simp [wc_at, wm_at, hE]⟩
  have hA := h.A
  exact (RR.gen [608] [101] h (by repeat first | exact eC.rf _ _ | refine eC.wc ?_ (by decide) _ _ _ | refine eC.sr ?_ (by decide) _ _) (by repeat first | exact eM.rf _ _ | refine eM.wm ?_ (by decide) _ _) (Or.inr (by obtain ⟨a1, a2, a3, a4, a5, a6, a7, a8, a9, a10⟩ := hA; simp +contextual [RA, wc_at, wm_at, a1, a2, a3, a4, a5, a6, a7, a8, a9, a10])) (Or.inl ⟨rfl, rfl⟩) (Or.inl ⟨rfl, rfl⟩) (Or.inl ⟨rfl, rfl⟩) (Or.inl ⟨rfl, rfl⟩) (Or.inl ⟨rfl, rfl⟩) (Or.inl ⟨rfl, rfl⟩) (Or.inl ⟨rfl, rfl⟩) (Or.inl ⟨rfl, rfl⟩) (Or.inl ⟨rfl, rfl⟩) (Or.inl ⟨rfl, rfl⟩) (Or.inl ⟨rfl, rfl⟩))
theorem RK.forget {b : Nat} {c : h_C} {m : h_M} (h : RK b c m) {w : Nat} (hw : w < 3) : RK b (wc c 213 w 0 0) (wm m 81 w 0) := by
  intro w' hw'
  obtain ⟨h1, h2⟩ := h w' hw'
  by_cases e : w' = w
  · subst e
    refine ⟨?_, fun j hj => ?_⟩
    · simpa [wc_at, wm_at] using h1.2.2.2
    · simp [wm_at] at hj
      omega
  · have k1 : ∀ f, f ≠ 213 → wc c 213 w 0 0 f = c f := fun f hf => by show sr c 213 w _ f = c f; rw [sr_nf hf]
    have k2 : ∀ f, f ≠ 81 → wm m 81 w 0 f = m f := fun f hf => by show sm m 81 _ f = m f; rw [sm_n hf]
    have e1 : wc c 213 w 0 0 213 w' 0 = c 213 w' 0 := by simp [wc_at, e]
    have e2 : wm m 81 w 0 81 w' = m 81 w' := by simp [wm_at, e]
    have e3 : ∀ j, kx (wc c 213 w 0 0) w' j = kx c w' j := fun j => by unfold kx; rw [e1, k1 212 (by decide)]
    have e4 : ∀ j, ky (wm m 81 w 0) w' j = ky m w' j := fun j => by unfold ky; rw [k2 82 (by decide)]
    refine ⟨?_, fun j hj => ?_⟩
    · rw [e1, e2, k1 212 (by decide), k2 82 (by decide)]
      exact h1
    · rw [e2] at hj
      have := h2 j hj
      unfold KS KP kpos at this ⊢
      simp only [e3, e4, k1 2004 (by decide), k1 2006 (by decide), k1 2007 (by decide), k1 2013 (by decide), k1 2016 (by decide), k2 3 (by decide), k2 5 (by decide), k2 6 (by decide), k2 24 (by decide), k2 25 (by decide), k2 28 (by decide), k2 29 (by decide), k2 48 (by decide), k2 83 (by decide), k2 123 (by decide)]
      exact this
theorem pr_built {b : Nat} {c : h_C} {m : h_M} (h : RR b c m) (v : Int) (hE : c 607 0 0 = m 102 0 := by first | assumption | (simp [wc_at, wm_at, sr_at]; assumption)) : PR b (G_SW_built v c) (G_Mo_built v m) := by
  obtain ⟨w, hw, e1, e2⟩ := h.w
  obtain ⟨r, c', m', x1, x2, x3⟩ := pr_done (b := b) (c := wc c 213 w 0 0) (m := wm m 81 w 0) (RR.gen [213] [81] h (by repeat first | exact eC.rf _ _ | refine eC.wc ?_ (by decide) _ _ _ | refine eC.sr ?_ (by decide) _ _) (by repeat first | exact eM.rf _ _ | refine eM.wm ?_ (by decide) _ _) (Or.inl ⟨rfl, rfl⟩) (Or.inl ⟨rfl, rfl⟩) (Or.inl ⟨rfl, rfl⟩) (Or.inl ⟨rfl, rfl⟩) (Or.inl ⟨rfl, rfl⟩) (Or.inl ⟨rfl, rfl⟩) (Or.inl ⟨rfl, rfl⟩) (Or.inl ⟨rfl, rfl⟩) (Or.inl ⟨rfl, rfl⟩) (Or.inl ⟨rfl, rfl⟩) (Or.inl ⟨rfl, rfl⟩) (Or.inr (h.K.forget hw))) v
  refine ⟨r, c', m', ?_, ?_, x3⟩
  · unfold G_SW_built
    simp only [e2, q_eta]
    refine gdT (by omega) (qvC (s := wc c 213 w 0 0) ?_ x1)
    unfold G_Works_forget
    rw [Int.toNat_natCast]
    exact gdT hw rfl
  · unfold G_Mo_built
    simp only [e1, q_eta]
    exact gdT (by omega) (bX (by rw [Int.toNat_natCast]; exact x2))
/-! ===== small helpers of both ===== -/
theorem s_beyond (v lo hi : Int) (m : h_M) : G_Mo_beyond v lo hi m = some (if lo ≤ v ∧ v ≤ hi then 0 else 1) := by
  have e : ∀ x y : Int, (p_cmp x y < 0 ↔ x < y) ∧ (p_cmp x y ≤ 0 ↔ x ≤ y) := fun x y => by
    unfold p_cmp
    by_cases h1 : x < y
    · simp [h1]; omega
    · by_cases h2 : x = y
      · simp [h2]
      · simp [h1, h2]; omega
  unfold G_Mo_beyond
  by_cases h1 : v < lo
  · refine ifT ((e _ _).1.mpr h1) ?_
    rw [if_neg (by omega)]
    rfl
  · refine ifF (fun w => h1 ((e _ _).1.mp w)) ?_
    by_cases h2 : v ≤ hi
    · refine ifT ((e _ _).2.mpr h2) ?_
      rw [if_pos ⟨by omega, h2⟩]
    · refine ifF (fun w => h2 ((e _ _).2.mp w)) ?_
      rw [if_neg (by omega)]
      rfl
theorem s_beyond0 {v lo hi : Int} (m : h_M) (h : lo ≤ v ∧ v ≤ hi) : G_Mo_beyond v lo hi m = some 0 := by rw [s_beyond, if_pos h]
theorem s_beyond1 {v lo hi : Int} (m : h_M) (h : ¬ (lo ≤ v ∧ v ≤ hi)) : G_Mo_beyond v lo hi m = some 1 := by rw [s_beyond, if_neg h]
theorem pr_works {b : Nat} {c : h_C} {m : h_M} (h : RR b c m) (hE : c 607 0 0 = m 102 0) (v1 : Int) : PR b (G_SW_works v1 c) (G_Mo_works v1 m) := by
  obtain ⟨w, hw, e1, e2⟩ := h.w
  have hA := h.A
  by_cases hv : 0 ≤ v1 ∧ v1 ≤ 2
  · obtain ⟨w', rfl⟩ : ∃ w' : Nat, v1 = (w' : Int) := ⟨v1.toNat, by omega⟩
    have hR : RR b (wc c 5000 0 0 (w' : Int)) (wm m 100 0 (w' : Int)) := (RR.gen [5000] [100] h (by repeat first | exact eC.rf _ _ | refine eC.wc ?_ (by decide) _ _ _ | refine eC.sr ?_ (by decide) _ _) (by repeat first | exact eM.rf _ _ | refine eM.wm ?_ (by decide) _ _) (Or.inr (by obtain ⟨a1, a2, a3, a4, a5, a6, a7, a8, a9, a10⟩ := hA; simp +contextual [RA, wc_at, wm_at, a4, a5, a6, a7, a8, a9, a10]; omega)) (Or.inl ⟨rfl, rfl⟩) (Or.inl ⟨rfl, rfl⟩) (Or.inl ⟨rfl, rfl⟩) (Or.inl ⟨rfl, rfl⟩) (Or.inl ⟨rfl, rfl⟩) (Or.inl ⟨rfl, rfl⟩) (Or.inl ⟨rfl, rfl⟩) (Or.inl ⟨rfl, rfl⟩) (Or.inl ⟨rfl, rfl⟩) (Or.inl ⟨rfl, rfl⟩) (Or.inl ⟨rfl, rfl⟩))
    obtain ⟨r, c', m', x1, x2, x3⟩ := pr_done hR (w : Int)
    refine ⟨r, c', m', ?_, ?_, x3⟩
    · unfold G_SW_works
      refine ifF (by omega) (ifT (by omega) (gdT (by omega) (bX (gdT (by omega) (bX ?_)))))
      simp only [q_eta, e2, Int.toNat_natCast]
      rw [hA.2.2.2.2.2.2.2.2.2 w hw]
      exact x1
    · unfold G_Mo_works
      refine qvC (s_beyond0 m hv) (ifT rfl (bX (bX ?_)))
      rw [q_eta, e1]
      exact x2
  · obtain ⟨r, c', m', x1, x2, x3⟩ := pr_refuse h (-1) (by omega)
    refine ⟨r, c', m', ?_, ?_, x3⟩
    · unfold G_SW_works GB_SW_works_9
      rw [q_eta]
      by_cases h0 : v1 < 0
      · exact ifT h0 x1
      · exact ifF h0 (ifF (by omega) x1)
    · unfold G_Mo_works
      refine qvC (s_beyond1 m hv) (ifF (by decide) ?_)
      rw [q_eta]
      exact x2
