/-! ===== the reference's holds and find look at no target ===== -/
def tv (m : h_M) (a _b : Nat → Int) : h_M := sm m 30 a
theorem tv_wm (m : h_M) (a b : Nat → Int) (f k : Nat) (x : Int) (h : f ≠ 30 ∧ f ≠ 30) : wm (tv m a b) f k x = tv (wm m f k x) a b := by
  funext g j
  simp only [tv, wm_at]
  unfold sm
  by_cases h1 : g = 30
  · subst h1
    simp [Ne.symm h.2]
  · simp [h1, wm_at]
theorem bK {β γ : Type} {e e' : h_M} {a b : Nat → Int} {k : h_M → Option γ} {k' : h_M → Option β} {r : Option β} {r' : γ} (he : e' = tv e a b) (h : p_bi e k = some r') (hk : ∀ m, k m = some r' → k' (tv m a b) = r) : p_bi e' k' = r := by
  subst he
  exact hk e h
set_option maxRecDepth 100000 in
set_option maxHeartbeats 4000000 in
theorem kB_Mo_beyond_13 (a b : Nat → Int)   (m0 : h_M) (r : Int) (h : GB_Mo_beyond_13  m0 = some r) : GB_Mo_beyond_13  (tv m0 a b) = some r := by
  unfold GB_Mo_beyond_13 at h ⊢
  cases h
  rfl
set_option maxRecDepth 100000 in
set_option maxHeartbeats 4000000 in
theorem k_Mo_beyond (a b : Nat → Int) (v0 : Int) (v2 : Int) (v4 : Int) (m0 : h_M) (r : Int) (h : G_Mo_beyond v0 v2 v4 m0 = some r) : G_Mo_beyond v0 v2 v4 (tv m0 a b) = some r := by
  unfold G_Mo_beyond at h ⊢
  refine iteC Iff.rfl h (fun b1 h => ?_) (fun b1 h => ?_)
  · exact kB_Mo_beyond_13 a b m0 _ h
  · refine iteC Iff.rfl h (fun b2 h => ?_) (fun b2 h => ?_)
    · cases h
      rfl
    · exact kB_Mo_beyond_13 a b m0 _ h
set_option maxRecDepth 100000 in
set_option maxHeartbeats 4000000 in
theorem k_Mo_g (a b : Nat → Int) (v1 : Int) (m0 : h_M) (r : Int) (h : G_Mo_g v1 m0 = some r) : G_Mo_g v1 (tv m0 a b) = some r := by
  unfold G_Mo_g at h ⊢
  cases h
  rfl
set_option maxRecDepth 100000 in
set_option maxHeartbeats 4000000 in
theorem k_Mo_noGear (a b : Nat → Int) (v1 : Int) (m0 : h_M) (r : Int) (h : G_Mo_noGear v1 m0 = some r) : G_Mo_noGear v1 (tv m0 a b) = some r := by
  unfold G_Mo_noGear at h ⊢
  obtain ⟨g1, h⟩ := p_gdE h
  refine gdT g1 ?_
  obtain ⟨r4, q2, h⟩ := q_bvE h
  refine qvC (k_Mo_beyond a b v1 0 (p_w ((m0 3 ((m0 100 0) : Int).toNat) - 1)) m0 _ q2) ?_
  obtain ⟨g6, h⟩ := p_gdE h
  refine gdT g6 ?_
  cases h
  rfl
set_option maxRecDepth 100000 in
set_option maxHeartbeats 4000000 in
theorem kB_Mo_loadOf_34 (a b : Nat → Int) (k4 : Int → Int → Int → h_M → Option Int) (hk4 : ∀ (v1 : Int) (v2 : Int) (v3 : Int) (m0 : h_M) (r : Int), k4 v1 v2 v3 m0 = some r → k4 v1 v2 v3 (tv m0 a b) = some r) (v1 : Int) (v3 : Int) (w0 : Int) (w1 : Int) (m0 : h_M) (r : Int) (h : GB_Mo_loadOf_34 k4 v1 v3 w0 w1 m0 = some r) : GB_Mo_loadOf_34 k4 v1 v3 w0 w1 (tv m0 a b) = some r := by
  unfold GB_Mo_loadOf_34 at h ⊢
  refine bV h ?_
  intro x2 h
  refine bV h ?_
  intro x3 h
  exact hk4 v1 x2 x3 m0 _ h
set_option maxRecDepth 100000 in
set_option maxHeartbeats 4000000 in
theorem kL_Mo_loadOf_4 (a b : Nat → Int) (k4 : Int → Int → Int → h_M → Option Int) (hk4 : ∀ (v1 : Int) (v2 : Int) (v3 : Int) (m0 : h_M) (r : Int), k4 v1 v2 v3 m0 = some r → k4 v1 v2 v3 (tv m0 a b) = some r) (v1 : Int) (v2 : Int) (v3 : Int) (m0 : h_M) (r : Int) (h : GL_Mo_loadOf_4 k4 v1 v2 v3 m0 = some r) : GL_Mo_loadOf_4 k4 v1 v2 v3 (tv m0 a b) = some r := by
  unfold GL_Mo_loadOf_4 at h ⊢
  obtain ⟨g1, h⟩ := p_gdE h
  refine gdT g1 ?_
  refine iteC Iff.rfl h (fun b2 h => ?_) (fun b2 h => ?_)
  · cases h
    rfl
  · obtain ⟨g3, h⟩ := p_gdE h
    refine gdT g3 ?_
    refine iteC Iff.rfl h (fun b4 h => ?_) (fun b4 h => ?_)
    · exact kB_Mo_loadOf_34 a b k4 hk4 v1 v3 0 v2 m0 _ h
    · exact kB_Mo_loadOf_34 a b k4 hk4 v1 v3 1 v2 m0 _ h
set_option maxRecDepth 100000 in
set_option maxHeartbeats 4000000 in
theorem kO_Mo_loadOf_4 (a b : Nat → Int)  : ∀ (n : Nat) (v1 : Int) (v2 : Int) (v3 : Int) (m0 : h_M) (r : Int), GO_Mo_loadOf_4 n v1 v2 v3 m0 = some r → GO_Mo_loadOf_4 n v1 v2 v3 (tv m0 a b) = some r := by
  intro n
  induction n with
  | zero => intro v1 v2 v3 m0 r h; cases h
  | succ n ih => intro v1 v2 v3 m0 r h; exact kL_Mo_loadOf_4 a b (GO_Mo_loadOf_4 n) ih v1 v2 v3 m0 r h
set_option maxRecDepth 100000 in
set_option maxHeartbeats 4000000 in
theorem k_Mo_loadOf (a b : Nat → Int) (v1 : Int) (m0 : h_M) (r : Int) (h : G_Mo_loadOf v1 m0 = some r) : G_Mo_loadOf v1 (tv m0 a b) = some r := by
  unfold G_Mo_loadOf at h ⊢
  exact kO_Mo_loadOf_4 a b 3000 v1 0 0 m0 _ h
set_option maxRecDepth 100000 in
set_option maxHeartbeats 4000000 in
theorem kB_Mo_isChute_12 (a b : Nat → Int)   (m0 : h_M) (r : Int) (h : GB_Mo_isChute_12  m0 = some r) : GB_Mo_isChute_12  (tv m0 a b) = some r := by
  unfold GB_Mo_isChute_12 at h ⊢
  cases h
  rfl
set_option maxRecDepth 100000 in
set_option maxHeartbeats 4000000 in
theorem k_Mo_isChute (a b : Nat → Int) (v0 : Int) (m0 : h_M) (r : Int) (h : G_Mo_isChute v0 m0 = some r) : G_Mo_isChute v0 (tv m0 a b) = some r := by
  unfold G_Mo_isChute at h ⊢
  refine iteC Iff.rfl h (fun b1 h => ?_) (fun b1 h => ?_)
  · exact kB_Mo_isChute_12 a b m0 _ h
  · refine iteC Iff.rfl h (fun b2 h => ?_) (fun b2 h => ?_)
    · cases h
      rfl
    · exact kB_Mo_isChute_12 a b m0 _ h
set_option maxRecDepth 100000 in
set_option maxHeartbeats 4000000 in
theorem kB_Mo_find_66 (a b : Nat → Int)  (v1 : Int) (v2 : Int) (v3 : Int) (v4 : Int) (w0 : Int) (w1 : Int) (m0 : h_M) (r : h_M) (h : GB_Mo_find_66 v1 v2 v3 v4 w0 w1 m0 = some r) : GB_Mo_find_66 v1 v2 v3 v4 w0 w1 (tv m0 a b) = some (tv r a b) := by
  unfold GB_Mo_find_66 at h ⊢
  obtain ⟨g1, h⟩ := p_gdE h
  refine gdT g1 ?_
  refine bK (tv_wm _ _ _ _ _ _ (by decide)) h ?_
  intro m2 h
  obtain ⟨g4, h⟩ := p_gdE h
  refine gdT g4 ?_
  refine bK (tv_wm _ _ _ _ _ _ (by decide)) h ?_
  intro m5 h
  obtain ⟨g7, h⟩ := p_gdE h
  refine gdT g7 ?_
  refine bK (tv_wm _ _ _ _ _ _ (by decide)) h ?_
  intro m8 h
  obtain ⟨g10, h⟩ := p_gdE h
  refine gdT g10 ?_
  refine bK (tv_wm _ _ _ _ _ _ (by decide)) h ?_
  intro m11 h
  obtain ⟨g13, h⟩ := p_gdE h
  refine gdT g13 ?_
  refine bK (tv_wm _ _ _ _ _ _ (by decide)) h ?_
  intro m14 h
  refine bK (tv_wm _ _ _ _ _ _ (by decide)) h ?_
  intro m16 h
  refine bK (tv_wm _ _ _ _ _ _ (by decide)) h ?_
  intro m18 h
  refine iteC Iff.rfl h (fun b20 h => ?_) (fun b20 h => ?_)
  · cases h
    rfl
  · obtain ⟨r23, q21, h⟩ := q_bvE h
    refine qvC (k_Mo_g a b (m18 171 0) m18 _ q21) ?_
    obtain ⟨g25, h⟩ := p_gdE h
    refine gdT g25 ?_
    refine bK (tv_wm _ _ _ _ _ _ (by decide)) h ?_
    intro m26 h
    cases h
    rfl
set_option maxRecDepth 100000 in
set_option maxHeartbeats 4000000 in
theorem k_Mo_find (a b : Nat → Int) (v1 : Int) (v2 : Int) (v3 : Int) (m0 : h_M) (r : h_M) (h : G_Mo_find v1 v2 v3 m0 = some r) : G_Mo_find v1 v2 v3 (tv m0 a b) = some (tv r a b) := by
  unfold G_Mo_find at h ⊢
  obtain ⟨g1, h⟩ := p_gdE h
  refine gdT g1 ?_
  refine bV h ?_
  intro x3 h
  obtain ⟨g4, h⟩ := p_gdE h
  refine gdT g4 ?_
  refine bK (tv_wm _ _ _ _ _ _ (by decide)) h ?_
  intro m5 h
  refine iteC Iff.rfl h (fun b7 h => ?_) (fun b7 h => ?_)
  · exact kB_Mo_find_66 a b v1 v2 v3 x3 (m5 171 0) (p_w ((p_w (5 * x3)) + 1)) m5 _ h
  · exact kB_Mo_find_66 a b v1 v2 v3 x3 (-9) (p_w ((p_w (5 * x3)) + 1)) m5 _ h
set_option maxRecDepth 100000 in
set_option maxHeartbeats 4000000 in
theorem k_Mo_follow (a b : Nat → Int) (v1 : Int) (v2 : Int) (m0 : h_M) (r : (Int × h_M)) (h : G_Mo_follow v1 v2 m0 = some r) : G_Mo_follow v1 v2 (tv m0 a b) = some (r.1, tv r.2 a b) := by
  unfold G_Mo_follow at h ⊢
  obtain ⟨r3, q1, h⟩ := q_bvE h
  refine qvC (k_Mo_g a b v1 m0 _ q1) ?_
  obtain ⟨g5, h⟩ := p_gdE h
  refine gdT g5 ?_
  refine iteC Iff.rfl h (fun b6 h => ?_) (fun b6 h => ?_)
  · refine iteC Iff.rfl h (fun b7 h => ?_) (fun b7 h => ?_)
    · cases h
      rfl
    · obtain ⟨g8, h⟩ := p_gdE h
      refine gdT g8 ?_
      refine iteC Iff.rfl h (fun b9 h => ?_) (fun b9 h => ?_)
      · refine bK (tv_wm _ _ _ _ _ _ (by decide)) h ?_
        intro m10 h
        obtain ⟨r14, q12, h⟩ := q_bvE h
        refine qvC (k_Mo_noGear a b (m10 173 0) m10 _ q12) ?_
        refine iteC Iff.rfl h (fun b16 h => ?_) (fun b16 h => ?_)
        · cases h
          rfl
        · cases h
          rfl
      · cases h
        rfl
  · cases h
    rfl
set_option maxRecDepth 100000 in
set_option maxHeartbeats 4000000 in
theorem kB_Mo_quotientOf_104 (a b : Nat → Int) (k43 : Int → Int → Int → Int → h_M → Option (Int × h_M)) (hk43 : ∀ (v1 : Int) (v2 : Int) (v3 : Int) (v4 : Int) (m0 : h_M) (r : (Int × h_M)), k43 v1 v2 v3 v4 m0 = some r → k43 v1 v2 v3 v4 (tv m0 a b) = some (r.1, tv r.2 a b)) (v1 : Int) (v2 : Int) (v4 : Int) (w0 : Int) (w1 : Int) (m0 : h_M) (r : (Int × h_M)) (h : GB_Mo_quotientOf_104 k43 v1 v2 v4 w0 w1 m0 = some r) : GB_Mo_quotientOf_104 k43 v1 v2 v4 w0 w1 (tv m0 a b) = some (r.1, tv r.2 a b) := by
  unfold GB_Mo_quotientOf_104 at h ⊢
  refine bV h ?_
  intro x2 h
  refine bV h ?_
  intro x3 h
  exact hk43 v1 v2 x2 x3 m0 _ h
set_option maxRecDepth 100000 in
set_option maxHeartbeats 4000000 in
theorem kB_Mo_quotientOf_103 (a b : Nat → Int) (k43 : Int → Int → Int → Int → h_M → Option (Int × h_M)) (hk43 : ∀ (v1 : Int) (v2 : Int) (v3 : Int) (v4 : Int) (m0 : h_M) (r : (Int × h_M)), k43 v1 v2 v3 v4 m0 = some r → k43 v1 v2 v3 v4 (tv m0 a b) = some (r.1, tv r.2 a b)) (v1 : Int) (v2 : Int) (v4 : Int) (w0 : Int) (m0 : h_M) (r : (Int × h_M)) (h : GB_Mo_quotientOf_103 k43 v1 v2 v4 w0 m0 = some r) : GB_Mo_quotientOf_103 k43 v1 v2 v4 w0 (tv m0 a b) = some (r.1, tv r.2 a b) := by
  unfold GB_Mo_quotientOf_103 at h ⊢
  exact kB_Mo_quotientOf_104 a b k43 hk43 v1 v2 v4 0 w0 m0 _ h
set_option maxRecDepth 100000 in
set_option maxHeartbeats 4000000 in
theorem kL_Mo_quotientOf_43 (a b : Nat → Int) (k43 : Int → Int → Int → Int → h_M → Option (Int × h_M)) (hk43 : ∀ (v1 : Int) (v2 : Int) (v3 : Int) (v4 : Int) (m0 : h_M) (r : (Int × h_M)), k43 v1 v2 v3 v4 m0 = some r → k43 v1 v2 v3 v4 (tv m0 a b) = some (r.1, tv r.2 a b)) (v1 : Int) (v2 : Int) (v3 : Int) (v4 : Int) (m0 : h_M) (r : (Int × h_M)) (h : GL_Mo_quotientOf_43 k43 v1 v2 v3 v4 m0 = some r) : GL_Mo_quotientOf_43 k43 v1 v2 v3 v4 (tv m0 a b) = some (r.1, tv r.2 a b) := by
  unfold GL_Mo_quotientOf_43 at h ⊢
  obtain ⟨g1, h⟩ := p_gdE h
  refine gdT g1 ?_
  refine iteC Iff.rfl h (fun b2 h => ?_) (fun b2 h => ?_)
  · refine iteC Iff.rfl h (fun b3 h => ?_) (fun b3 h => ?_)
    · obtain ⟨r6, q4, h⟩ := q_bvE h
      refine qvC (k_Mo_loadOf a b v2 m0 _ q4) ?_
      obtain ⟨g8, h⟩ := p_gdE h
      refine gdT g8 ?_
      refine bK (tv_wm _ _ _ _ _ _ (by decide)) h ?_
      intro m9 h
      cases h
      rfl
    · cases h
      rfl
  · obtain ⟨r13, m14, q11, h⟩ := q_bdE h
    refine qdC (k_Mo_follow a b v1 v4 m0 _ q11) ?_
    refine iteC Iff.rfl h (fun b16 h => ?_) (fun b16 h => ?_)
    · exact kB_Mo_quotientOf_103 a b k43 hk43 v1 v2 v4 v3 m14 _ h
    · obtain ⟨r19, q17, h⟩ := q_bvE h
      refine qvC (k_Mo_g a b (m14 173 0) m14 _ q17) ?_
      obtain ⟨g21, h⟩ := p_gdE h
      refine gdT g21 ?_
      refine iteC Iff.rfl h (fun b22 h => ?_) (fun b22 h => ?_)
      · exact kB_Mo_quotientOf_103 a b k43 hk43 v1 v2 v4 v3 m14 _ h
      · obtain ⟨r25, q23, h⟩ := q_bvE h
        refine qvC (k_Mo_g a b (m14 173 0) m14 _ q23) ?_
        obtain ⟨g27, h⟩ := p_gdE h
        refine gdT g27 ?_
        refine iteC Iff.rfl h (fun b28 h => ?_) (fun b28 h => ?_)
        · exact kB_Mo_quotientOf_103 a b k43 hk43 v1 v2 v4 v3 m14 _ h
        · exact kB_Mo_quotientOf_104 a b k43 hk43 v1 v2 v4 1 v3 m14 _ h
set_option maxRecDepth 100000 in
set_option maxHeartbeats 4000000 in
theorem kO_Mo_quotientOf_43 (a b : Nat → Int)  : ∀ (n : Nat) (v1 : Int) (v2 : Int) (v3 : Int) (v4 : Int) (m0 : h_M) (r : (Int × h_M)), GO_Mo_quotientOf_43 n v1 v2 v3 v4 m0 = some r → GO_Mo_quotientOf_43 n v1 v2 v3 v4 (tv m0 a b) = some (r.1, tv r.2 a b) := by
  intro n
  induction n with
  | zero => intro v1 v2 v3 v4 m0 r h; cases h
  | succ n ih => intro v1 v2 v3 v4 m0 r h; exact kL_Mo_quotientOf_43 a b (GO_Mo_quotientOf_43 n) ih v1 v2 v3 v4 m0 r h
set_option maxRecDepth 100000 in
set_option maxHeartbeats 4000000 in
theorem k_Mo_quotientOf (a b : Nat → Int) (v1 : Int) (m0 : h_M) (r : (Int × h_M)) (h : G_Mo_quotientOf v1 m0 = some r) : G_Mo_quotientOf v1 (tv m0 a b) = some (r.1, tv r.2 a b) := by
  unfold G_Mo_quotientOf at h ⊢
  refine iteC Iff.rfl h (fun b1 h => ?_) (fun b1 h => ?_)
  · obtain ⟨r4, q2, h⟩ := q_bvE h
    refine qvC (k_Mo_noGear a b v1 m0 _ q2) ?_
    refine iteC Iff.rfl h (fun b6 h => ?_) (fun b6 h => ?_)
    · obtain ⟨r9, q7, h⟩ := q_bvE h
      refine qvC (k_Mo_g a b v1 m0 _ q7) ?_
      obtain ⟨g11, h⟩ := p_gdE h
      refine gdT g11 ?_
      obtain ⟨r14, q12, h⟩ := q_bvE h
      refine qvC (k_Mo_isChute a b (m0 5 (r9 : Int).toNat) m0 _ q12) ?_
      refine iteC Iff.rfl h (fun b16 h => ?_) (fun b16 h => ?_)
      · exact kO_Mo_quotientOf_43 a b 3000 v1 r9 0 0 m0 _ h
      · cases h
        rfl
    · cases h
      rfl
  · cases h
    rfl
set_option maxRecDepth 100000 in
set_option maxHeartbeats 4000000 in
theorem kB_Mo_holds_205 (a b : Nat → Int) (k14 : Int → Int → Int → h_M → Option (Int × h_M)) (hk14 : ∀ (v1 : Int) (v2 : Int) (v3 : Int) (m0 : h_M) (r : (Int × h_M)), k14 v1 v2 v3 m0 = some r → k14 v1 v2 v3 (tv m0 a b) = some (r.1, tv r.2 a b)) (v1 : Int) (v2 : Int) (v3 : Int) (w0 : Int) (m0 : h_M) (r : (Int × h_M)) (h : GB_Mo_holds_205 k14 v1 v2 v3 w0 m0 = some r) : GB_Mo_holds_205 k14 v1 v2 v3 w0 (tv m0 a b) = some (r.1, tv r.2 a b) := by
  unfold GB_Mo_holds_205 at h ⊢
  refine iteC Iff.rfl h (fun b1 h => ?_) (fun b1 h => ?_)
  · refine bV h ?_
    intro x2 h
    exact hk14 v1 v2 x2 m0 _ h
  · cases h
    rfl
set_option maxRecDepth 100000 in
set_option maxHeartbeats 4000000 in
theorem kB_Mo_holds_129 (a b : Nat → Int) (k14 : Int → Int → Int → h_M → Option (Int × h_M)) (hk14 : ∀ (v1 : Int) (v2 : Int) (v3 : Int) (m0 : h_M) (r : (Int × h_M)), k14 v1 v2 v3 m0 = some r → k14 v1 v2 v3 (tv m0 a b) = some (r.1, tv r.2 a b)) (v1 : Int) (v2 : Int) (v3 : Int) (v5 : Int) (m0 : h_M) (r : (Int × h_M)) (h : GB_Mo_holds_129 k14 v1 v2 v3 v5 m0 = some r) : GB_Mo_holds_129 k14 v1 v2 v3 v5 (tv m0 a b) = some (r.1, tv r.2 a b) := by
  unfold GB_Mo_holds_129 at h ⊢
  obtain ⟨g1, h⟩ := p_gdE h
  refine gdT g1 ?_
  refine iteC Iff.rfl h (fun b2 h => ?_) (fun b2 h => ?_)
  · refine iteC Iff.rfl h (fun b3 h => ?_) (fun b3 h => ?_)
    · refine iteC Iff.rfl h (fun b4 h => ?_) (fun b4 h => ?_)
      · exact kB_Mo_holds_205 a b k14 hk14 v1 v2 v3 0 m0 _ h
      · exact kB_Mo_holds_205 a b k14 hk14 v1 v2 v3 1 m0 _ h
    · refine iteC Iff.rfl h (fun b5 h => ?_) (fun b5 h => ?_)
      · exact kB_Mo_holds_205 a b k14 hk14 v1 v2 v3 0 m0 _ h
      · exact kB_Mo_holds_205 a b k14 hk14 v1 v2 v3 1 m0 _ h
  · refine iteC Iff.rfl h (fun b6 h => ?_) (fun b6 h => ?_)
    · exact kB_Mo_holds_205 a b k14 hk14 v1 v2 v3 0 m0 _ h
    · exact kB_Mo_holds_205 a b k14 hk14 v1 v2 v3 1 m0 _ h
set_option maxRecDepth 100000 in
set_option maxHeartbeats 4000000 in
theorem kB_Mo_holds_87 (a b : Nat → Int) (k14 : Int → Int → Int → h_M → Option (Int × h_M)) (hk14 : ∀ (v1 : Int) (v2 : Int) (v3 : Int) (m0 : h_M) (r : (Int × h_M)), k14 v1 v2 v3 m0 = some r → k14 v1 v2 v3 (tv m0 a b) = some (r.1, tv r.2 a b)) (v1 : Int) (v2 : Int) (v3 : Int) (v4 : Int) (w0 : Int) (m0 : h_M) (r : (Int × h_M)) (h : GB_Mo_holds_87 k14 v1 v2 v3 v4 w0 m0 = some r) : GB_Mo_holds_87 k14 v1 v2 v3 v4 w0 (tv m0 a b) = some (r.1, tv r.2 a b) := by
  unfold GB_Mo_holds_87 at h ⊢
  refine iteC Iff.rfl h (fun b1 h => ?_) (fun b1 h => ?_)
  · exact kB_Mo_holds_129 a b k14 hk14 v1 v2 v3 w0 m0 _ h
  · obtain ⟨g2, h⟩ := p_gdE h
    refine gdT g2 ?_
    obtain ⟨r5, m6, q3, h⟩ := q_bdE h
    refine qdC (k_Mo_quotientOf a b (m0 53 (v3 : Int).toNat) m0 _ q3) ?_
    refine iteC Iff.rfl h (fun b8 h => ?_) (fun b8 h => ?_)
    · refine bV h ?_
      intro x10 h
      exact kB_Mo_holds_129 a b k14 hk14 v1 v2 v3 x10 m6 _ h
    · obtain ⟨m13, q11, h⟩ := q_bvE h
      refine qvC (k_Mo_find a b 3 r5 v1 m6 _ q11) ?_
      cases h
      rfl
set_option maxRecDepth 100000 in
set_option maxHeartbeats 4000000 in
theorem kL_Mo_holds_14 (a b : Nat → Int) (k14 : Int → Int → Int → h_M → Option (Int × h_M)) (hk14 : ∀ (v1 : Int) (v2 : Int) (v3 : Int) (m0 : h_M) (r : (Int × h_M)), k14 v1 v2 v3 m0 = some r → k14 v1 v2 v3 (tv m0 a b) = some (r.1, tv r.2 a b)) (v1 : Int) (v2 : Int) (v3 : Int) (m0 : h_M) (r : (Int × h_M)) (h : GL_Mo_holds_14 k14 v1 v2 v3 m0 = some r) : GL_Mo_holds_14 k14 v1 v2 v3 (tv m0 a b) = some (r.1, tv r.2 a b) := by
  unfold GL_Mo_holds_14 at h ⊢
  obtain ⟨g1, h⟩ := p_gdE h
  refine gdT g1 ?_
  refine iteC Iff.rfl h (fun b2 h => ?_) (fun b2 h => ?_)
  · cases h
    rfl
  · obtain ⟨g3, h⟩ := p_gdE h
    refine gdT g3 ?_
    refine bV h ?_
    intro x5 h
    refine iteC Iff.rfl h (fun b6 h => ?_) (fun b6 h => ?_)
    · refine iteC Iff.rfl h (fun b7 h => ?_) (fun b7 h => ?_)
      · refine iteC Iff.rfl h (fun b8 h => ?_) (fun b8 h => ?_)
        · obtain ⟨g9, h⟩ := p_gdE h
          refine gdT g9 ?_
          exact kB_Mo_holds_87 a b k14 hk14 v1 v2 v3 x5 (m0 4 ((m0 100 0) : Int).toNat) m0 _ h
        · exact kB_Mo_holds_87 a b k14 hk14 v1 v2 v3 x5 (m0 177 0) m0 _ h
      · exact kB_Mo_holds_87 a b k14 hk14 v1 v2 v3 x5 (m0 176 0) m0 _ h
    · exact kB_Mo_holds_87 a b k14 hk14 v1 v2 v3 x5 (m0 175 0) m0 _ h
set_option maxRecDepth 100000 in
set_option maxHeartbeats 4000000 in
theorem kO_Mo_holds_14 (a b : Nat → Int)  : ∀ (n : Nat) (v1 : Int) (v2 : Int) (v3 : Int) (m0 : h_M) (r : (Int × h_M)), GO_Mo_holds_14 n v1 v2 v3 m0 = some r → GO_Mo_holds_14 n v1 v2 v3 (tv m0 a b) = some (r.1, tv r.2 a b) := by
  intro n
  induction n with
  | zero => intro v1 v2 v3 m0 r h; cases h
  | succ n ih => intro v1 v2 v3 m0 r h; exact kL_Mo_holds_14 a b (GO_Mo_holds_14 n) ih v1 v2 v3 m0 r h
set_option maxRecDepth 100000 in
set_option maxHeartbeats 4000000 in
theorem k_Mo_holds (a b : Nat → Int) (v1 : Int) (m0 : h_M) (r : (Int × h_M)) (h : G_Mo_holds v1 m0 = some r) : G_Mo_holds v1 (tv m0 a b) = some (r.1, tv r.2 a b) := by
  unfold G_Mo_holds at h ⊢
  refine bV h ?_
  intro x2 h
  refine bV h ?_
  intro x4 h
  exact kO_Mo_holds_14 a b 3000 v1 x2 x4 m0 _ h
