set_option maxRecDepth 100000 in
set_option maxHeartbeats 4000000 in
theorem tB_La_law_1701 (K : p_K) (l : Launch) (n9 : Nat) (t9 : Nat → Int) (he1 : n9 = p_tl K 9) (he2 : t9 = p_tv K 9) (k18 : Nat → Nat → Int → p_Hp → Option (Int × p_Hp)) (hk18 : ∀ (v1 : Nat) (v2 : Nat) (v3 : Int)  (s0 : p_Hp) (r : (Int × p_Hp)), k18 v1 v2 v3 s0 = some r → p_Go K l m_La_law 18 [(0, p_s 9), (1, p_r v1), (2, p_r v2), (3, p_i v3)] [] s0 (some (p_i r.1), r.2)) (v1 : Nat) (v2 : Nat) (v3 : Int) (s0 : p_Hp) (r : (Int × p_Hp)) (h : B_La_law_1701 n9 t9 k18 v1 v2 v3 s0 = some r) : p_Go K l m_La_law 1701 [(0, p_s 9), (1, p_r v1), (2, p_r v2), (3, p_i v3)] [] s0 (some (p_i r.1), r.2) := by
  unfold B_La_law_1701 at h
  refine g_iinc (j := 3) [(3, p_i (p_w (v3 + 6))), (0, p_s 9), (1, p_r v1), (2, p_r v2)] (dk_La_law_29 29 rfl) rfl (by decide) rfl ?_
  refine p_ltG (P := fun q => p_Go K l m_La_law 1704 [(3, p_i q), (0, p_s 9), (1, p_r v1), (2, p_r v2)] [] s0 _) ?_ h
  intro x1 h
  refine g_goto 18 (dk_La_law_29 30 rfl) (by decide) ?_
  refine g_sub [(0, p_s 9), (1, p_r v1), (2, p_r v2), (3, p_i x1)] [1, 2, 3, 0] rfl ?_
  exact hk18 v1 v2 x1 s0 _ h
set_option maxRecDepth 100000 in
set_option maxHeartbeats 4000000 in
theorem tB_La_law_429 (K : p_K) (l : Launch) (n9 : Nat) (t9 : Nat → Int) (he1 : n9 = p_tl K 9) (he2 : t9 = p_tv K 9) (k18 : Nat → Nat → Int → p_Hp → Option (Int × p_Hp)) (hk18 : ∀ (v1 : Nat) (v2 : Nat) (v3 : Int)  (s0 : p_Hp) (r : (Int × p_Hp)), k18 v1 v2 v3 s0 = some r → p_Go K l m_La_law 18 [(0, p_s 9), (1, p_r v1), (2, p_r v2), (3, p_i v3)] [] s0 (some (p_i r.1), r.2)) (v1 : Nat) (v2 : Nat) (v3 : Int) (w0 : Int) (w1 : Int) (w2 : Int) (w3 : Int) (w4 : Nat) (w5 : Int) (s0 : p_Hp) (r : (Int × p_Hp)) (h : B_La_law_429 n9 t9 k18 v1 v2 v3 w0 w1 w2 w3 w4 w5 s0 = some r) : p_Go K l m_La_law 429 [(0, p_s 9), (1, p_r v1), (2, p_r v2), (3, p_i v3)] [p_i w0, p_i w1, p_i w2, p_i w3, p_r w4, p_i w5] s0 (some (p_i r.1), r.2) := by
  unfold B_La_law_429 at h
  obtain ⟨c1, h⟩ := p_gdE h
  obtain ⟨r6, s2, q3, h⟩ := p_bdE h
  have t4 := tF_Mo_aim K l w4 w3 w2 w1 w0 s0 _ q3
  refine g_callV (a := w4) (ci := 11) (q0 := (RX11, TX11, 90)) (As := [p_i w3, p_i w2, p_i w1, p_i w0]) (rest := [p_i w5]) [p_i r6, p_i w5] mt_Mo_aim rfl rfl tw_7_119 tw_7_120 tw_7_118 ⟨Nat.le_of_ble_eq_true rfl, Nat.le_of_ble_eq_true rfl⟩ rfl (Nat.le_of_ble_eq_true rfl) (dk_La_law_4 21 rfl) rfl c1 rfl t4 ?_
  have hs5 : p_x s0 s2 := t4.1
  show p_Go K l m_La_law 432 [(0, p_s 9), (1, p_r v1), (2, p_r v2), (3, p_i v3)] [p_i r6, p_i w5] s2 _
  refine g_icmp_eq 1701 (dk_La_law_4 22 rfl) (by decide) (fun b7 => ?_) (fun b7 => ?_)
  · have h := p_ifT b7 h
    exact tB_La_law_1701 K l n9 t9 he1 he2 k18 hk18 v1 v2 v3 s2 _ h
  · have h := p_ifF b7 h
    refine g_iconst (dk_La_law_4 23 rfl) (by decide) ?_
    cases h
    exact g_ret rfl rfl (dk_La_law_4 24 rfl) (fun _ => ⟨_, rfl, Or.inl rfl⟩)
set_option maxRecDepth 100000 in
set_option maxHeartbeats 4000000 in
theorem tB_La_law_397 (K : p_K) (l : Launch) (n9 : Nat) (t9 : Nat → Int) (he1 : n9 = p_tl K 9) (he2 : t9 = p_tv K 9) (k18 : Nat → Nat → Int → p_Hp → Option (Int × p_Hp)) (hk18 : ∀ (v1 : Nat) (v2 : Nat) (v3 : Int)  (s0 : p_Hp) (r : (Int × p_Hp)), k18 v1 v2 v3 s0 = some r → p_Go K l m_La_law 18 [(0, p_s 9), (1, p_r v1), (2, p_r v2), (3, p_i v3)] [] s0 (some (p_i r.1), r.2)) (v1 : Nat) (v2 : Nat) (v3 : Int) (w0 : Int) (w1 : Int) (w2 : Int) (w3 : Int) (w4 : Nat) (s0 : p_Hp) (r : (Int × p_Hp)) (h : B_La_law_397 n9 t9 k18 v1 v2 v3 w0 w1 w2 w3 w4 s0 = some r) : p_Go K l m_La_law 397 [(0, p_s 9), (1, p_r v1), (2, p_r v2), (3, p_i v3)] [p_i w0, p_i w1, p_i w2, p_i w3, p_r w4] s0 (some (p_i r.1), r.2) := by
  unfold B_La_law_397 at h
  obtain ⟨c1, h⟩ := p_gdE h
  obtain ⟨r6, s2, q3, h⟩ := p_bdE h
  have t4 := tF_SW_aim K l w4 w3 w2 w1 w0 s0 _ q3
  refine g_callV (a := w4) (ci := 10) (q0 := (RX10, TX10, 9)) (As := [p_i w3, p_i w2, p_i w1, p_i w0]) (rest := []) [p_i r6] mt_SW_aim rfl rfl tw_3_115 tw_3_116 tw_3_114 ⟨Nat.le_of_ble_eq_true rfl, Nat.le_of_ble_eq_true rfl⟩ rfl (Nat.le_of_ble_eq_true rfl) (dk_La_law_3 35 rfl) rfl c1 rfl t4 ?_
  have hs5 : p_x s0 s2 := t4.1
  show p_Go K l m_La_law 400 [(0, p_s 9), (1, p_r v1), (2, p_r v2), (3, p_i v3)] [p_i r6] s2 _
  refine g_aload_n (i := 2) (j := 2) (dk_La_law_3 36 rfl) rfl rfl ?_
  refine g_aload_nS (i := 0) (j := 0) (dk_La_law_3 37 rfl) rfl rfl ?_
  refine g_iload_n (i := 3) (j := 3) (dk_La_law_3 38 rfl) rfl rfl ?_
  refine g_iconst (dk_La_law_3 39 rfl) (by decide) ?_
  refine g_iadd (dk_La_law_4 0 rfl) ?_
  obtain ⟨c7, h⟩ := p_gdE h
  refine g_scr he1 he2 (dk_La_law_4 1 rfl) c7.1 c7.2 ?_
  refine g_aload_nS (i := 0) (j := 0) (dk_La_law_4 2 rfl) rfl rfl ?_
  refine g_iload_n (i := 3) (j := 3) (dk_La_law_4 3 rfl) rfl rfl ?_
  refine g_iconst (dk_La_law_4 4 rfl) (by decide) ?_
  refine g_iadd (dk_La_law_4 5 rfl) ?_
  obtain ⟨c8, h⟩ := p_gdE h
  refine g_scr he1 he2 (dk_La_law_4 6 rfl) c8.1 c8.2 ?_
  refine g_aload_nS (i := 0) (j := 0) (dk_La_law_4 7 rfl) rfl rfl ?_
  refine g_iload_n (i := 3) (j := 3) (dk_La_law_4 8 rfl) rfl rfl ?_
  refine g_iconst (dk_La_law_4 9 rfl) (by decide) ?_
  refine g_iadd (dk_La_law_4 10 rfl) ?_
  obtain ⟨c9, h⟩ := p_gdE h
  refine g_scr he1 he2 (dk_La_law_4 11 rfl) c9.1 c9.2 ?_
  refine g_aload_nS (i := 0) (j := 0) (dk_La_law_4 12 rfl) rfl rfl ?_
  refine g_iload_n (i := 3) (j := 3) (dk_La_law_4 13 rfl) rfl rfl ?_
  refine g_iconst (dk_La_law_4 14 rfl) (by decide) ?_
  refine g_iadd (dk_La_law_4 15 rfl) ?_
  obtain ⟨c10, h⟩ := p_gdE h
  refine g_scr he1 he2 (dk_La_law_4 16 rfl) c10.1 c10.2 ?_
  refine g_if_eq 428 (dk_La_law_4 17 rfl) (by decide) (fun b11 => ?_) (fun b11 => ?_)
  · have h := p_ifT b11 h
    refine g_iconst (dk_La_law_4 20 rfl) (by decide) ?_
    exact tB_La_law_429 K l n9 t9 he1 he2 k18 hk18 v1 v2 v3 0 (t9 ((p_w (v3 + 3)) : Int).toNat) (t9 ((p_w (v3 + 2)) : Int).toNat) (t9 ((p_w (v3 + 1)) : Int).toNat) v2 r6 s2 _ h
  · have h := p_ifF b11 h
    refine g_iconst (dk_La_law_4 18 rfl) (by decide) ?_
    refine g_goto 429 (dk_La_law_4 19 rfl) (by decide) ?_
    exact tB_La_law_429 K l n9 t9 he1 he2 k18 hk18 v1 v2 v3 1 (t9 ((p_w (v3 + 3)) : Int).toNat) (t9 ((p_w (v3 + 2)) : Int).toNat) (t9 ((p_w (v3 + 1)) : Int).toNat) v2 r6 s2 _ h
set_option maxRecDepth 100000 in
set_option maxHeartbeats 4000000 in
theorem tB_La_law_828 (K : p_K) (l : Launch) (n9 : Nat) (t9 : Nat → Int) (he1 : n9 = p_tl K 9) (he2 : t9 = p_tv K 9) (k18 : Nat → Nat → Int → p_Hp → Option (Int × p_Hp)) (hk18 : ∀ (v1 : Nat) (v2 : Nat) (v3 : Int)  (s0 : p_Hp) (r : (Int × p_Hp)), k18 v1 v2 v3 s0 = some r → p_Go K l m_La_law 18 [(0, p_s 9), (1, p_r v1), (2, p_r v2), (3, p_i v3)] [] s0 (some (p_i r.1), r.2)) (v1 : Nat) (v2 : Nat) (v3 : Int) (w0 : Int) (w1 : Int) (w2 : Nat) (w3 : Int) (s0 : p_Hp) (r : (Int × p_Hp)) (h : B_La_law_828 n9 t9 k18 v1 v2 v3 w0 w1 w2 w3 s0 = some r) : p_Go K l m_La_law 828 [(0, p_s 9), (1, p_r v1), (2, p_r v2), (3, p_i v3)] [p_i w0, p_i w1, p_r w2, p_i w3] s0 (some (p_i r.1), r.2) := by
  unfold B_La_law_828 at h
  obtain ⟨c1, h⟩ := p_gdE h
  obtain ⟨r6, s2, q3, h⟩ := p_bdE h
  have t4 := tF_Mo_door K l w2 w1 w0 s0 _ q3
  refine g_callV (a := w2) (ci := 11) (q0 := (RX11, TX11, 90)) (As := [p_i w1, p_i w0]) (rest := [p_i w3]) [p_i r6, p_i w3] mt_Mo_door rfl rfl tw_7_239 tw_8_0 tw_7_238 ⟨Nat.le_of_ble_eq_true rfl, Nat.le_of_ble_eq_true rfl⟩ rfl (Nat.le_of_ble_eq_true rfl) (dk_La_law_12 26 rfl) rfl c1 rfl t4 ?_
  have hs5 : p_x s0 s2 := t4.1
  show p_Go K l m_La_law 831 [(0, p_s 9), (1, p_r v1), (2, p_r v2), (3, p_i v3)] [p_i r6, p_i w3] s2 _
  refine g_icmp_eq 1701 (dk_La_law_12 27 rfl) (by decide) (fun b7 => ?_) (fun b7 => ?_)
  · have h := p_ifT b7 h
    exact tB_La_law_1701 K l n9 t9 he1 he2 k18 hk18 v1 v2 v3 s2 _ h
  · have h := p_ifF b7 h
    refine g_iconst (dk_La_law_12 28 rfl) (by decide) ?_
    cases h
    exact g_ret rfl rfl (dk_La_law_12 29 rfl) (fun _ => ⟨_, rfl, Or.inl rfl⟩)
set_option maxRecDepth 100000 in
set_option maxHeartbeats 4000000 in
theorem tB_La_law_806 (K : p_K) (l : Launch) (n9 : Nat) (t9 : Nat → Int) (he1 : n9 = p_tl K 9) (he2 : t9 = p_tv K 9) (k18 : Nat → Nat → Int → p_Hp → Option (Int × p_Hp)) (hk18 : ∀ (v1 : Nat) (v2 : Nat) (v3 : Int)  (s0 : p_Hp) (r : (Int × p_Hp)), k18 v1 v2 v3 s0 = some r → p_Go K l m_La_law 18 [(0, p_s 9), (1, p_r v1), (2, p_r v2), (3, p_i v3)] [] s0 (some (p_i r.1), r.2)) (v1 : Nat) (v2 : Nat) (v3 : Int) (w0 : Int) (w1 : Int) (w2 : Nat) (s0 : p_Hp) (r : (Int × p_Hp)) (h : B_La_law_806 n9 t9 k18 v1 v2 v3 w0 w1 w2 s0 = some r) : p_Go K l m_La_law 806 [(0, p_s 9), (1, p_r v1), (2, p_r v2), (3, p_i v3)] [p_i w0, p_i w1, p_r w2] s0 (some (p_i r.1), r.2) := by
  unfold B_La_law_806 at h
  obtain ⟨c1, h⟩ := p_gdE h
  obtain ⟨r6, s2, q3, h⟩ := p_bdE h
  have t4 := tF_SW_door K l w2 w1 w0 s0 _ q3
  refine g_callV (a := w2) (ci := 10) (q0 := (RX10, TX10, 9)) (As := [p_i w1, p_i w0]) (rest := []) [p_i r6] mt_SW_door rfl rfl tw_4_50 tw_4_51 tw_4_49 ⟨Nat.le_of_ble_eq_true rfl, Nat.le_of_ble_eq_true rfl⟩ rfl (Nat.le_of_ble_eq_true rfl) (dk_La_law_12 10 rfl) rfl c1 rfl t4 ?_
  have hs5 : p_x s0 s2 := t4.1
  show p_Go K l m_La_law 809 [(0, p_s 9), (1, p_r v1), (2, p_r v2), (3, p_i v3)] [p_i r6] s2 _
  refine g_aload_n (i := 2) (j := 2) (dk_La_law_12 11 rfl) rfl rfl ?_
  refine g_aload_nS (i := 0) (j := 0) (dk_La_law_12 12 rfl) rfl rfl ?_
  refine g_iload_n (i := 3) (j := 3) (dk_La_law_12 13 rfl) rfl rfl ?_
  refine g_iconst (dk_La_law_12 14 rfl) (by decide) ?_
  refine g_iadd (dk_La_law_12 15 rfl) ?_
  obtain ⟨c7, h⟩ := p_gdE h
  refine g_scr he1 he2 (dk_La_law_12 16 rfl) c7.1 c7.2 ?_
  refine g_aload_nS (i := 0) (j := 0) (dk_La_law_12 17 rfl) rfl rfl ?_
  refine g_iload_n (i := 3) (j := 3) (dk_La_law_12 18 rfl) rfl rfl ?_
  refine g_iconst (dk_La_law_12 19 rfl) (by decide) ?_
  refine g_iadd (dk_La_law_12 20 rfl) ?_
  obtain ⟨c8, h⟩ := p_gdE h
  refine g_scr he1 he2 (dk_La_law_12 21 rfl) c8.1 c8.2 ?_
  refine g_if_eq 827 (dk_La_law_12 22 rfl) (by decide) (fun b9 => ?_) (fun b9 => ?_)
  · have h := p_ifT b9 h
    refine g_iconst (dk_La_law_12 25 rfl) (by decide) ?_
    exact tB_La_law_828 K l n9 t9 he1 he2 k18 hk18 v1 v2 v3 0 (t9 ((p_w (v3 + 1)) : Int).toNat) v2 r6 s2 _ h
  · have h := p_ifF b9 h
    refine g_iconst (dk_La_law_12 23 rfl) (by decide) ?_
    refine g_goto 828 (dk_La_law_12 24 rfl) (by decide) ?_
    exact tB_La_law_828 K l n9 t9 he1 he2 k18 hk18 v1 v2 v3 1 (t9 ((p_w (v3 + 1)) : Int).toNat) v2 r6 s2 _ h
set_option maxRecDepth 100000 in
set_option maxHeartbeats 4000000 in
theorem tL_La_law_18 (K : p_K) (l : Launch) (n9 : Nat) (t9 : Nat → Int) (he1 : n9 = p_tl K 9) (he2 : t9 = p_tv K 9) (k18 : Nat → Nat → Int → p_Hp → Option (Int × p_Hp)) (hk18 : ∀ (v1 : Nat) (v2 : Nat) (v3 : Int)  (s0 : p_Hp) (r : (Int × p_Hp)), k18 v1 v2 v3 s0 = some r → p_Go K l m_La_law 18 [(0, p_s 9), (1, p_r v1), (2, p_r v2), (3, p_i v3)] [] s0 (some (p_i r.1), r.2)) (v1 : Nat) (v2 : Nat) (v3 : Int) (s0 : p_Hp) (r : (Int × p_Hp)) (h : L_La_law_18 n9 t9 k18 v1 v2 v3 s0 = some r) : p_Go K l m_La_law 18 [(0, p_s 9), (1, p_r v1), (2, p_r v2), (3, p_i v3)] [] s0 (some (p_i r.1), r.2) := by
  unfold L_La_law_18 at h
  refine g_iload_n (i := 3) (j := 3) (dk_La_law_0 10 rfl) rfl rfl ?_
  refine g_aload_nS (i := 0) (j := 0) (dk_La_law_0 11 rfl) rfl rfl ?_
  refine g_scl he1 (dk_La_law_0 12 rfl) ?_
  refine g_bipush (dk_La_law_0 13 rfl) (by decide +kernel) (by decide) ?_
  refine g_isub (dk_La_law_0 14 rfl) ?_
  refine g_icmp_gt 1707 (dk_La_law_0 15 rfl) (by decide) (fun b1 => ?_) (fun b1 => ?_)
  · have h := p_ifT b1 h
    refine g_iconst (dk_La_law_29 31 rfl) (by decide) ?_
    cases h
    exact g_ret rfl rfl (dk_La_law_29 32 rfl) (fun _ => ⟨_, rfl, Or.inr rfl⟩)
  · have h := p_ifF b1 h
    refine g_aload_nS (i := 0) (j := 0) (dk_La_law_0 16 rfl) rfl rfl ?_
    refine g_iload_n (i := 3) (j := 3) (dk_La_law_0 17 rfl) rfl rfl ?_
    obtain ⟨c2, h⟩ := p_gdE h
    refine g_scr he1 he2 (dk_La_law_0 18 rfl) c2.1 c2.2 ?_
    refine g_bipush (dk_La_law_0 19 rfl) (by decide +kernel) (by decide) ?_
    refine g_iand (dk_La_law_0 20 rfl) ?_
    rcases p_iteE h with ⟨b3, h⟩ | ⟨b3, h⟩
    · refine g_tableIn 236 (dk_La_law_0 21 rfl) (by omega) (by omega) (by rw [b3]; rfl) (by decide) ?_
      refine g_aload_n (i := 1) (j := 1) (dk_La_law_0 22 rfl) rfl rfl ?_
      refine g_aload_nS (i := 0) (j := 0) (dk_La_law_0 23 rfl) rfl rfl ?_
      refine g_iload_n (i := 3) (j := 3) (dk_La_law_0 24 rfl) rfl rfl ?_
      refine g_iconst (dk_La_law_0 25 rfl) (by decide) ?_
      refine g_iadd (dk_La_law_0 26 rfl) ?_
      obtain ⟨c4, h⟩ := p_gdE h
      refine g_scr he1 he2 (dk_La_law_0 27 rfl) c4.1 c4.2 ?_
      obtain ⟨c5, h⟩ := p_gdE h
      obtain ⟨r10, s6, q7, h⟩ := p_bdE h
      have t8 := tF_SW_works K l v1 (t9 ((p_w (v3 + 1)) : Int).toNat) s0 _ q7
      refine g_callV (a := v1) (ci := 10) (q0 := (RX10, TX10, 9)) (As := [p_i (t9 ((p_w (v3 + 1)) : Int).toNat)]) (rest := []) [p_i r10] mt_SW_works rfl rfl tw_3_61 tw_3_62 tw_3_60 ⟨Nat.le_of_ble_eq_true rfl, Nat.le_of_ble_eq_true rfl⟩ rfl (Nat.le_of_ble_eq_true rfl) (dk_La_law_0 28 rfl) rfl c5 rfl t8 ?_
      have hs9 : p_x s0 s6 := t8.1
      show p_Go K l m_La_law 245 [(0, p_s 9), (1, p_r v1), (2, p_r v2), (3, p_i v3)] [p_i r10] s6 _
      refine g_aload_n (i := 2) (j := 2) (dk_La_law_0 29 rfl) rfl rfl ?_
      refine g_aload_nS (i := 0) (j := 0) (dk_La_law_0 30 rfl) rfl rfl ?_
      refine g_iload_n (i := 3) (j := 3) (dk_La_law_0 31 rfl) rfl rfl ?_
      refine g_iconst (dk_La_law_0 32 rfl) (by decide) ?_
      refine g_iadd (dk_La_law_0 33 rfl) ?_
      obtain ⟨c11, h⟩ := p_gdE h
      refine g_scr he1 he2 (dk_La_law_0 34 rfl) c11.1 c11.2 ?_
      obtain ⟨c12, h⟩ := p_gdE h
      obtain ⟨r17, s13, q14, h⟩ := p_bdE h
      have t15 := tF_Mo_works K l v2 (t9 ((p_w (v3 + 1)) : Int).toNat) s6 _ q14
      refine g_callV (a := v2) (ci := 11) (q0 := (RX11, TX11, 90)) (As := [p_i (t9 ((p_w (v3 + 1)) : Int).toNat)]) (rest := [p_i r10]) [p_i r17, p_i r10] mt_Mo_works rfl rfl tw_7_58 tw_7_59 tw_7_57 ⟨Nat.le_of_ble_eq_true rfl, Nat.le_of_ble_eq_true rfl⟩ rfl (Nat.le_of_ble_eq_true rfl) (dk_La_law_0 35 rfl) rfl c12 rfl t15 ?_
      have hs16 : p_x s6 s13 := t15.1
      show p_Go K l m_La_law 254 [(0, p_s 9), (1, p_r v1), (2, p_r v2), (3, p_i v3)] [p_i r17, p_i r10] s13 _
      refine g_icmp_eq 1701 (dk_La_law_0 36 rfl) (by decide) (fun b18 => ?_) (fun b18 => ?_)
      · have h := p_ifT b18 h
        exact tB_La_law_1701 K l n9 t9 he1 he2 k18 hk18 v1 v2 v3 s13 _ h
      · have h := p_ifF b18 h
        refine g_iconst (dk_La_law_0 37 rfl) (by decide) ?_
        cases h
        exact g_ret rfl rfl (dk_La_law_0 38 rfl) (fun _ => ⟨_, rfl, Or.inl rfl⟩)
    rcases p_iteE h with ⟨b19, h⟩ | ⟨b19, h⟩
    · refine g_tableIn 259 (dk_La_law_0 21 rfl) (by omega) (by omega) (by rw [b19]; rfl) (by decide) ?_
      refine g_aload_n (i := 1) (j := 1) (dk_La_law_0 39 rfl) rfl rfl ?_
      refine g_aload_nS (i := 0) (j := 0) (dk_La_law_1 0 rfl) rfl rfl ?_
      refine g_iload_n (i := 3) (j := 3) (dk_La_law_1 1 rfl) rfl rfl ?_
      refine g_iconst (dk_La_law_1 2 rfl) (by decide) ?_
      refine g_iadd (dk_La_law_1 3 rfl) ?_
      obtain ⟨c20, h⟩ := p_gdE h
      refine g_scr he1 he2 (dk_La_law_1 4 rfl) c20.1 c20.2 ?_
      refine g_aload_nS (i := 0) (j := 0) (dk_La_law_1 5 rfl) rfl rfl ?_
      refine g_iload_n (i := 3) (j := 3) (dk_La_law_1 6 rfl) rfl rfl ?_
      refine g_iconst (dk_La_law_1 7 rfl) (by decide) ?_
      refine g_iadd (dk_La_law_1 8 rfl) ?_
      obtain ⟨c21, h⟩ := p_gdE h
      refine g_scr he1 he2 (dk_La_law_1 9 rfl) c21.1 c21.2 ?_
      obtain ⟨c22, h⟩ := p_gdE h
      obtain ⟨r27, s23, q24, h⟩ := p_bdE h
      have t25 := tF_SW_gear K l v1 (t9 ((p_w (v3 + 1)) : Int).toNat) (t9 ((p_w (v3 + 2)) : Int).toNat) s0 _ q24
      refine g_callV (a := v1) (ci := 10) (q0 := (RX10, TX10, 9)) (As := [p_i (t9 ((p_w (v3 + 1)) : Int).toNat), p_i (t9 ((p_w (v3 + 2)) : Int).toNat)]) (rest := []) [p_i r27] mt_SW_gear rfl rfl tw_3_73 tw_3_74 tw_3_72 ⟨Nat.le_of_ble_eq_true rfl, Nat.le_of_ble_eq_true rfl⟩ rfl (Nat.le_of_ble_eq_true rfl) (dk_La_law_1 10 rfl) rfl c22 rfl t25 ?_
      have hs26 : p_x s0 s23 := t25.1
      show p_Go K l m_La_law 273 [(0, p_s 9), (1, p_r v1), (2, p_r v2), (3, p_i v3)] [p_i r27] s23 _
      refine g_aload_n (i := 2) (j := 2) (dk_La_law_1 11 rfl) rfl rfl ?_
      refine g_aload_nS (i := 0) (j := 0) (dk_La_law_1 12 rfl) rfl rfl ?_
      refine g_iload_n (i := 3) (j := 3) (dk_La_law_1 13 rfl) rfl rfl ?_
      refine g_iconst (dk_La_law_1 14 rfl) (by decide) ?_
      refine g_iadd (dk_La_law_1 15 rfl) ?_
      obtain ⟨c28, h⟩ := p_gdE h
      refine g_scr he1 he2 (dk_La_law_1 16 rfl) c28.1 c28.2 ?_
      refine g_aload_nS (i := 0) (j := 0) (dk_La_law_1 17 rfl) rfl rfl ?_
      refine g_iload_n (i := 3) (j := 3) (dk_La_law_1 18 rfl) rfl rfl ?_
      refine g_iconst (dk_La_law_1 19 rfl) (by decide) ?_
      refine g_iadd (dk_La_law_1 20 rfl) ?_
      obtain ⟨c29, h⟩ := p_gdE h
      refine g_scr he1 he2 (dk_La_law_1 21 rfl) c29.1 c29.2 ?_
      obtain ⟨c30, h⟩ := p_gdE h
      obtain ⟨r35, s31, q32, h⟩ := p_bdE h
      have t33 := tF_Mo_gear K l v2 (t9 ((p_w (v3 + 1)) : Int).toNat) (t9 ((p_w (v3 + 2)) : Int).toNat) s23 _ q32
      refine g_callV (a := v2) (ci := 11) (q0 := (RX11, TX11, 90)) (As := [p_i (t9 ((p_w (v3 + 1)) : Int).toNat), p_i (t9 ((p_w (v3 + 2)) : Int).toNat)]) (rest := [p_i r27]) [p_i r35, p_i r27] mt_Mo_gear rfl rfl tw_7_74 tw_7_75 tw_7_73 ⟨Nat.le_of_ble_eq_true rfl, Nat.le_of_ble_eq_true rfl⟩ rfl (Nat.le_of_ble_eq_true rfl) (dk_La_law_1 22 rfl) rfl c30 rfl t33 ?_
      have hs34 : p_x s23 s31 := t33.1
      show p_Go K l m_La_law 287 [(0, p_s 9), (1, p_r v1), (2, p_r v2), (3, p_i v3)] [p_i r35, p_i r27] s31 _
      refine g_icmp_eq 1701 (dk_La_law_1 23 rfl) (by decide) (fun b36 => ?_) (fun b36 => ?_)
      · have h := p_ifT b36 h
        exact tB_La_law_1701 K l n9 t9 he1 he2 k18 hk18 v1 v2 v3 s31 _ h
      · have h := p_ifF b36 h
        refine g_iconst (dk_La_law_1 24 rfl) (by decide) ?_
        cases h
        exact g_ret rfl rfl (dk_La_law_1 25 rfl) (fun _ => ⟨_, rfl, Or.inl rfl⟩)
    rcases p_iteE h with ⟨b37, h⟩ | ⟨b37, h⟩
    · refine g_tableIn 292 (dk_La_law_0 21 rfl) (by omega) (by omega) (by rw [b37]; rfl) (by decide) ?_
      refine g_aload_n (i := 1) (j := 1) (dk_La_law_1 26 rfl) rfl rfl ?_
      refine g_aload_nS (i := 0) (j := 0) (dk_La_law_1 27 rfl) rfl rfl ?_
      refine g_iload_n (i := 3) (j := 3) (dk_La_law_1 28 rfl) rfl rfl ?_
      refine g_iconst (dk_La_law_1 29 rfl) (by decide) ?_
      refine g_iadd (dk_La_law_1 30 rfl) ?_
      obtain ⟨c38, h⟩ := p_gdE h
      refine g_scr he1 he2 (dk_La_law_1 31 rfl) c38.1 c38.2 ?_
      refine g_aload_nS (i := 0) (j := 0) (dk_La_law_1 32 rfl) rfl rfl ?_
      refine g_iload_n (i := 3) (j := 3) (dk_La_law_1 33 rfl) rfl rfl ?_
      refine g_iconst (dk_La_law_1 34 rfl) (by decide) ?_
      refine g_iadd (dk_La_law_1 35 rfl) ?_
      obtain ⟨c39, h⟩ := p_gdE h
      refine g_scr he1 he2 (dk_La_law_1 36 rfl) c39.1 c39.2 ?_
      obtain ⟨c40, h⟩ := p_gdE h
      obtain ⟨r45, s41, q42, h⟩ := p_bdE h
      have t43 := tF_SW_links K l v1 (t9 ((p_w (v3 + 1)) : Int).toNat) (t9 ((p_w (v3 + 2)) : Int).toNat) s0 _ q42
      refine g_callV (a := v1) (ci := 10) (q0 := (RX10, TX10, 9)) (As := [p_i (t9 ((p_w (v3 + 1)) : Int).toNat), p_i (t9 ((p_w (v3 + 2)) : Int).toNat)]) (rest := []) [p_i r45] mt_SW_links rfl rfl tw_3_100 tw_3_101 tw_3_99 ⟨Nat.le_of_ble_eq_true rfl, Nat.le_of_ble_eq_true rfl⟩ rfl (Nat.le_of_ble_eq_true rfl) (dk_La_law_1 37 rfl) rfl c40 rfl t43 ?_
      have hs44 : p_x s0 s41 := t43.1
      show p_Go K l m_La_law 306 [(0, p_s 9), (1, p_r v1), (2, p_r v2), (3, p_i v3)] [p_i r45] s41 _
      refine g_aload_n (i := 2) (j := 2) (dk_La_law_1 38 rfl) rfl rfl ?_
      refine g_aload_nS (i := 0) (j := 0) (dk_La_law_1 39 rfl) rfl rfl ?_
      refine g_iload_n (i := 3) (j := 3) (dk_La_law_2 0 rfl) rfl rfl ?_
      refine g_iconst (dk_La_law_2 1 rfl) (by decide) ?_
      refine g_iadd (dk_La_law_2 2 rfl) ?_
      obtain ⟨c46, h⟩ := p_gdE h
      refine g_scr he1 he2 (dk_La_law_2 3 rfl) c46.1 c46.2 ?_
      refine g_aload_nS (i := 0) (j := 0) (dk_La_law_2 4 rfl) rfl rfl ?_
      refine g_iload_n (i := 3) (j := 3) (dk_La_law_2 5 rfl) rfl rfl ?_
      refine g_iconst (dk_La_law_2 6 rfl) (by decide) ?_
      refine g_iadd (dk_La_law_2 7 rfl) ?_
      obtain ⟨c47, h⟩ := p_gdE h
      refine g_scr he1 he2 (dk_La_law_2 8 rfl) c47.1 c47.2 ?_
      obtain ⟨c48, h⟩ := p_gdE h
      obtain ⟨r53, s49, q50, h⟩ := p_bdE h
      have t51 := tF_Mo_links K l v2 (t9 ((p_w (v3 + 1)) : Int).toNat) (t9 ((p_w (v3 + 2)) : Int).toNat) s41 _ q50
      refine g_callV (a := v2) (ci := 11) (q0 := (RX11, TX11, 90)) (As := [p_i (t9 ((p_w (v3 + 1)) : Int).toNat), p_i (t9 ((p_w (v3 + 2)) : Int).toNat)]) (rest := [p_i r45]) [p_i r53, p_i r45] mt_Mo_links rfl rfl tw_7_101 tw_7_102 tw_7_100 ⟨Nat.le_of_ble_eq_true rfl, Nat.le_of_ble_eq_true rfl⟩ rfl (Nat.le_of_ble_eq_true rfl) (dk_La_law_2 9 rfl) rfl c48 rfl t51 ?_
      have hs52 : p_x s41 s49 := t51.1
      show p_Go K l m_La_law 320 [(0, p_s 9), (1, p_r v1), (2, p_r v2), (3, p_i v3)] [p_i r53, p_i r45] s49 _
      refine g_icmp_eq 1701 (dk_La_law_2 10 rfl) (by decide) (fun b54 => ?_) (fun b54 => ?_)
      · have h := p_ifT b54 h
        exact tB_La_law_1701 K l n9 t9 he1 he2 k18 hk18 v1 v2 v3 s49 _ h
      · have h := p_ifF b54 h
        refine g_iconst (dk_La_law_2 11 rfl) (by decide) ?_
        cases h
        exact g_ret rfl rfl (dk_La_law_2 12 rfl) (fun _ => ⟨_, rfl, Or.inl rfl⟩)
    rcases p_iteE h with ⟨b55, h⟩ | ⟨b55, h⟩
    · refine g_tableIn 325 (dk_La_law_0 21 rfl) (by omega) (by omega) (by rw [b55]; rfl) (by decide) ?_
      refine g_aload_n (i := 1) (j := 1) (dk_La_law_2 13 rfl) rfl rfl ?_
      refine g_aload_nS (i := 0) (j := 0) (dk_La_law_2 14 rfl) rfl rfl ?_
      refine g_iload_n (i := 3) (j := 3) (dk_La_law_2 15 rfl) rfl rfl ?_
      refine g_iconst (dk_La_law_2 16 rfl) (by decide) ?_
      refine g_iadd (dk_La_law_2 17 rfl) ?_
      obtain ⟨c56, h⟩ := p_gdE h
      refine g_scr he1 he2 (dk_La_law_2 18 rfl) c56.1 c56.2 ?_
      refine g_aload_nS (i := 0) (j := 0) (dk_La_law_2 19 rfl) rfl rfl ?_
      refine g_iload_n (i := 3) (j := 3) (dk_La_law_2 20 rfl) rfl rfl ?_
      refine g_iconst (dk_La_law_2 21 rfl) (by decide) ?_
      refine g_iadd (dk_La_law_2 22 rfl) ?_
      obtain ⟨c57, h⟩ := p_gdE h
      refine g_scr he1 he2 (dk_La_law_2 23 rfl) c57.1 c57.2 ?_
      refine g_aload_nS (i := 0) (j := 0) (dk_La_law_2 24 rfl) rfl rfl ?_
      refine g_iload_n (i := 3) (j := 3) (dk_La_law_2 25 rfl) rfl rfl ?_
      refine g_iconst (dk_La_law_2 26 rfl) (by decide) ?_
      refine g_iadd (dk_La_law_2 27 rfl) ?_
      obtain ⟨c58, h⟩ := p_gdE h
      refine g_scr he1 he2 (dk_La_law_2 28 rfl) c58.1 c58.2 ?_
      obtain ⟨c59, h⟩ := p_gdE h
      obtain ⟨r64, s60, q61, h⟩ := p_bdE h
      have t62 := tF_SW_link K l v1 (t9 ((p_w (v3 + 1)) : Int).toNat) (t9 ((p_w (v3 + 2)) : Int).toNat) (t9 ((p_w (v3 + 3)) : Int).toNat) s0 _ q61
      refine g_callV (a := v1) (ci := 10) (q0 := (RX10, TX10, 9)) (As := [p_i (t9 ((p_w (v3 + 1)) : Int).toNat), p_i (t9 ((p_w (v3 + 2)) : Int).toNat), p_i (t9 ((p_w (v3 + 3)) : Int).toNat)]) (rest := []) [p_i r64] mt_SW_link rfl rfl tw_3_111 tw_3_112 tw_3_110 ⟨Nat.le_of_ble_eq_true rfl, Nat.le_of_ble_eq_true rfl⟩ rfl (Nat.le_of_ble_eq_true rfl) (dk_La_law_2 29 rfl) rfl c59 rfl t62 ?_
      have hs63 : p_x s0 s60 := t62.1
      show p_Go K l m_La_law 344 [(0, p_s 9), (1, p_r v1), (2, p_r v2), (3, p_i v3)] [p_i r64] s60 _
      refine g_aload_n (i := 2) (j := 2) (dk_La_law_2 30 rfl) rfl rfl ?_
      refine g_aload_nS (i := 0) (j := 0) (dk_La_law_2 31 rfl) rfl rfl ?_
      refine g_iload_n (i := 3) (j := 3) (dk_La_law_2 32 rfl) rfl rfl ?_
      refine g_iconst (dk_La_law_2 33 rfl) (by decide) ?_
      refine g_iadd (dk_La_law_2 34 rfl) ?_
      obtain ⟨c65, h⟩ := p_gdE h
      refine g_scr he1 he2 (dk_La_law_2 35 rfl) c65.1 c65.2 ?_
      refine g_aload_nS (i := 0) (j := 0) (dk_La_law_2 36 rfl) rfl rfl ?_
      refine g_iload_n (i := 3) (j := 3) (dk_La_law_2 37 rfl) rfl rfl ?_
      refine g_iconst (dk_La_law_2 38 rfl) (by decide) ?_
      refine g_iadd (dk_La_law_2 39 rfl) ?_
      obtain ⟨c66, h⟩ := p_gdE h
      refine g_scr he1 he2 (dk_La_law_3 0 rfl) c66.1 c66.2 ?_
      refine g_aload_nS (i := 0) (j := 0) (dk_La_law_3 1 rfl) rfl rfl ?_
      refine g_iload_n (i := 3) (j := 3) (dk_La_law_3 2 rfl) rfl rfl ?_
      refine g_iconst (dk_La_law_3 3 rfl) (by decide) ?_
      refine g_iadd (dk_La_law_3 4 rfl) ?_
      obtain ⟨c67, h⟩ := p_gdE h
      refine g_scr he1 he2 (dk_La_law_3 5 rfl) c67.1 c67.2 ?_
      obtain ⟨c68, h⟩ := p_gdE h
      obtain ⟨r73, s69, q70, h⟩ := p_bdE h
      have t71 := tF_Mo_link K l v2 (t9 ((p_w (v3 + 1)) : Int).toNat) (t9 ((p_w (v3 + 2)) : Int).toNat) (t9 ((p_w (v3 + 3)) : Int).toNat) s60 _ q70
      refine g_callV (a := v2) (ci := 11) (q0 := (RX11, TX11, 90)) (As := [p_i (t9 ((p_w (v3 + 1)) : Int).toNat), p_i (t9 ((p_w (v3 + 2)) : Int).toNat), p_i (t9 ((p_w (v3 + 3)) : Int).toNat)]) (rest := [p_i r64]) [p_i r73, p_i r64] mt_Mo_link rfl rfl tw_7_113 tw_7_114 tw_7_112 ⟨Nat.le_of_ble_eq_true rfl, Nat.le_of_ble_eq_true rfl⟩ rfl (Nat.le_of_ble_eq_true rfl) (dk_La_law_3 6 rfl) rfl c68 rfl t71 ?_
      have hs72 : p_x s60 s69 := t71.1
      show p_Go K l m_La_law 363 [(0, p_s 9), (1, p_r v1), (2, p_r v2), (3, p_i v3)] [p_i r73, p_i r64] s69 _
      refine g_icmp_eq 1701 (dk_La_law_3 7 rfl) (by decide) (fun b74 => ?_) (fun b74 => ?_)
      · have h := p_ifT b74 h
        exact tB_La_law_1701 K l n9 t9 he1 he2 k18 hk18 v1 v2 v3 s69 _ h
      · have h := p_ifF b74 h
        refine g_iconst (dk_La_law_3 8 rfl) (by decide) ?_
        cases h
        exact g_ret rfl rfl (dk_La_law_3 9 rfl) (fun _ => ⟨_, rfl, Or.inl rfl⟩)
    rcases p_iteE h with ⟨b75, h⟩ | ⟨b75, h⟩
    · refine g_tableIn 368 (dk_La_law_0 21 rfl) (by omega) (by omega) (by rw [b75]; rfl) (by decide) ?_
      refine g_aload_n (i := 1) (j := 1) (dk_La_law_3 10 rfl) rfl rfl ?_
      refine g_aload_nS (i := 0) (j := 0) (dk_La_law_3 11 rfl) rfl rfl ?_
      refine g_iload_n (i := 3) (j := 3) (dk_La_law_3 12 rfl) rfl rfl ?_
      refine g_iconst (dk_La_law_3 13 rfl) (by decide) ?_
      refine g_iadd (dk_La_law_3 14 rfl) ?_
      obtain ⟨c76, h⟩ := p_gdE h
      refine g_scr he1 he2 (dk_La_law_3 15 rfl) c76.1 c76.2 ?_
      refine g_aload_nS (i := 0) (j := 0) (dk_La_law_3 16 rfl) rfl rfl ?_
      refine g_iload_n (i := 3) (j := 3) (dk_La_law_3 17 rfl) rfl rfl ?_
      refine g_iconst (dk_La_law_3 18 rfl) (by decide) ?_
      refine g_iadd (dk_La_law_3 19 rfl) ?_
      obtain ⟨c77, h⟩ := p_gdE h
      refine g_scr he1 he2 (dk_La_law_3 20 rfl) c77.1 c77.2 ?_
      refine g_aload_nS (i := 0) (j := 0) (dk_La_law_3 21 rfl) rfl rfl ?_
      refine g_iload_n (i := 3) (j := 3) (dk_La_law_3 22 rfl) rfl rfl ?_
      refine g_iconst (dk_La_law_3 23 rfl) (by decide) ?_
      refine g_iadd (dk_La_law_3 24 rfl) ?_
      obtain ⟨c78, h⟩ := p_gdE h
      refine g_scr he1 he2 (dk_La_law_3 25 rfl) c78.1 c78.2 ?_
      refine g_aload_nS (i := 0) (j := 0) (dk_La_law_3 26 rfl) rfl rfl ?_
      refine g_iload_n (i := 3) (j := 3) (dk_La_law_3 27 rfl) rfl rfl ?_
      refine g_iconst (dk_La_law_3 28 rfl) (by decide) ?_
      refine g_iadd (dk_La_law_3 29 rfl) ?_
      obtain ⟨c79, h⟩ := p_gdE h
      refine g_scr he1 he2 (dk_La_law_3 30 rfl) c79.1 c79.2 ?_
      refine g_if_eq 396 (dk_La_law_3 31 rfl) (by decide) (fun b80 => ?_) (fun b80 => ?_)
      · have h := p_ifT b80 h
        refine g_iconst (dk_La_law_3 34 rfl) (by decide) ?_
        exact tB_La_law_397 K l n9 t9 he1 he2 k18 hk18 v1 v2 v3 0 (t9 ((p_w (v3 + 3)) : Int).toNat) (t9 ((p_w (v3 + 2)) : Int).toNat) (t9 ((p_w (v3 + 1)) : Int).toNat) v1 s0 _ h
      · have h := p_ifF b80 h
        refine g_iconst (dk_La_law_3 32 rfl) (by decide) ?_
        refine g_goto 397 (dk_La_law_3 33 rfl) (by decide) ?_
        exact tB_La_law_397 K l n9 t9 he1 he2 k18 hk18 v1 v2 v3 1 (t9 ((p_w (v3 + 3)) : Int).toNat) (t9 ((p_w (v3 + 2)) : Int).toNat) (t9 ((p_w (v3 + 1)) : Int).toNat) v1 s0 _ h
    rcases p_iteE h with ⟨b81, h⟩ | ⟨b81, h⟩
    · refine g_tableIn 437 (dk_La_law_0 21 rfl) (by omega) (by omega) (by rw [b81]; rfl) (by decide) ?_
      refine g_aload_n (i := 1) (j := 1) (dk_La_law_4 25 rfl) rfl rfl ?_
      refine g_aload_nS (i := 0) (j := 0) (dk_La_law_4 26 rfl) rfl rfl ?_
      refine g_iload_n (i := 3) (j := 3) (dk_La_law_4 27 rfl) rfl rfl ?_
      refine g_iconst (dk_La_law_4 28 rfl) (by decide) ?_
      refine g_iadd (dk_La_law_4 29 rfl) ?_
      obtain ⟨c82, h⟩ := p_gdE h
      refine g_scr he1 he2 (dk_La_law_4 30 rfl) c82.1 c82.2 ?_
      refine g_aload_nS (i := 0) (j := 0) (dk_La_law_4 31 rfl) rfl rfl ?_
      refine g_iload_n (i := 3) (j := 3) (dk_La_law_4 32 rfl) rfl rfl ?_
      refine g_iconst (dk_La_law_4 33 rfl) (by decide) ?_
      refine g_iadd (dk_La_law_4 34 rfl) ?_
      obtain ⟨c83, h⟩ := p_gdE h
      refine g_scr he1 he2 (dk_La_law_4 35 rfl) c83.1 c83.2 ?_
      obtain ⟨c84, h⟩ := p_gdE h
      obtain ⟨r89, s85, q86, h⟩ := p_bdE h
      have t87 := tF_SW_rank K l v1 (t9 ((p_w (v3 + 1)) : Int).toNat) (t9 ((p_w (v3 + 2)) : Int).toNat) s0 _ q86
      refine g_callV (a := v1) (ci := 10) (q0 := (RX10, TX10, 9)) (As := [p_i (t9 ((p_w (v3 + 1)) : Int).toNat), p_i (t9 ((p_w (v3 + 2)) : Int).toNat)]) (rest := []) [p_i r89] mt_SW_rank rfl rfl tw_3_138 tw_3_139 tw_3_137 ⟨Nat.le_of_ble_eq_true rfl, Nat.le_of_ble_eq_true rfl⟩ rfl (Nat.le_of_ble_eq_true rfl) (dk_La_law_4 36 rfl) rfl c84 rfl t87 ?_
      have hs88 : p_x s0 s85 := t87.1
      show p_Go K l m_La_law 451 [(0, p_s 9), (1, p_r v1), (2, p_r v2), (3, p_i v3)] [p_i r89] s85 _
      refine g_aload_n (i := 2) (j := 2) (dk_La_law_4 37 rfl) rfl rfl ?_
      refine g_aload_nS (i := 0) (j := 0) (dk_La_law_4 38 rfl) rfl rfl ?_
      refine g_iload_n (i := 3) (j := 3) (dk_La_law_4 39 rfl) rfl rfl ?_
      refine g_iconst (dk_La_law_5 0 rfl) (by decide) ?_
      refine g_iadd (dk_La_law_5 1 rfl) ?_
      obtain ⟨c90, h⟩ := p_gdE h
      refine g_scr he1 he2 (dk_La_law_5 2 rfl) c90.1 c90.2 ?_
      refine g_aload_nS (i := 0) (j := 0) (dk_La_law_5 3 rfl) rfl rfl ?_
      refine g_iload_n (i := 3) (j := 3) (dk_La_law_5 4 rfl) rfl rfl ?_
      refine g_iconst (dk_La_law_5 5 rfl) (by decide) ?_
      refine g_iadd (dk_La_law_5 6 rfl) ?_
      obtain ⟨c91, h⟩ := p_gdE h
      refine g_scr he1 he2 (dk_La_law_5 7 rfl) c91.1 c91.2 ?_
      obtain ⟨c92, h⟩ := p_gdE h
      obtain ⟨r97, s93, q94, h⟩ := p_bdE h
      have t95 := tF_Mo_rank K l v2 (t9 ((p_w (v3 + 1)) : Int).toNat) (t9 ((p_w (v3 + 2)) : Int).toNat) s85 _ q94
      refine g_callV (a := v2) (ci := 11) (q0 := (RX11, TX11, 90)) (As := [p_i (t9 ((p_w (v3 + 1)) : Int).toNat), p_i (t9 ((p_w (v3 + 2)) : Int).toNat)]) (rest := [p_i r89]) [p_i r97, p_i r89] mt_Mo_rank rfl rfl tw_7_126 tw_7_127 tw_7_125 ⟨Nat.le_of_ble_eq_true rfl, Nat.le_of_ble_eq_true rfl⟩ rfl (Nat.le_of_ble_eq_true rfl) (dk_La_law_5 8 rfl) rfl c92 rfl t95 ?_
      have hs96 : p_x s85 s93 := t95.1
      show p_Go K l m_La_law 465 [(0, p_s 9), (1, p_r v1), (2, p_r v2), (3, p_i v3)] [p_i r97, p_i r89] s93 _
      refine g_icmp_eq 1701 (dk_La_law_5 9 rfl) (by decide) (fun b98 => ?_) (fun b98 => ?_)
      · have h := p_ifT b98 h
        exact tB_La_law_1701 K l n9 t9 he1 he2 k18 hk18 v1 v2 v3 s93 _ h
      · have h := p_ifF b98 h
        refine g_iconst (dk_La_law_5 10 rfl) (by decide) ?_
        cases h
        exact g_ret rfl rfl (dk_La_law_5 11 rfl) (fun _ => ⟨_, rfl, Or.inl rfl⟩)
    rcases p_iteE h with ⟨b99, h⟩ | ⟨b99, h⟩
    · refine g_tableIn 470 (dk_La_law_0 21 rfl) (by omega) (by omega) (by rw [b99]; rfl) (by decide) ?_
      refine g_aload_n (i := 1) (j := 1) (dk_La_law_5 12 rfl) rfl rfl ?_
      refine g_aload_nS (i := 0) (j := 0) (dk_La_law_5 13 rfl) rfl rfl ?_
      refine g_iload_n (i := 3) (j := 3) (dk_La_law_5 14 rfl) rfl rfl ?_
      refine g_iconst (dk_La_law_5 15 rfl) (by decide) ?_
      refine g_iadd (dk_La_law_5 16 rfl) ?_
      obtain ⟨c100, h⟩ := p_gdE h
      refine g_scr he1 he2 (dk_La_law_5 17 rfl) c100.1 c100.2 ?_
      refine g_aload_nS (i := 0) (j := 0) (dk_La_law_5 18 rfl) rfl rfl ?_
      refine g_iload_n (i := 3) (j := 3) (dk_La_law_5 19 rfl) rfl rfl ?_
      refine g_iconst (dk_La_law_5 20 rfl) (by decide) ?_
      refine g_iadd (dk_La_law_5 21 rfl) ?_
      obtain ⟨c101, h⟩ := p_gdE h
      refine g_scr he1 he2 (dk_La_law_5 22 rfl) c101.1 c101.2 ?_
      obtain ⟨c102, h⟩ := p_gdE h
      obtain ⟨r107, s103, q104, h⟩ := p_bdE h
      have t105 := tF_SW_refit K l v1 (t9 ((p_w (v3 + 1)) : Int).toNat) (t9 ((p_w (v3 + 2)) : Int).toNat) s0 _ q104
      refine g_callV (a := v1) (ci := 10) (q0 := (RX10, TX10, 9)) (As := [p_i (t9 ((p_w (v3 + 1)) : Int).toNat), p_i (t9 ((p_w (v3 + 2)) : Int).toNat)]) (rest := []) [p_i r107] mt_SW_refit rfl rfl tw_3_147 tw_3_148 tw_3_146 ⟨Nat.le_of_ble_eq_true rfl, Nat.le_of_ble_eq_true rfl⟩ rfl (Nat.le_of_ble_eq_true rfl) (dk_La_law_5 23 rfl) rfl c102 rfl t105 ?_
      have hs106 : p_x s0 s103 := t105.1
      show p_Go K l m_La_law 484 [(0, p_s 9), (1, p_r v1), (2, p_r v2), (3, p_i v3)] [p_i r107] s103 _
      refine g_aload_n (i := 2) (j := 2) (dk_La_law_5 24 rfl) rfl rfl ?_
      refine g_aload_nS (i := 0) (j := 0) (dk_La_law_5 25 rfl) rfl rfl ?_
      refine g_iload_n (i := 3) (j := 3) (dk_La_law_5 26 rfl) rfl rfl ?_
      refine g_iconst (dk_La_law_5 27 rfl) (by decide) ?_
      refine g_iadd (dk_La_law_5 28 rfl) ?_
      obtain ⟨c108, h⟩ := p_gdE h
      refine g_scr he1 he2 (dk_La_law_5 29 rfl) c108.1 c108.2 ?_
      refine g_aload_nS (i := 0) (j := 0) (dk_La_law_5 30 rfl) rfl rfl ?_
      refine g_iload_n (i := 3) (j := 3) (dk_La_law_5 31 rfl) rfl rfl ?_
      refine g_iconst (dk_La_law_5 32 rfl) (by decide) ?_
      refine g_iadd (dk_La_law_5 33 rfl) ?_
      obtain ⟨c109, h⟩ := p_gdE h
      refine g_scr he1 he2 (dk_La_law_5 34 rfl) c109.1 c109.2 ?_
      obtain ⟨c110, h⟩ := p_gdE h
      obtain ⟨r115, s111, q112, h⟩ := p_bdE h
      have t113 := tF_Mo_refit K l v2 (t9 ((p_w (v3 + 1)) : Int).toNat) (t9 ((p_w (v3 + 2)) : Int).toNat) s103 _ q112
      refine g_callV (a := v2) (ci := 11) (q0 := (RX11, TX11, 90)) (As := [p_i (t9 ((p_w (v3 + 1)) : Int).toNat), p_i (t9 ((p_w (v3 + 2)) : Int).toNat)]) (rest := [p_i r107]) [p_i r115, p_i r107] mt_Mo_refit rfl rfl tw_7_131 tw_7_132 tw_7_130 ⟨Nat.le_of_ble_eq_true rfl, Nat.le_of_ble_eq_true rfl⟩ rfl (Nat.le_of_ble_eq_true rfl) (dk_La_law_5 35 rfl) rfl c110 rfl t113 ?_
      have hs114 : p_x s103 s111 := t113.1
      show p_Go K l m_La_law 498 [(0, p_s 9), (1, p_r v1), (2, p_r v2), (3, p_i v3)] [p_i r115, p_i r107] s111 _
      refine g_icmp_eq 1701 (dk_La_law_5 36 rfl) (by decide) (fun b116 => ?_) (fun b116 => ?_)
      · have h := p_ifT b116 h
        exact tB_La_law_1701 K l n9 t9 he1 he2 k18 hk18 v1 v2 v3 s111 _ h
      · have h := p_ifF b116 h
        refine g_iconst (dk_La_law_5 37 rfl) (by decide) ?_
        cases h
        exact g_ret rfl rfl (dk_La_law_5 38 rfl) (fun _ => ⟨_, rfl, Or.inl rfl⟩)
    rcases p_iteE h with ⟨b117, h⟩ | ⟨b117, h⟩
    · refine g_tableIn 503 (dk_La_law_0 21 rfl) (by omega) (by omega) (by rw [b117]; rfl) (by decide) ?_
      refine g_aload_n (i := 1) (j := 1) (dk_La_law_5 39 rfl) rfl rfl ?_
      refine g_aload_nS (i := 0) (j := 0) (dk_La_law_6 0 rfl) rfl rfl ?_
      refine g_iload_n (i := 3) (j := 3) (dk_La_law_6 1 rfl) rfl rfl ?_
      refine g_iconst (dk_La_law_6 2 rfl) (by decide) ?_
      refine g_iadd (dk_La_law_6 3 rfl) ?_
      obtain ⟨c118, h⟩ := p_gdE h
      refine g_scr he1 he2 (dk_La_law_6 4 rfl) c118.1 c118.2 ?_
      obtain ⟨c119, h⟩ := p_gdE h
      obtain ⟨r124, s120, q121, h⟩ := p_bdE h
      have t122 := tF_SW_copy K l v1 (t9 ((p_w (v3 + 1)) : Int).toNat) s0 _ q121
      refine g_callV (a := v1) (ci := 10) (q0 := (RX10, TX10, 9)) (As := [p_i (t9 ((p_w (v3 + 1)) : Int).toNat)]) (rest := []) [p_i r124] mt_SW_copy rfl rfl tw_3_155 tw_3_156 tw_3_154 ⟨Nat.le_of_ble_eq_true rfl, Nat.le_of_ble_eq_true rfl⟩ rfl (Nat.le_of_ble_eq_true rfl) (dk_La_law_6 5 rfl) rfl c119 rfl t122 ?_
      have hs123 : p_x s0 s120 := t122.1
      show p_Go K l m_La_law 512 [(0, p_s 9), (1, p_r v1), (2, p_r v2), (3, p_i v3)] [p_i r124] s120 _
      refine g_aload_n (i := 2) (j := 2) (dk_La_law_6 6 rfl) rfl rfl ?_
      refine g_aload_nS (i := 0) (j := 0) (dk_La_law_6 7 rfl) rfl rfl ?_
      refine g_iload_n (i := 3) (j := 3) (dk_La_law_6 8 rfl) rfl rfl ?_
      refine g_iconst (dk_La_law_6 9 rfl) (by decide) ?_
      refine g_iadd (dk_La_law_6 10 rfl) ?_
      obtain ⟨c125, h⟩ := p_gdE h
      refine g_scr he1 he2 (dk_La_law_6 11 rfl) c125.1 c125.2 ?_
      obtain ⟨c126, h⟩ := p_gdE h
      obtain ⟨r131, s127, q128, h⟩ := p_bdE h
      have t129 := tF_Mo_copy K l v2 (t9 ((p_w (v3 + 1)) : Int).toNat) s120 _ q128
      refine g_callV (a := v2) (ci := 11) (q0 := (RX11, TX11, 90)) (As := [p_i (t9 ((p_w (v3 + 1)) : Int).toNat)]) (rest := [p_i r124]) [p_i r131, p_i r124] mt_Mo_copy rfl rfl tw_7_139 tw_7_140 tw_7_138 ⟨Nat.le_of_ble_eq_true rfl, Nat.le_of_ble_eq_true rfl⟩ rfl (Nat.le_of_ble_eq_true rfl) (dk_La_law_6 12 rfl) rfl c126 rfl t129 ?_
      have hs130 : p_x s120 s127 := t129.1
      show p_Go K l m_La_law 521 [(0, p_s 9), (1, p_r v1), (2, p_r v2), (3, p_i v3)] [p_i r131, p_i r124] s127 _
      refine g_icmp_eq 1701 (dk_La_law_6 13 rfl) (by decide) (fun b132 => ?_) (fun b132 => ?_)
      · have h := p_ifT b132 h
        exact tB_La_law_1701 K l n9 t9 he1 he2 k18 hk18 v1 v2 v3 s127 _ h
      · have h := p_ifF b132 h
        refine g_iconst (dk_La_law_6 14 rfl) (by decide) ?_
        cases h
        exact g_ret rfl rfl (dk_La_law_6 15 rfl) (fun _ => ⟨_, rfl, Or.inl rfl⟩)
    rcases p_iteE h with ⟨b133, h⟩ | ⟨b133, h⟩
    · refine g_tableIn 526 (dk_La_law_0 21 rfl) (by omega) (by omega) (by rw [b133]; rfl) (by decide) ?_
      refine g_aload_n (i := 1) (j := 1) (dk_La_law_6 16 rfl) rfl rfl ?_
      refine g_aload_nS (i := 0) (j := 0) (dk_La_law_6 17 rfl) rfl rfl ?_
      refine g_iload_n (i := 3) (j := 3) (dk_La_law_6 18 rfl) rfl rfl ?_
      refine g_iconst (dk_La_law_6 19 rfl) (by decide) ?_
      refine g_iadd (dk_La_law_6 20 rfl) ?_
      obtain ⟨c134, h⟩ := p_gdE h
      refine g_scr he1 he2 (dk_La_law_6 21 rfl) c134.1 c134.2 ?_
      obtain ⟨c135, h⟩ := p_gdE h
      obtain ⟨r140, s136, q137, h⟩ := p_bdE h
      have t138 := tF_SW_letter K l v1 (t9 ((p_w (v3 + 1)) : Int).toNat) s0 _ q137
      refine g_callV (a := v1) (ci := 10) (q0 := (RX10, TX10, 9)) (As := [p_i (t9 ((p_w (v3 + 1)) : Int).toNat)]) (rest := []) [p_i r140] mt_SW_letter rfl rfl tw_3_182 tw_3_183 tw_3_181 ⟨Nat.le_of_ble_eq_true rfl, Nat.le_of_ble_eq_true rfl⟩ rfl (Nat.le_of_ble_eq_true rfl) (dk_La_law_6 22 rfl) rfl c135 rfl t138 ?_
      have hs139 : p_x s0 s136 := t138.1
      show p_Go K l m_La_law 535 [(0, p_s 9), (1, p_r v1), (2, p_r v2), (3, p_i v3)] [p_i r140] s136 _
      refine g_aload_n (i := 2) (j := 2) (dk_La_law_6 23 rfl) rfl rfl ?_
      refine g_aload_nS (i := 0) (j := 0) (dk_La_law_6 24 rfl) rfl rfl ?_
      refine g_iload_n (i := 3) (j := 3) (dk_La_law_6 25 rfl) rfl rfl ?_
      refine g_iconst (dk_La_law_6 26 rfl) (by decide) ?_
      refine g_iadd (dk_La_law_6 27 rfl) ?_
      obtain ⟨c141, h⟩ := p_gdE h
      refine g_scr he1 he2 (dk_La_law_6 28 rfl) c141.1 c141.2 ?_
      obtain ⟨c142, h⟩ := p_gdE h
      obtain ⟨r147, s143, q144, h⟩ := p_bdE h
      have t145 := tF_Mo_letter K l v2 (t9 ((p_w (v3 + 1)) : Int).toNat) s136 _ q144
      refine g_callV (a := v2) (ci := 11) (q0 := (RX11, TX11, 90)) (As := [p_i (t9 ((p_w (v3 + 1)) : Int).toNat)]) (rest := [p_i r140]) [p_i r147, p_i r140] mt_Mo_letter rfl rfl tw_7_151 tw_7_152 tw_7_150 ⟨Nat.le_of_ble_eq_true rfl, Nat.le_of_ble_eq_true rfl⟩ rfl (Nat.le_of_ble_eq_true rfl) (dk_La_law_6 29 rfl) rfl c142 rfl t145 ?_
      have hs146 : p_x s136 s143 := t145.1
      show p_Go K l m_La_law 544 [(0, p_s 9), (1, p_r v1), (2, p_r v2), (3, p_i v3)] [p_i r147, p_i r140] s143 _
      refine g_icmp_eq 1701 (dk_La_law_6 30 rfl) (by decide) (fun b148 => ?_) (fun b148 => ?_)
      · have h := p_ifT b148 h
        exact tB_La_law_1701 K l n9 t9 he1 he2 k18 hk18 v1 v2 v3 s143 _ h
      · have h := p_ifF b148 h
        refine g_iconst (dk_La_law_6 31 rfl) (by decide) ?_
        cases h
        exact g_ret rfl rfl (dk_La_law_6 32 rfl) (fun _ => ⟨_, rfl, Or.inl rfl⟩)
    rcases p_iteE h with ⟨b149, h⟩ | ⟨b149, h⟩
    · refine g_tableIn 549 (dk_La_law_0 21 rfl) (by omega) (by omega) (by rw [b149]; rfl) (by decide) ?_
      refine g_aload_n (i := 1) (j := 1) (dk_La_law_6 33 rfl) rfl rfl ?_
      obtain ⟨c150, h⟩ := p_gdE h
      obtain ⟨r155, s151, q152, h⟩ := p_bdE h
      have t153 := tF_SW_load K l v1 s0 _ q152
      refine g_callV (a := v1) (ci := 10) (q0 := (RX10, TX10, 9)) (As := []) (rest := []) [p_i r155] mt_SW_load rfl rfl tw_3_186 tw_3_187 tw_3_185 ⟨Nat.le_of_ble_eq_true rfl, Nat.le_of_ble_eq_true rfl⟩ rfl (Nat.le_of_ble_eq_true rfl) (dk_La_law_6 34 rfl) rfl c150 rfl t153 ?_
      have hs154 : p_x s0 s151 := t153.1
      show p_Go K l m_La_law 553 [(0, p_s 9), (1, p_r v1), (2, p_r v2), (3, p_i v3)] [p_i r155] s151 _
      refine g_aload_n (i := 2) (j := 2) (dk_La_law_6 35 rfl) rfl rfl ?_
      obtain ⟨c156, h⟩ := p_gdE h
      obtain ⟨r161, s157, q158, h⟩ := p_bdE h
      have t159 := tF_Mo_load K l v2 s151 _ q158
      refine g_callV (a := v2) (ci := 11) (q0 := (RX11, TX11, 90)) (As := []) (rest := [p_i r155]) [p_i r161, p_i r155] mt_Mo_load rfl rfl tw_7_157 tw_7_158 tw_7_156 ⟨Nat.le_of_ble_eq_true rfl, Nat.le_of_ble_eq_true rfl⟩ rfl (Nat.le_of_ble_eq_true rfl) (dk_La_law_6 36 rfl) rfl c156 rfl t159 ?_
      have hs160 : p_x s151 s157 := t159.1
      show p_Go K l m_La_law 557 [(0, p_s 9), (1, p_r v1), (2, p_r v2), (3, p_i v3)] [p_i r161, p_i r155] s157 _
      refine g_icmp_eq 1701 (dk_La_law_6 37 rfl) (by decide) (fun b162 => ?_) (fun b162 => ?_)
      · have h := p_ifT b162 h
        exact tB_La_law_1701 K l n9 t9 he1 he2 k18 hk18 v1 v2 v3 s157 _ h
      · have h := p_ifF b162 h
        refine g_iconst (dk_La_law_6 38 rfl) (by decide) ?_
        cases h
        exact g_ret rfl rfl (dk_La_law_6 39 rfl) (fun _ => ⟨_, rfl, Or.inl rfl⟩)
    rcases p_iteE h with ⟨b163, h⟩ | ⟨b163, h⟩
    · refine g_tableIn 562 (dk_La_law_0 21 rfl) (by omega) (by omega) (by rw [b163]; rfl) (by decide) ?_
      refine g_aload_n (i := 1) (j := 1) (dk_La_law_7 0 rfl) rfl rfl ?_
      refine g_aload_nS (i := 0) (j := 0) (dk_La_law_7 1 rfl) rfl rfl ?_
      refine g_iload_n (i := 3) (j := 3) (dk_La_law_7 2 rfl) rfl rfl ?_
      refine g_iconst (dk_La_law_7 3 rfl) (by decide) ?_
      refine g_iadd (dk_La_law_7 4 rfl) ?_
      obtain ⟨c164, h⟩ := p_gdE h
      refine g_scr he1 he2 (dk_La_law_7 5 rfl) c164.1 c164.2 ?_
      refine g_aload_nS (i := 0) (j := 0) (dk_La_law_7 6 rfl) rfl rfl ?_
      refine g_iload_n (i := 3) (j := 3) (dk_La_law_7 7 rfl) rfl rfl ?_
      refine g_iconst (dk_La_law_7 8 rfl) (by decide) ?_
      refine g_iadd (dk_La_law_7 9 rfl) ?_
      obtain ⟨c165, h⟩ := p_gdE h
      refine g_scr he1 he2 (dk_La_law_7 10 rfl) c165.1 c165.2 ?_
      refine g_aload_nS (i := 0) (j := 0) (dk_La_law_7 11 rfl) rfl rfl ?_
      refine g_iload_n (i := 3) (j := 3) (dk_La_law_7 12 rfl) rfl rfl ?_
      refine g_iconst (dk_La_law_7 13 rfl) (by decide) ?_
      refine g_iadd (dk_La_law_7 14 rfl) ?_
      obtain ⟨c166, h⟩ := p_gdE h
      refine g_scr he1 he2 (dk_La_law_7 15 rfl) c166.1 c166.2 ?_
      refine g_aload_nS (i := 0) (j := 0) (dk_La_law_7 16 rfl) rfl rfl ?_
      refine g_iload_n (i := 3) (j := 3) (dk_La_law_7 17 rfl) rfl rfl ?_
      refine g_iconst (dk_La_law_7 18 rfl) (by decide) ?_
      refine g_iadd (dk_La_law_7 19 rfl) ?_
      obtain ⟨c167, h⟩ := p_gdE h
      refine g_scr he1 he2 (dk_La_law_7 20 rfl) c167.1 c167.2 ?_
      refine g_aload_nS (i := 0) (j := 0) (dk_La_law_7 21 rfl) rfl rfl ?_
      refine g_iload_n (i := 3) (j := 3) (dk_La_law_7 22 rfl) rfl rfl ?_
      refine g_iconst (dk_La_law_7 23 rfl) (by decide) ?_
      refine g_iadd (dk_La_law_7 24 rfl) ?_
      obtain ⟨c168, h⟩ := p_gdE h
      refine g_scr he1 he2 (dk_La_law_7 25 rfl) c168.1 c168.2 ?_
      obtain ⟨c169, h⟩ := p_gdE h
      obtain ⟨r174, s170, q171, h⟩ := p_bdE h
      have t172 := tF_SW_plan K l v1 (t9 ((p_w (v3 + 1)) : Int).toNat) (t9 ((p_w (v3 + 2)) : Int).toNat) (t9 ((p_w (v3 + 3)) : Int).toNat) (t9 ((p_w (v3 + 4)) : Int).toNat) (t9 ((p_w (v3 + 5)) : Int).toNat) s0 _ q171
      refine g_callV (a := v1) (ci := 10) (q0 := (RX10, TX10, 9)) (As := [p_i (t9 ((p_w (v3 + 1)) : Int).toNat), p_i (t9 ((p_w (v3 + 2)) : Int).toNat), p_i (t9 ((p_w (v3 + 3)) : Int).toNat), p_i (t9 ((p_w (v3 + 4)) : Int).toNat), p_i (t9 ((p_w (v3 + 5)) : Int).toNat)]) (rest := []) [p_i r174] mt_SW_plan rfl rfl tw_3_223 tw_3_224 tw_3_222 ⟨Nat.le_of_ble_eq_true rfl, Nat.le_of_ble_eq_true rfl⟩ rfl (Nat.le_of_ble_eq_true rfl) (dk_La_law_7 26 rfl) rfl c169 rfl t172 ?_
      have hs173 : p_x s0 s170 := t172.1
      show p_Go K l m_La_law 591 [(0, p_s 9), (1, p_r v1), (2, p_r v2), (3, p_i v3)] [p_i r174] s170 _
      refine g_aload_n (i := 2) (j := 2) (dk_La_law_7 27 rfl) rfl rfl ?_
      refine g_aload_nS (i := 0) (j := 0) (dk_La_law_7 28 rfl) rfl rfl ?_
      refine g_iload_n (i := 3) (j := 3) (dk_La_law_7 29 rfl) rfl rfl ?_
      refine g_iconst (dk_La_law_7 30 rfl) (by decide) ?_
      refine g_iadd (dk_La_law_7 31 rfl) ?_
      obtain ⟨c175, h⟩ := p_gdE h
      refine g_scr he1 he2 (dk_La_law_7 32 rfl) c175.1 c175.2 ?_
      refine g_aload_nS (i := 0) (j := 0) (dk_La_law_7 33 rfl) rfl rfl ?_
      refine g_iload_n (i := 3) (j := 3) (dk_La_law_7 34 rfl) rfl rfl ?_
      refine g_iconst (dk_La_law_7 35 rfl) (by decide) ?_
      refine g_iadd (dk_La_law_7 36 rfl) ?_
      obtain ⟨c176, h⟩ := p_gdE h
      refine g_scr he1 he2 (dk_La_law_7 37 rfl) c176.1 c176.2 ?_
      refine g_aload_nS (i := 0) (j := 0) (dk_La_law_7 38 rfl) rfl rfl ?_
      refine g_iload_n (i := 3) (j := 3) (dk_La_law_7 39 rfl) rfl rfl ?_
      refine g_iconst (dk_La_law_8 0 rfl) (by decide) ?_
      refine g_iadd (dk_La_law_8 1 rfl) ?_
      obtain ⟨c177, h⟩ := p_gdE h
      refine g_scr he1 he2 (dk_La_law_8 2 rfl) c177.1 c177.2 ?_
      refine g_aload_nS (i := 0) (j := 0) (dk_La_law_8 3 rfl) rfl rfl ?_
      refine g_iload_n (i := 3) (j := 3) (dk_La_law_8 4 rfl) rfl rfl ?_
      refine g_iconst (dk_La_law_8 5 rfl) (by decide) ?_
      refine g_iadd (dk_La_law_8 6 rfl) ?_
      obtain ⟨c178, h⟩ := p_gdE h
      refine g_scr he1 he2 (dk_La_law_8 7 rfl) c178.1 c178.2 ?_
      refine g_aload_nS (i := 0) (j := 0) (dk_La_law_8 8 rfl) rfl rfl ?_
      refine g_iload_n (i := 3) (j := 3) (dk_La_law_8 9 rfl) rfl rfl ?_
      refine g_iconst (dk_La_law_8 10 rfl) (by decide) ?_
      refine g_iadd (dk_La_law_8 11 rfl) ?_
      obtain ⟨c179, h⟩ := p_gdE h
      refine g_scr he1 he2 (dk_La_law_8 12 rfl) c179.1 c179.2 ?_
      obtain ⟨c180, h⟩ := p_gdE h
      obtain ⟨r185, s181, q182, h⟩ := p_bdE h
      have t183 := tF_Mo_plan K l v2 (t9 ((p_w (v3 + 1)) : Int).toNat) (t9 ((p_w (v3 + 2)) : Int).toNat) (t9 ((p_w (v3 + 3)) : Int).toNat) (t9 ((p_w (v3 + 4)) : Int).toNat) (t9 ((p_w (v3 + 5)) : Int).toNat) s170 _ q182
      refine g_callV (a := v2) (ci := 11) (q0 := (RX11, TX11, 90)) (As := [p_i (t9 ((p_w (v3 + 1)) : Int).toNat), p_i (t9 ((p_w (v3 + 2)) : Int).toNat), p_i (t9 ((p_w (v3 + 3)) : Int).toNat), p_i (t9 ((p_w (v3 + 4)) : Int).toNat), p_i (t9 ((p_w (v3 + 5)) : Int).toNat)]) (rest := [p_i r174]) [p_i r185, p_i r174] mt_Mo_plan rfl rfl tw_7_188 tw_7_189 tw_7_187 ⟨Nat.le_of_ble_eq_true rfl, Nat.le_of_ble_eq_true rfl⟩ rfl (Nat.le_of_ble_eq_true rfl) (dk_La_law_8 13 rfl) rfl c180 rfl t183 ?_
      have hs184 : p_x s170 s181 := t183.1
      show p_Go K l m_La_law 620 [(0, p_s 9), (1, p_r v1), (2, p_r v2), (3, p_i v3)] [p_i r185, p_i r174] s181 _
      refine g_icmp_eq 1701 (dk_La_law_8 14 rfl) (by decide) (fun b186 => ?_) (fun b186 => ?_)
      · have h := p_ifT b186 h
        exact tB_La_law_1701 K l n9 t9 he1 he2 k18 hk18 v1 v2 v3 s181 _ h
      · have h := p_ifF b186 h
        refine g_iconst (dk_La_law_8 15 rfl) (by decide) ?_
        cases h
        exact g_ret rfl rfl (dk_La_law_8 16 rfl) (fun _ => ⟨_, rfl, Or.inl rfl⟩)
    rcases p_iteE h with ⟨b187, h⟩ | ⟨b187, h⟩
    · refine g_tableIn 625 (dk_La_law_0 21 rfl) (by omega) (by omega) (by rw [b187]; rfl) (by decide) ?_
      refine g_aload_n (i := 1) (j := 1) (dk_La_law_8 17 rfl) rfl rfl ?_
      refine g_aload_nS (i := 0) (j := 0) (dk_La_law_8 18 rfl) rfl rfl ?_
      refine g_iload_n (i := 3) (j := 3) (dk_La_law_8 19 rfl) rfl rfl ?_
      refine g_iconst (dk_La_law_8 20 rfl) (by decide) ?_
      refine g_iadd (dk_La_law_8 21 rfl) ?_
      obtain ⟨c188, h⟩ := p_gdE h
      refine g_scr he1 he2 (dk_La_law_8 22 rfl) c188.1 c188.2 ?_
      refine g_aload_nS (i := 0) (j := 0) (dk_La_law_8 23 rfl) rfl rfl ?_
      refine g_iload_n (i := 3) (j := 3) (dk_La_law_8 24 rfl) rfl rfl ?_
      refine g_iconst (dk_La_law_8 25 rfl) (by decide) ?_
      refine g_iadd (dk_La_law_8 26 rfl) ?_
      obtain ⟨c189, h⟩ := p_gdE h
      refine g_scr he1 he2 (dk_La_law_8 27 rfl) c189.1 c189.2 ?_
      refine g_aload_nS (i := 0) (j := 0) (dk_La_law_8 28 rfl) rfl rfl ?_
      refine g_iload_n (i := 3) (j := 3) (dk_La_law_8 29 rfl) rfl rfl ?_
      refine g_iconst (dk_La_law_8 30 rfl) (by decide) ?_
      refine g_iadd (dk_La_law_8 31 rfl) ?_
      obtain ⟨c190, h⟩ := p_gdE h
      refine g_scr he1 he2 (dk_La_law_8 32 rfl) c190.1 c190.2 ?_
      obtain ⟨c191, h⟩ := p_gdE h
      obtain ⟨r196, s192, q193, h⟩ := p_bdE h
      have t194 := tF_SW_come K l v1 (t9 ((p_w (v3 + 1)) : Int).toNat) (t9 ((p_w (v3 + 2)) : Int).toNat) (t9 ((p_w (v3 + 3)) : Int).toNat) s0 _ q193
      refine g_callV (a := v1) (ci := 10) (q0 := (RX10, TX10, 9)) (As := [p_i (t9 ((p_w (v3 + 1)) : Int).toNat), p_i (t9 ((p_w (v3 + 2)) : Int).toNat), p_i (t9 ((p_w (v3 + 3)) : Int).toNat)]) (rest := []) [p_i r196] mt_SW_come rfl rfl tw_3_227 tw_3_228 tw_3_226 ⟨Nat.le_of_ble_eq_true rfl, Nat.le_of_ble_eq_true rfl⟩ rfl (Nat.le_of_ble_eq_true rfl) (dk_La_law_8 33 rfl) rfl c191 rfl t194 ?_
      have hs195 : p_x s0 s192 := t194.1
      show p_Go K l m_La_law 644 [(0, p_s 9), (1, p_r v1), (2, p_r v2), (3, p_i v3)] [p_i r196] s192 _
      refine g_aload_n (i := 2) (j := 2) (dk_La_law_8 34 rfl) rfl rfl ?_
      refine g_aload_nS (i := 0) (j := 0) (dk_La_law_8 35 rfl) rfl rfl ?_
      refine g_iload_n (i := 3) (j := 3) (dk_La_law_8 36 rfl) rfl rfl ?_
      refine g_iconst (dk_La_law_8 37 rfl) (by decide) ?_
      refine g_iadd (dk_La_law_8 38 rfl) ?_
      obtain ⟨c197, h⟩ := p_gdE h
      refine g_scr he1 he2 (dk_La_law_8 39 rfl) c197.1 c197.2 ?_
      refine g_aload_nS (i := 0) (j := 0) (dk_La_law_9 0 rfl) rfl rfl ?_
      refine g_iload_n (i := 3) (j := 3) (dk_La_law_9 1 rfl) rfl rfl ?_
      refine g_iconst (dk_La_law_9 2 rfl) (by decide) ?_
      refine g_iadd (dk_La_law_9 3 rfl) ?_
      obtain ⟨c198, h⟩ := p_gdE h
      refine g_scr he1 he2 (dk_La_law_9 4 rfl) c198.1 c198.2 ?_
      refine g_aload_nS (i := 0) (j := 0) (dk_La_law_9 5 rfl) rfl rfl ?_
      refine g_iload_n (i := 3) (j := 3) (dk_La_law_9 6 rfl) rfl rfl ?_
      refine g_iconst (dk_La_law_9 7 rfl) (by decide) ?_
      refine g_iadd (dk_La_law_9 8 rfl) ?_
      obtain ⟨c199, h⟩ := p_gdE h
      refine g_scr he1 he2 (dk_La_law_9 9 rfl) c199.1 c199.2 ?_
      obtain ⟨c200, h⟩ := p_gdE h
      obtain ⟨r205, s201, q202, h⟩ := p_bdE h
      have t203 := tF_Mo_come K l v2 (t9 ((p_w (v3 + 1)) : Int).toNat) (t9 ((p_w (v3 + 2)) : Int).toNat) (t9 ((p_w (v3 + 3)) : Int).toNat) s192 _ q202
      refine g_callV (a := v2) (ci := 11) (q0 := (RX11, TX11, 90)) (As := [p_i (t9 ((p_w (v3 + 1)) : Int).toNat), p_i (t9 ((p_w (v3 + 2)) : Int).toNat), p_i (t9 ((p_w (v3 + 3)) : Int).toNat)]) (rest := [p_i r196]) [p_i r205, p_i r196] mt_Mo_come rfl rfl tw_7_194 tw_7_195 tw_7_193 ⟨Nat.le_of_ble_eq_true rfl, Nat.le_of_ble_eq_true rfl⟩ rfl (Nat.le_of_ble_eq_true rfl) (dk_La_law_9 10 rfl) rfl c200 rfl t203 ?_
      have hs204 : p_x s192 s201 := t203.1
      show p_Go K l m_La_law 663 [(0, p_s 9), (1, p_r v1), (2, p_r v2), (3, p_i v3)] [p_i r205, p_i r196] s201 _
      refine g_icmp_eq 1701 (dk_La_law_9 11 rfl) (by decide) (fun b206 => ?_) (fun b206 => ?_)
      · have h := p_ifT b206 h
        exact tB_La_law_1701 K l n9 t9 he1 he2 k18 hk18 v1 v2 v3 s201 _ h
      · have h := p_ifF b206 h
        refine g_iconst (dk_La_law_9 12 rfl) (by decide) ?_
        cases h
        exact g_ret rfl rfl (dk_La_law_9 13 rfl) (fun _ => ⟨_, rfl, Or.inl rfl⟩)
    rcases p_iteE h with ⟨b207, h⟩ | ⟨b207, h⟩
    · refine g_tableIn 668 (dk_La_law_0 21 rfl) (by omega) (by omega) (by rw [b207]; rfl) (by decide) ?_
      refine g_aload_n (i := 1) (j := 1) (dk_La_law_9 14 rfl) rfl rfl ?_
      refine g_aload_nS (i := 0) (j := 0) (dk_La_law_9 15 rfl) rfl rfl ?_
      refine g_iload_n (i := 3) (j := 3) (dk_La_law_9 16 rfl) rfl rfl ?_
      refine g_iconst (dk_La_law_9 17 rfl) (by decide) ?_
      refine g_iadd (dk_La_law_9 18 rfl) ?_
      obtain ⟨c208, h⟩ := p_gdE h
      refine g_scr he1 he2 (dk_La_law_9 19 rfl) c208.1 c208.2 ?_
      refine g_aload_nS (i := 0) (j := 0) (dk_La_law_9 20 rfl) rfl rfl ?_
      refine g_iload_n (i := 3) (j := 3) (dk_La_law_9 21 rfl) rfl rfl ?_
      refine g_iconst (dk_La_law_9 22 rfl) (by decide) ?_
      refine g_iadd (dk_La_law_9 23 rfl) ?_
      obtain ⟨c209, h⟩ := p_gdE h
      refine g_scr he1 he2 (dk_La_law_9 24 rfl) c209.1 c209.2 ?_
      obtain ⟨c210, h⟩ := p_gdE h
      obtain ⟨r215, s211, q212, h⟩ := p_bdE h
      have t213 := tF_SW_label K l v1 (t9 ((p_w (v3 + 1)) : Int).toNat) (t9 ((p_w (v3 + 2)) : Int).toNat) s0 _ q212
      refine g_callV (a := v1) (ci := 10) (q0 := (RX10, TX10, 9)) (As := [p_i (t9 ((p_w (v3 + 1)) : Int).toNat), p_i (t9 ((p_w (v3 + 2)) : Int).toNat)]) (rest := []) [p_i r215] mt_SW_label rfl rfl tw_4_22 tw_4_23 tw_4_21 ⟨Nat.le_of_ble_eq_true rfl, Nat.le_of_ble_eq_true rfl⟩ rfl (Nat.le_of_ble_eq_true rfl) (dk_La_law_9 25 rfl) rfl c210 rfl t213 ?_
      have hs214 : p_x s0 s211 := t213.1
      show p_Go K l m_La_law 682 [(0, p_s 9), (1, p_r v1), (2, p_r v2), (3, p_i v3)] [p_i r215] s211 _
      refine g_aload_n (i := 2) (j := 2) (dk_La_law_9 26 rfl) rfl rfl ?_
      refine g_aload_nS (i := 0) (j := 0) (dk_La_law_9 27 rfl) rfl rfl ?_
      refine g_iload_n (i := 3) (j := 3) (dk_La_law_9 28 rfl) rfl rfl ?_
      refine g_iconst (dk_La_law_9 29 rfl) (by decide) ?_
      refine g_iadd (dk_La_law_9 30 rfl) ?_
      obtain ⟨c216, h⟩ := p_gdE h
      refine g_scr he1 he2 (dk_La_law_9 31 rfl) c216.1 c216.2 ?_
      refine g_aload_nS (i := 0) (j := 0) (dk_La_law_9 32 rfl) rfl rfl ?_
      refine g_iload_n (i := 3) (j := 3) (dk_La_law_9 33 rfl) rfl rfl ?_
      refine g_iconst (dk_La_law_9 34 rfl) (by decide) ?_
      refine g_iadd (dk_La_law_9 35 rfl) ?_
      obtain ⟨c217, h⟩ := p_gdE h
      refine g_scr he1 he2 (dk_La_law_9 36 rfl) c217.1 c217.2 ?_
      obtain ⟨c218, h⟩ := p_gdE h
      obtain ⟨r223, s219, q220, h⟩ := p_bdE h
      have t221 := tF_Mo_label K l v2 (t9 ((p_w (v3 + 1)) : Int).toNat) (t9 ((p_w (v3 + 2)) : Int).toNat) s211 _ q220
      refine g_callV (a := v2) (ci := 11) (q0 := (RX11, TX11, 90)) (As := [p_i (t9 ((p_w (v3 + 1)) : Int).toNat), p_i (t9 ((p_w (v3 + 2)) : Int).toNat)]) (rest := [p_i r215]) [p_i r223, p_i r215] mt_Mo_label rfl rfl tw_7_214 tw_7_215 tw_7_213 ⟨Nat.le_of_ble_eq_true rfl, Nat.le_of_ble_eq_true rfl⟩ rfl (Nat.le_of_ble_eq_true rfl) (dk_La_law_9 37 rfl) rfl c218 rfl t221 ?_
      have hs222 : p_x s211 s219 := t221.1
      show p_Go K l m_La_law 696 [(0, p_s 9), (1, p_r v1), (2, p_r v2), (3, p_i v3)] [p_i r223, p_i r215] s219 _
      refine g_icmp_eq 1701 (dk_La_law_9 38 rfl) (by decide) (fun b224 => ?_) (fun b224 => ?_)
      · have h := p_ifT b224 h
        exact tB_La_law_1701 K l n9 t9 he1 he2 k18 hk18 v1 v2 v3 s219 _ h
      · have h := p_ifF b224 h
        refine g_iconst (dk_La_law_9 39 rfl) (by decide) ?_
        cases h
        exact g_ret rfl rfl (dk_La_law_10 0 rfl) (fun _ => ⟨_, rfl, Or.inl rfl⟩)
    rcases p_iteE h with ⟨b225, h⟩ | ⟨b225, h⟩
    · refine g_tableIn 701 (dk_La_law_0 21 rfl) (by omega) (by omega) (by rw [b225]; rfl) (by decide) ?_
      refine g_aload_n (i := 1) (j := 1) (dk_La_law_10 1 rfl) rfl rfl ?_
      refine g_aload_nS (i := 0) (j := 0) (dk_La_law_10 2 rfl) rfl rfl ?_
      refine g_iload_n (i := 3) (j := 3) (dk_La_law_10 3 rfl) rfl rfl ?_
      refine g_iconst (dk_La_law_10 4 rfl) (by decide) ?_
      refine g_iadd (dk_La_law_10 5 rfl) ?_
      obtain ⟨c226, h⟩ := p_gdE h
      refine g_scr he1 he2 (dk_La_law_10 6 rfl) c226.1 c226.2 ?_
      refine g_aload_nS (i := 0) (j := 0) (dk_La_law_10 7 rfl) rfl rfl ?_
      refine g_iload_n (i := 3) (j := 3) (dk_La_law_10 8 rfl) rfl rfl ?_
      refine g_iconst (dk_La_law_10 9 rfl) (by decide) ?_
      refine g_iadd (dk_La_law_10 10 rfl) ?_
      obtain ⟨c227, h⟩ := p_gdE h
      refine g_scr he1 he2 (dk_La_law_10 11 rfl) c227.1 c227.2 ?_
      refine g_aload_nS (i := 0) (j := 0) (dk_La_law_10 12 rfl) rfl rfl ?_
      refine g_iload_n (i := 3) (j := 3) (dk_La_law_10 13 rfl) rfl rfl ?_
      refine g_iconst (dk_La_law_10 14 rfl) (by decide) ?_
      refine g_iadd (dk_La_law_10 15 rfl) ?_
      obtain ⟨c228, h⟩ := p_gdE h
      refine g_scr he1 he2 (dk_La_law_10 16 rfl) c228.1 c228.2 ?_
      obtain ⟨c229, h⟩ := p_gdE h
      obtain ⟨r234, s230, q231, h⟩ := p_bdE h
      have t232 := tF_SW_put K l v1 (t9 ((p_w (v3 + 1)) : Int).toNat) (t9 ((p_w (v3 + 2)) : Int).toNat) (t9 ((p_w (v3 + 3)) : Int).toNat) s0 _ q231
      refine g_callV (a := v1) (ci := 10) (q0 := (RX10, TX10, 9)) (As := [p_i (t9 ((p_w (v3 + 1)) : Int).toNat), p_i (t9 ((p_w (v3 + 2)) : Int).toNat), p_i (t9 ((p_w (v3 + 3)) : Int).toNat)]) (rest := []) [p_i r234] mt_SW_put rfl rfl tw_4_30 tw_4_31 tw_4_29 ⟨Nat.le_of_ble_eq_true rfl, Nat.le_of_ble_eq_true rfl⟩ rfl (Nat.le_of_ble_eq_true rfl) (dk_La_law_10 17 rfl) rfl c229 rfl t232 ?_
      have hs233 : p_x s0 s230 := t232.1
      show p_Go K l m_La_law 720 [(0, p_s 9), (1, p_r v1), (2, p_r v2), (3, p_i v3)] [p_i r234] s230 _
      refine g_aload_n (i := 2) (j := 2) (dk_La_law_10 18 rfl) rfl rfl ?_
      refine g_aload_nS (i := 0) (j := 0) (dk_La_law_10 19 rfl) rfl rfl ?_
      refine g_iload_n (i := 3) (j := 3) (dk_La_law_10 20 rfl) rfl rfl ?_
      refine g_iconst (dk_La_law_10 21 rfl) (by decide) ?_
      refine g_iadd (dk_La_law_10 22 rfl) ?_
      obtain ⟨c235, h⟩ := p_gdE h
      refine g_scr he1 he2 (dk_La_law_10 23 rfl) c235.1 c235.2 ?_
      refine g_aload_nS (i := 0) (j := 0) (dk_La_law_10 24 rfl) rfl rfl ?_
      refine g_iload_n (i := 3) (j := 3) (dk_La_law_10 25 rfl) rfl rfl ?_
      refine g_iconst (dk_La_law_10 26 rfl) (by decide) ?_
      refine g_iadd (dk_La_law_10 27 rfl) ?_
      obtain ⟨c236, h⟩ := p_gdE h
      refine g_scr he1 he2 (dk_La_law_10 28 rfl) c236.1 c236.2 ?_
      refine g_aload_nS (i := 0) (j := 0) (dk_La_law_10 29 rfl) rfl rfl ?_
      refine g_iload_n (i := 3) (j := 3) (dk_La_law_10 30 rfl) rfl rfl ?_
      refine g_iconst (dk_La_law_10 31 rfl) (by decide) ?_
      refine g_iadd (dk_La_law_10 32 rfl) ?_
      obtain ⟨c237, h⟩ := p_gdE h
      refine g_scr he1 he2 (dk_La_law_10 33 rfl) c237.1 c237.2 ?_
      obtain ⟨c238, h⟩ := p_gdE h
      obtain ⟨r243, s239, q240, h⟩ := p_bdE h
      have t241 := tF_Mo_put K l v2 (t9 ((p_w (v3 + 1)) : Int).toNat) (t9 ((p_w (v3 + 2)) : Int).toNat) (t9 ((p_w (v3 + 3)) : Int).toNat) s230 _ q240
      refine g_callV (a := v2) (ci := 11) (q0 := (RX11, TX11, 90)) (As := [p_i (t9 ((p_w (v3 + 1)) : Int).toNat), p_i (t9 ((p_w (v3 + 2)) : Int).toNat), p_i (t9 ((p_w (v3 + 3)) : Int).toNat)]) (rest := [p_i r234]) [p_i r243, p_i r234] mt_Mo_put rfl rfl tw_7_226 tw_7_227 tw_7_225 ⟨Nat.le_of_ble_eq_true rfl, Nat.le_of_ble_eq_true rfl⟩ rfl (Nat.le_of_ble_eq_true rfl) (dk_La_law_10 34 rfl) rfl c238 rfl t241 ?_
      have hs242 : p_x s230 s239 := t241.1
      show p_Go K l m_La_law 739 [(0, p_s 9), (1, p_r v1), (2, p_r v2), (3, p_i v3)] [p_i r243, p_i r234] s239 _
      refine g_icmp_eq 1701 (dk_La_law_10 35 rfl) (by decide) (fun b244 => ?_) (fun b244 => ?_)
      · have h := p_ifT b244 h
        exact tB_La_law_1701 K l n9 t9 he1 he2 k18 hk18 v1 v2 v3 s239 _ h
      · have h := p_ifF b244 h
        refine g_iconst (dk_La_law_10 36 rfl) (by decide) ?_
        cases h
        exact g_ret rfl rfl (dk_La_law_10 37 rfl) (fun _ => ⟨_, rfl, Or.inl rfl⟩)
    rcases p_iteE h with ⟨b245, h⟩ | ⟨b245, h⟩
    · refine g_tableIn 744 (dk_La_law_0 21 rfl) (by omega) (by omega) (by rw [b245]; rfl) (by decide) ?_
      refine g_aload_n (i := 1) (j := 1) (dk_La_law_10 38 rfl) rfl rfl ?_
      refine g_aload_nS (i := 0) (j := 0) (dk_La_law_10 39 rfl) rfl rfl ?_
      refine g_iload_n (i := 3) (j := 3) (dk_La_law_11 0 rfl) rfl rfl ?_
      refine g_iconst (dk_La_law_11 1 rfl) (by decide) ?_
      refine g_iadd (dk_La_law_11 2 rfl) ?_
      obtain ⟨c246, h⟩ := p_gdE h
      refine g_scr he1 he2 (dk_La_law_11 3 rfl) c246.1 c246.2 ?_
      refine g_aload_nS (i := 0) (j := 0) (dk_La_law_11 4 rfl) rfl rfl ?_
      refine g_iload_n (i := 3) (j := 3) (dk_La_law_11 5 rfl) rfl rfl ?_
      refine g_iconst (dk_La_law_11 6 rfl) (by decide) ?_
      refine g_iadd (dk_La_law_11 7 rfl) ?_
      obtain ⟨c247, h⟩ := p_gdE h
      refine g_scr he1 he2 (dk_La_law_11 8 rfl) c247.1 c247.2 ?_
      refine g_aload_nS (i := 0) (j := 0) (dk_La_law_11 9 rfl) rfl rfl ?_
      refine g_iload_n (i := 3) (j := 3) (dk_La_law_11 10 rfl) rfl rfl ?_
      refine g_iconst (dk_La_law_11 11 rfl) (by decide) ?_
      refine g_iadd (dk_La_law_11 12 rfl) ?_
      obtain ⟨c248, h⟩ := p_gdE h
      refine g_scr he1 he2 (dk_La_law_11 13 rfl) c248.1 c248.2 ?_
      obtain ⟨c249, h⟩ := p_gdE h
      obtain ⟨r254, s250, q251, h⟩ := p_bdE h
      have t252 := tF_SW_tag K l v1 (t9 ((p_w (v3 + 1)) : Int).toNat) (t9 ((p_w (v3 + 2)) : Int).toNat) (t9 ((p_w (v3 + 3)) : Int).toNat) s0 _ q251
      refine g_callV (a := v1) (ci := 10) (q0 := (RX10, TX10, 9)) (As := [p_i (t9 ((p_w (v3 + 1)) : Int).toNat), p_i (t9 ((p_w (v3 + 2)) : Int).toNat), p_i (t9 ((p_w (v3 + 3)) : Int).toNat)]) (rest := []) [p_i r254] mt_SW_tag rfl rfl tw_4_34 tw_4_35 tw_4_33 ⟨Nat.le_of_ble_eq_true rfl, Nat.le_of_ble_eq_true rfl⟩ rfl (Nat.le_of_ble_eq_true rfl) (dk_La_law_11 14 rfl) rfl c249 rfl t252 ?_
      have hs253 : p_x s0 s250 := t252.1
      show p_Go K l m_La_law 763 [(0, p_s 9), (1, p_r v1), (2, p_r v2), (3, p_i v3)] [p_i r254] s250 _
      refine g_aload_n (i := 2) (j := 2) (dk_La_law_11 15 rfl) rfl rfl ?_
      refine g_aload_nS (i := 0) (j := 0) (dk_La_law_11 16 rfl) rfl rfl ?_
      refine g_iload_n (i := 3) (j := 3) (dk_La_law_11 17 rfl) rfl rfl ?_
      refine g_iconst (dk_La_law_11 18 rfl) (by decide) ?_
      refine g_iadd (dk_La_law_11 19 rfl) ?_
      obtain ⟨c255, h⟩ := p_gdE h
      refine g_scr he1 he2 (dk_La_law_11 20 rfl) c255.1 c255.2 ?_
      refine g_aload_nS (i := 0) (j := 0) (dk_La_law_11 21 rfl) rfl rfl ?_
      refine g_iload_n (i := 3) (j := 3) (dk_La_law_11 22 rfl) rfl rfl ?_
      refine g_iconst (dk_La_law_11 23 rfl) (by decide) ?_
      refine g_iadd (dk_La_law_11 24 rfl) ?_
      obtain ⟨c256, h⟩ := p_gdE h
      refine g_scr he1 he2 (dk_La_law_11 25 rfl) c256.1 c256.2 ?_
      refine g_aload_nS (i := 0) (j := 0) (dk_La_law_11 26 rfl) rfl rfl ?_
      refine g_iload_n (i := 3) (j := 3) (dk_La_law_11 27 rfl) rfl rfl ?_
      refine g_iconst (dk_La_law_11 28 rfl) (by decide) ?_
      refine g_iadd (dk_La_law_11 29 rfl) ?_
      obtain ⟨c257, h⟩ := p_gdE h
      refine g_scr he1 he2 (dk_La_law_11 30 rfl) c257.1 c257.2 ?_
      obtain ⟨c258, h⟩ := p_gdE h
      obtain ⟨r263, s259, q260, h⟩ := p_bdE h
      have t261 := tF_Mo_tag K l v2 (t9 ((p_w (v3 + 1)) : Int).toNat) (t9 ((p_w (v3 + 2)) : Int).toNat) (t9 ((p_w (v3 + 3)) : Int).toNat) s250 _ q260
      refine g_callV (a := v2) (ci := 11) (q0 := (RX11, TX11, 90)) (As := [p_i (t9 ((p_w (v3 + 1)) : Int).toNat), p_i (t9 ((p_w (v3 + 2)) : Int).toNat), p_i (t9 ((p_w (v3 + 3)) : Int).toNat)]) (rest := [p_i r254]) [p_i r263, p_i r254] mt_Mo_tag rfl rfl tw_7_230 tw_7_231 tw_7_229 ⟨Nat.le_of_ble_eq_true rfl, Nat.le_of_ble_eq_true rfl⟩ rfl (Nat.le_of_ble_eq_true rfl) (dk_La_law_11 31 rfl) rfl c258 rfl t261 ?_
      have hs262 : p_x s250 s259 := t261.1
      show p_Go K l m_La_law 782 [(0, p_s 9), (1, p_r v1), (2, p_r v2), (3, p_i v3)] [p_i r263, p_i r254] s259 _
      refine g_icmp_eq 1701 (dk_La_law_11 32 rfl) (by decide) (fun b264 => ?_) (fun b264 => ?_)
      · have h := p_ifT b264 h
        exact tB_La_law_1701 K l n9 t9 he1 he2 k18 hk18 v1 v2 v3 s259 _ h
      · have h := p_ifF b264 h
        refine g_iconst (dk_La_law_11 33 rfl) (by decide) ?_
        cases h
        exact g_ret rfl rfl (dk_La_law_11 34 rfl) (fun _ => ⟨_, rfl, Or.inl rfl⟩)
    rcases p_iteE h with ⟨b265, h⟩ | ⟨b265, h⟩
    · refine g_tableIn 787 (dk_La_law_0 21 rfl) (by omega) (by omega) (by rw [b265]; rfl) (by decide) ?_
      refine g_aload_n (i := 1) (j := 1) (dk_La_law_11 35 rfl) rfl rfl ?_
      refine g_aload_nS (i := 0) (j := 0) (dk_La_law_11 36 rfl) rfl rfl ?_
      refine g_iload_n (i := 3) (j := 3) (dk_La_law_11 37 rfl) rfl rfl ?_
      refine g_iconst (dk_La_law_11 38 rfl) (by decide) ?_
      refine g_iadd (dk_La_law_11 39 rfl) ?_
      obtain ⟨c266, h⟩ := p_gdE h
      refine g_scr he1 he2 (dk_La_law_12 0 rfl) c266.1 c266.2 ?_
      refine g_aload_nS (i := 0) (j := 0) (dk_La_law_12 1 rfl) rfl rfl ?_
      refine g_iload_n (i := 3) (j := 3) (dk_La_law_12 2 rfl) rfl rfl ?_
      refine g_iconst (dk_La_law_12 3 rfl) (by decide) ?_
      refine g_iadd (dk_La_law_12 4 rfl) ?_
      obtain ⟨c267, h⟩ := p_gdE h
      refine g_scr he1 he2 (dk_La_law_12 5 rfl) c267.1 c267.2 ?_
      refine g_if_eq 805 (dk_La_law_12 6 rfl) (by decide) (fun b268 => ?_) (fun b268 => ?_)
      · have h := p_ifT b268 h
        refine g_iconst (dk_La_law_12 9 rfl) (by decide) ?_
        exact tB_La_law_806 K l n9 t9 he1 he2 k18 hk18 v1 v2 v3 0 (t9 ((p_w (v3 + 1)) : Int).toNat) v1 s0 _ h
      · have h := p_ifF b268 h
        refine g_iconst (dk_La_law_12 7 rfl) (by decide) ?_
        refine g_goto 806 (dk_La_law_12 8 rfl) (by decide) ?_
        exact tB_La_law_806 K l n9 t9 he1 he2 k18 hk18 v1 v2 v3 1 (t9 ((p_w (v3 + 1)) : Int).toNat) v1 s0 _ h
    rcases p_iteE h with ⟨b269, h⟩ | ⟨b269, h⟩
    · refine g_tableIn 836 (dk_La_law_0 21 rfl) (by omega) (by omega) (by rw [b269]; rfl) (by decide) ?_
      refine g_aload_n (i := 1) (j := 1) (dk_La_law_12 30 rfl) rfl rfl ?_
      refine g_aload_nS (i := 0) (j := 0) (dk_La_law_12 31 rfl) rfl rfl ?_
      refine g_iload_n (i := 3) (j := 3) (dk_La_law_12 32 rfl) rfl rfl ?_
      refine g_iconst (dk_La_law_12 33 rfl) (by decide) ?_
      refine g_iadd (dk_La_law_12 34 rfl) ?_
      obtain ⟨c270, h⟩ := p_gdE h
      refine g_scr he1 he2 (dk_La_law_12 35 rfl) c270.1 c270.2 ?_
      refine g_aload_nS (i := 0) (j := 0) (dk_La_law_12 36 rfl) rfl rfl ?_
      refine g_iload_n (i := 3) (j := 3) (dk_La_law_12 37 rfl) rfl rfl ?_
      refine g_iconst (dk_La_law_12 38 rfl) (by decide) ?_
      refine g_iadd (dk_La_law_12 39 rfl) ?_
      obtain ⟨c271, h⟩ := p_gdE h
      refine g_scr he1 he2 (dk_La_law_13 0 rfl) c271.1 c271.2 ?_
      obtain ⟨c272, h⟩ := p_gdE h
      obtain ⟨r277, s273, q274, h⟩ := p_bdE h
      have t275 := tF_SW_turn K l v1 (t9 ((p_w (v3 + 1)) : Int).toNat) (t9 ((p_w (v3 + 2)) : Int).toNat) s0 _ q274
      refine g_callV (a := v1) (ci := 10) (q0 := (RX10, TX10, 9)) (As := [p_i (t9 ((p_w (v3 + 1)) : Int).toNat), p_i (t9 ((p_w (v3 + 2)) : Int).toNat)]) (rest := []) [p_i r277] mt_SW_turn rfl rfl tw_4_54 tw_4_55 tw_4_53 ⟨Nat.le_of_ble_eq_true rfl, Nat.le_of_ble_eq_true rfl⟩ rfl (Nat.le_of_ble_eq_true rfl) (dk_La_law_13 1 rfl) rfl c272 rfl t275 ?_
      have hs276 : p_x s0 s273 := t275.1
      show p_Go K l m_La_law 850 [(0, p_s 9), (1, p_r v1), (2, p_r v2), (3, p_i v3)] [p_i r277] s273 _
      refine g_aload_n (i := 2) (j := 2) (dk_La_law_13 2 rfl) rfl rfl ?_
      refine g_aload_nS (i := 0) (j := 0) (dk_La_law_13 3 rfl) rfl rfl ?_
      refine g_iload_n (i := 3) (j := 3) (dk_La_law_13 4 rfl) rfl rfl ?_
      refine g_iconst (dk_La_law_13 5 rfl) (by decide) ?_
      refine g_iadd (dk_La_law_13 6 rfl) ?_
      obtain ⟨c278, h⟩ := p_gdE h
      refine g_scr he1 he2 (dk_La_law_13 7 rfl) c278.1 c278.2 ?_
      refine g_aload_nS (i := 0) (j := 0) (dk_La_law_13 8 rfl) rfl rfl ?_
      refine g_iload_n (i := 3) (j := 3) (dk_La_law_13 9 rfl) rfl rfl ?_
      refine g_iconst (dk_La_law_13 10 rfl) (by decide) ?_
      refine g_iadd (dk_La_law_13 11 rfl) ?_
      obtain ⟨c279, h⟩ := p_gdE h
      refine g_scr he1 he2 (dk_La_law_13 12 rfl) c279.1 c279.2 ?_
      obtain ⟨c280, h⟩ := p_gdE h
      obtain ⟨r285, s281, q282, h⟩ := p_bdE h
      have t283 := tF_Mo_turn K l v2 (t9 ((p_w (v3 + 1)) : Int).toNat) (t9 ((p_w (v3 + 2)) : Int).toNat) s273 _ q282
      refine g_callV (a := v2) (ci := 11) (q0 := (RX11, TX11, 90)) (As := [p_i (t9 ((p_w (v3 + 1)) : Int).toNat), p_i (t9 ((p_w (v3 + 2)) : Int).toNat)]) (rest := [p_i r277]) [p_i r285, p_i r277] mt_Mo_turn rfl rfl tw_8_3 tw_8_4 tw_8_2 ⟨Nat.le_of_ble_eq_true rfl, Nat.le_of_ble_eq_true rfl⟩ rfl (Nat.le_of_ble_eq_true rfl) (dk_La_law_13 13 rfl) rfl c280 rfl t283 ?_
      have hs284 : p_x s273 s281 := t283.1
      show p_Go K l m_La_law 864 [(0, p_s 9), (1, p_r v1), (2, p_r v2), (3, p_i v3)] [p_i r285, p_i r277] s281 _
      refine g_icmp_eq 1701 (dk_La_law_13 14 rfl) (by decide) (fun b286 => ?_) (fun b286 => ?_)
      · have h := p_ifT b286 h
        exact tB_La_law_1701 K l n9 t9 he1 he2 k18 hk18 v1 v2 v3 s281 _ h
      · have h := p_ifF b286 h
        refine g_iconst (dk_La_law_13 15 rfl) (by decide) ?_
        cases h
        exact g_ret rfl rfl (dk_La_law_13 16 rfl) (fun _ => ⟨_, rfl, Or.inl rfl⟩)
    rcases p_iteE h with ⟨b287, h⟩ | ⟨b287, h⟩
    · refine g_tableIn 869 (dk_La_law_0 21 rfl) (by omega) (by omega) (by rw [b287]; rfl) (by decide) ?_
      refine g_aload_n (i := 1) (j := 1) (dk_La_law_13 17 rfl) rfl rfl ?_
      refine g_aload_nS (i := 0) (j := 0) (dk_La_law_13 18 rfl) rfl rfl ?_
      refine g_iload_n (i := 3) (j := 3) (dk_La_law_13 19 rfl) rfl rfl ?_
      refine g_iconst (dk_La_law_13 20 rfl) (by decide) ?_
      refine g_iadd (dk_La_law_13 21 rfl) ?_
      obtain ⟨c288, h⟩ := p_gdE h
      refine g_scr he1 he2 (dk_La_law_13 22 rfl) c288.1 c288.2 ?_
      refine g_aload_nS (i := 0) (j := 0) (dk_La_law_13 23 rfl) rfl rfl ?_
      refine g_iload_n (i := 3) (j := 3) (dk_La_law_13 24 rfl) rfl rfl ?_
      refine g_iconst (dk_La_law_13 25 rfl) (by decide) ?_
      refine g_iadd (dk_La_law_13 26 rfl) ?_
      obtain ⟨c289, h⟩ := p_gdE h
      refine g_scr he1 he2 (dk_La_law_13 27 rfl) c289.1 c289.2 ?_
      obtain ⟨c290, h⟩ := p_gdE h
      obtain ⟨r295, s291, q292, h⟩ := p_bdE h
      have t293 := tF_SW_release K l v1 (t9 ((p_w (v3 + 1)) : Int).toNat) (t9 ((p_w (v3 + 2)) : Int).toNat) s0 _ q292
      refine g_callV (a := v1) (ci := 10) (q0 := (RX10, TX10, 9)) (As := [p_i (t9 ((p_w (v3 + 1)) : Int).toNat), p_i (t9 ((p_w (v3 + 2)) : Int).toNat)]) (rest := []) [p_i r295] mt_SW_release rfl rfl tw_4_58 tw_4_59 tw_4_57 ⟨Nat.le_of_ble_eq_true rfl, Nat.le_of_ble_eq_true rfl⟩ rfl (Nat.le_of_ble_eq_true rfl) (dk_La_law_13 28 rfl) rfl c290 rfl t293 ?_
      have hs294 : p_x s0 s291 := t293.1
      show p_Go K l m_La_law 883 [(0, p_s 9), (1, p_r v1), (2, p_r v2), (3, p_i v3)] [p_i r295] s291 _
      refine g_aload_n (i := 2) (j := 2) (dk_La_law_13 29 rfl) rfl rfl ?_
      refine g_aload_nS (i := 0) (j := 0) (dk_La_law_13 30 rfl) rfl rfl ?_
      refine g_iload_n (i := 3) (j := 3) (dk_La_law_13 31 rfl) rfl rfl ?_
      refine g_iconst (dk_La_law_13 32 rfl) (by decide) ?_
      refine g_iadd (dk_La_law_13 33 rfl) ?_
      obtain ⟨c296, h⟩ := p_gdE h
      refine g_scr he1 he2 (dk_La_law_13 34 rfl) c296.1 c296.2 ?_
      refine g_aload_nS (i := 0) (j := 0) (dk_La_law_13 35 rfl) rfl rfl ?_
      refine g_iload_n (i := 3) (j := 3) (dk_La_law_13 36 rfl) rfl rfl ?_
      refine g_iconst (dk_La_law_13 37 rfl) (by decide) ?_
      refine g_iadd (dk_La_law_13 38 rfl) ?_
      obtain ⟨c297, h⟩ := p_gdE h
      refine g_scr he1 he2 (dk_La_law_13 39 rfl) c297.1 c297.2 ?_
      obtain ⟨c298, h⟩ := p_gdE h
      obtain ⟨r303, s299, q300, h⟩ := p_bdE h
      have t301 := tF_Mo_release K l v2 (t9 ((p_w (v3 + 1)) : Int).toNat) (t9 ((p_w (v3 + 2)) : Int).toNat) s291 _ q300
      refine g_callV (a := v2) (ci := 11) (q0 := (RX11, TX11, 90)) (As := [p_i (t9 ((p_w (v3 + 1)) : Int).toNat), p_i (t9 ((p_w (v3 + 2)) : Int).toNat)]) (rest := [p_i r295]) [p_i r303, p_i r295] mt_Mo_release rfl rfl tw_8_7 tw_8_8 tw_8_6 ⟨Nat.le_of_ble_eq_true rfl, Nat.le_of_ble_eq_true rfl⟩ rfl (Nat.le_of_ble_eq_true rfl) (dk_La_law_14 0 rfl) rfl c298 rfl t301 ?_
      have hs302 : p_x s291 s299 := t301.1
      show p_Go K l m_La_law 897 [(0, p_s 9), (1, p_r v1), (2, p_r v2), (3, p_i v3)] [p_i r303, p_i r295] s299 _
      refine g_icmp_eq 1701 (dk_La_law_14 1 rfl) (by decide) (fun b304 => ?_) (fun b304 => ?_)
      · have h := p_ifT b304 h
        exact tB_La_law_1701 K l n9 t9 he1 he2 k18 hk18 v1 v2 v3 s299 _ h
      · have h := p_ifF b304 h
        refine g_iconst (dk_La_law_14 2 rfl) (by decide) ?_
        cases h
        exact g_ret rfl rfl (dk_La_law_14 3 rfl) (fun _ => ⟨_, rfl, Or.inl rfl⟩)
    rcases p_iteE h with ⟨b305, h⟩ | ⟨b305, h⟩
    · refine g_tableIn 902 (dk_La_law_0 21 rfl) (by omega) (by omega) (by rw [b305]; rfl) (by decide) ?_
      refine g_aload_n (i := 1) (j := 1) (dk_La_law_14 4 rfl) rfl rfl ?_
      refine g_aload_nS (i := 0) (j := 0) (dk_La_law_14 5 rfl) rfl rfl ?_
      refine g_iload_n (i := 3) (j := 3) (dk_La_law_14 6 rfl) rfl rfl ?_
      refine g_iconst (dk_La_law_14 7 rfl) (by decide) ?_
      refine g_iadd (dk_La_law_14 8 rfl) ?_
      obtain ⟨c306, h⟩ := p_gdE h
      refine g_scr he1 he2 (dk_La_law_14 9 rfl) c306.1 c306.2 ?_
      obtain ⟨c307, h⟩ := p_gdE h
      obtain ⟨r312, s308, q309, h⟩ := p_bdE h
      have t310 := tF_SW_clear K l v1 (t9 ((p_w (v3 + 1)) : Int).toNat) s0 _ q309
      refine g_callV (a := v1) (ci := 10) (q0 := (RX10, TX10, 9)) (As := [p_i (t9 ((p_w (v3 + 1)) : Int).toNat)]) (rest := []) [p_i r312] mt_SW_clear rfl rfl tw_4_62 tw_4_63 tw_4_61 ⟨Nat.le_of_ble_eq_true rfl, Nat.le_of_ble_eq_true rfl⟩ rfl (Nat.le_of_ble_eq_true rfl) (dk_La_law_14 10 rfl) rfl c307 rfl t310 ?_
      have hs311 : p_x s0 s308 := t310.1
      show p_Go K l m_La_law 911 [(0, p_s 9), (1, p_r v1), (2, p_r v2), (3, p_i v3)] [p_i r312] s308 _
      refine g_aload_n (i := 2) (j := 2) (dk_La_law_14 11 rfl) rfl rfl ?_
      refine g_aload_nS (i := 0) (j := 0) (dk_La_law_14 12 rfl) rfl rfl ?_
      refine g_iload_n (i := 3) (j := 3) (dk_La_law_14 13 rfl) rfl rfl ?_
      refine g_iconst (dk_La_law_14 14 rfl) (by decide) ?_
      refine g_iadd (dk_La_law_14 15 rfl) ?_
      obtain ⟨c313, h⟩ := p_gdE h
      refine g_scr he1 he2 (dk_La_law_14 16 rfl) c313.1 c313.2 ?_
      obtain ⟨c314, h⟩ := p_gdE h
      obtain ⟨r319, s315, q316, h⟩ := p_bdE h
      have t317 := tF_Mo_clear K l v2 (t9 ((p_w (v3 + 1)) : Int).toNat) s308 _ q316
      refine g_callV (a := v2) (ci := 11) (q0 := (RX11, TX11, 90)) (As := [p_i (t9 ((p_w (v3 + 1)) : Int).toNat)]) (rest := [p_i r312]) [p_i r319, p_i r312] mt_Mo_clear rfl rfl tw_8_12 tw_8_13 tw_8_11 ⟨Nat.le_of_ble_eq_true rfl, Nat.le_of_ble_eq_true rfl⟩ rfl (Nat.le_of_ble_eq_true rfl) (dk_La_law_14 17 rfl) rfl c314 rfl t317 ?_
      have hs318 : p_x s308 s315 := t317.1
      show p_Go K l m_La_law 920 [(0, p_s 9), (1, p_r v1), (2, p_r v2), (3, p_i v3)] [p_i r319, p_i r312] s315 _
      refine g_icmp_eq 1701 (dk_La_law_14 18 rfl) (by decide) (fun b320 => ?_) (fun b320 => ?_)
      · have h := p_ifT b320 h
        exact tB_La_law_1701 K l n9 t9 he1 he2 k18 hk18 v1 v2 v3 s315 _ h
      · have h := p_ifF b320 h
        refine g_iconst (dk_La_law_14 19 rfl) (by decide) ?_
        cases h
        exact g_ret rfl rfl (dk_La_law_14 20 rfl) (fun _ => ⟨_, rfl, Or.inl rfl⟩)
    rcases p_iteE h with ⟨b321, h⟩ | ⟨b321, h⟩
    · refine g_tableIn 925 (dk_La_law_0 21 rfl) (by omega) (by omega) (by rw [b321]; rfl) (by decide) ?_
      refine g_aload_n (i := 1) (j := 1) (dk_La_law_14 21 rfl) rfl rfl ?_
      refine g_aload_nS (i := 0) (j := 0) (dk_La_law_14 22 rfl) rfl rfl ?_
      refine g_iload_n (i := 3) (j := 3) (dk_La_law_14 23 rfl) rfl rfl ?_
      refine g_iconst (dk_La_law_14 24 rfl) (by decide) ?_
      refine g_iadd (dk_La_law_14 25 rfl) ?_
      obtain ⟨c322, h⟩ := p_gdE h
      refine g_scr he1 he2 (dk_La_law_14 26 rfl) c322.1 c322.2 ?_
      refine g_aload_nS (i := 0) (j := 0) (dk_La_law_14 27 rfl) rfl rfl ?_
      refine g_iload_n (i := 3) (j := 3) (dk_La_law_14 28 rfl) rfl rfl ?_
      refine g_iconst (dk_La_law_14 29 rfl) (by decide) ?_
      refine g_iadd (dk_La_law_14 30 rfl) ?_
      obtain ⟨c323, h⟩ := p_gdE h
      refine g_scr he1 he2 (dk_La_law_14 31 rfl) c323.1 c323.2 ?_
      obtain ⟨c324, h⟩ := p_gdE h
      obtain ⟨r329, s325, q326, h⟩ := p_bdE h
      have t327 := tF_SW_carry K l v1 (t9 ((p_w (v3 + 1)) : Int).toNat) (t9 ((p_w (v3 + 2)) : Int).toNat) s0 _ q326
      refine g_callV (a := v1) (ci := 10) (q0 := (RX10, TX10, 9)) (As := [p_i (t9 ((p_w (v3 + 1)) : Int).toNat), p_i (t9 ((p_w (v3 + 2)) : Int).toNat)]) (rest := []) [p_i r329] mt_SW_carry rfl rfl tw_4_92 tw_4_93 tw_4_91 ⟨Nat.le_of_ble_eq_true rfl, Nat.le_of_ble_eq_true rfl⟩ rfl (Nat.le_of_ble_eq_true rfl) (dk_La_law_14 32 rfl) rfl c324 rfl t327 ?_
      have hs328 : p_x s0 s325 := t327.1
      show p_Go K l m_La_law 939 [(0, p_s 9), (1, p_r v1), (2, p_r v2), (3, p_i v3)] [p_i r329] s325 _
      refine g_aload_n (i := 2) (j := 2) (dk_La_law_14 33 rfl) rfl rfl ?_
      refine g_aload_nS (i := 0) (j := 0) (dk_La_law_14 34 rfl) rfl rfl ?_
      refine g_iload_n (i := 3) (j := 3) (dk_La_law_14 35 rfl) rfl rfl ?_
      refine g_iconst (dk_La_law_14 36 rfl) (by decide) ?_
      refine g_iadd (dk_La_law_14 37 rfl) ?_
      obtain ⟨c330, h⟩ := p_gdE h
      refine g_scr he1 he2 (dk_La_law_14 38 rfl) c330.1 c330.2 ?_
      refine g_aload_nS (i := 0) (j := 0) (dk_La_law_14 39 rfl) rfl rfl ?_
      refine g_iload_n (i := 3) (j := 3) (dk_La_law_15 0 rfl) rfl rfl ?_
      refine g_iconst (dk_La_law_15 1 rfl) (by decide) ?_
      refine g_iadd (dk_La_law_15 2 rfl) ?_
      obtain ⟨c331, h⟩ := p_gdE h
      refine g_scr he1 he2 (dk_La_law_15 3 rfl) c331.1 c331.2 ?_
      obtain ⟨c332, h⟩ := p_gdE h
      obtain ⟨r337, s333, q334, h⟩ := p_bdE h
      have t335 := tF_Mo_carry K l v2 (t9 ((p_w (v3 + 1)) : Int).toNat) (t9 ((p_w (v3 + 2)) : Int).toNat) s325 _ q334
      refine g_callV (a := v2) (ci := 11) (q0 := (RX11, TX11, 90)) (As := [p_i (t9 ((p_w (v3 + 1)) : Int).toNat), p_i (t9 ((p_w (v3 + 2)) : Int).toNat)]) (rest := [p_i r329]) [p_i r337, p_i r329] mt_Mo_carry rfl rfl tw_8_24 tw_8_25 tw_8_23 ⟨Nat.le_of_ble_eq_true rfl, Nat.le_of_ble_eq_true rfl⟩ rfl (Nat.le_of_ble_eq_true rfl) (dk_La_law_15 4 rfl) rfl c332 rfl t335 ?_
      have hs336 : p_x s325 s333 := t335.1
      show p_Go K l m_La_law 953 [(0, p_s 9), (1, p_r v1), (2, p_r v2), (3, p_i v3)] [p_i r337, p_i r329] s333 _
      refine g_icmp_eq 1701 (dk_La_law_15 5 rfl) (by decide) (fun b338 => ?_) (fun b338 => ?_)
      · have h := p_ifT b338 h
        exact tB_La_law_1701 K l n9 t9 he1 he2 k18 hk18 v1 v2 v3 s333 _ h
      · have h := p_ifF b338 h
        refine g_iconst (dk_La_law_15 6 rfl) (by decide) ?_
        cases h
        exact g_ret rfl rfl (dk_La_law_15 7 rfl) (fun _ => ⟨_, rfl, Or.inl rfl⟩)
    rcases p_iteE h with ⟨b339, h⟩ | ⟨b339, h⟩
    · refine g_tableIn 958 (dk_La_law_0 21 rfl) (by omega) (by omega) (by rw [b339]; rfl) (by decide) ?_
      refine g_aload_n (i := 1) (j := 1) (dk_La_law_15 8 rfl) rfl rfl ?_
      refine g_aload_nS (i := 0) (j := 0) (dk_La_law_15 9 rfl) rfl rfl ?_
      refine g_iload_n (i := 3) (j := 3) (dk_La_law_15 10 rfl) rfl rfl ?_
      refine g_iconst (dk_La_law_15 11 rfl) (by decide) ?_
      refine g_iadd (dk_La_law_15 12 rfl) ?_
      obtain ⟨c340, h⟩ := p_gdE h
      refine g_scr he1 he2 (dk_La_law_15 13 rfl) c340.1 c340.2 ?_
      refine g_aload_nS (i := 0) (j := 0) (dk_La_law_15 14 rfl) rfl rfl ?_
      refine g_iload_n (i := 3) (j := 3) (dk_La_law_15 15 rfl) rfl rfl ?_
      refine g_iconst (dk_La_law_15 16 rfl) (by decide) ?_
      refine g_iadd (dk_La_law_15 17 rfl) ?_
      obtain ⟨c341, h⟩ := p_gdE h
      refine g_scr he1 he2 (dk_La_law_15 18 rfl) c341.1 c341.2 ?_
      refine g_aload_nS (i := 0) (j := 0) (dk_La_law_15 19 rfl) rfl rfl ?_
      refine g_iload_n (i := 3) (j := 3) (dk_La_law_15 20 rfl) rfl rfl ?_
      refine g_iconst (dk_La_law_15 21 rfl) (by decide) ?_
      refine g_iadd (dk_La_law_15 22 rfl) ?_
      obtain ⟨c342, h⟩ := p_gdE h
      refine g_scr he1 he2 (dk_La_law_15 23 rfl) c342.1 c342.2 ?_
      obtain ⟨c343, h⟩ := p_gdE h
      obtain ⟨r348, s344, q345, h⟩ := p_bdE h
      have t346 := tF_SW_group K l v1 (t9 ((p_w (v3 + 1)) : Int).toNat) (t9 ((p_w (v3 + 2)) : Int).toNat) (t9 ((p_w (v3 + 3)) : Int).toNat) s0 _ q345
      refine g_callV (a := v1) (ci := 10) (q0 := (RX10, TX10, 9)) (As := [p_i (t9 ((p_w (v3 + 1)) : Int).toNat), p_i (t9 ((p_w (v3 + 2)) : Int).toNat), p_i (t9 ((p_w (v3 + 3)) : Int).toNat)]) (rest := []) [p_i r348] mt_SW_group rfl rfl tw_4_100 tw_4_101 tw_4_99 ⟨Nat.le_of_ble_eq_true rfl, Nat.le_of_ble_eq_true rfl⟩ rfl (Nat.le_of_ble_eq_true rfl) (dk_La_law_15 24 rfl) rfl c343 rfl t346 ?_
      have hs347 : p_x s0 s344 := t346.1
      show p_Go K l m_La_law 977 [(0, p_s 9), (1, p_r v1), (2, p_r v2), (3, p_i v3)] [p_i r348] s344 _
      refine g_aload_n (i := 2) (j := 2) (dk_La_law_15 25 rfl) rfl rfl ?_
      refine g_aload_nS (i := 0) (j := 0) (dk_La_law_15 26 rfl) rfl rfl ?_
      refine g_iload_n (i := 3) (j := 3) (dk_La_law_15 27 rfl) rfl rfl ?_
      refine g_iconst (dk_La_law_15 28 rfl) (by decide) ?_
      refine g_iadd (dk_La_law_15 29 rfl) ?_
      obtain ⟨c349, h⟩ := p_gdE h
      refine g_scr he1 he2 (dk_La_law_15 30 rfl) c349.1 c349.2 ?_
      refine g_aload_nS (i := 0) (j := 0) (dk_La_law_15 31 rfl) rfl rfl ?_
      refine g_iload_n (i := 3) (j := 3) (dk_La_law_15 32 rfl) rfl rfl ?_
      refine g_iconst (dk_La_law_15 33 rfl) (by decide) ?_
      refine g_iadd (dk_La_law_15 34 rfl) ?_
      obtain ⟨c350, h⟩ := p_gdE h
      refine g_scr he1 he2 (dk_La_law_15 35 rfl) c350.1 c350.2 ?_
      refine g_aload_nS (i := 0) (j := 0) (dk_La_law_15 36 rfl) rfl rfl ?_
      refine g_iload_n (i := 3) (j := 3) (dk_La_law_15 37 rfl) rfl rfl ?_
      refine g_iconst (dk_La_law_15 38 rfl) (by decide) ?_
      refine g_iadd (dk_La_law_15 39 rfl) ?_
      obtain ⟨c351, h⟩ := p_gdE h
      refine g_scr he1 he2 (dk_La_law_16 0 rfl) c351.1 c351.2 ?_
      obtain ⟨c352, h⟩ := p_gdE h
      obtain ⟨r357, s353, q354, h⟩ := p_bdE h
      have t355 := tF_Mo_group K l v2 (t9 ((p_w (v3 + 1)) : Int).toNat) (t9 ((p_w (v3 + 2)) : Int).toNat) (t9 ((p_w (v3 + 3)) : Int).toNat) s344 _ q354
      refine g_callV (a := v2) (ci := 11) (q0 := (RX11, TX11, 90)) (As := [p_i (t9 ((p_w (v3 + 1)) : Int).toNat), p_i (t9 ((p_w (v3 + 2)) : Int).toNat), p_i (t9 ((p_w (v3 + 3)) : Int).toNat)]) (rest := [p_i r348]) [p_i r357, p_i r348] mt_Mo_group rfl rfl tw_8_28 tw_8_29 tw_8_27 ⟨Nat.le_of_ble_eq_true rfl, Nat.le_of_ble_eq_true rfl⟩ rfl (Nat.le_of_ble_eq_true rfl) (dk_La_law_16 1 rfl) rfl c352 rfl t355 ?_
      have hs356 : p_x s344 s353 := t355.1
      show p_Go K l m_La_law 996 [(0, p_s 9), (1, p_r v1), (2, p_r v2), (3, p_i v3)] [p_i r357, p_i r348] s353 _
      refine g_icmp_eq 1701 (dk_La_law_16 2 rfl) (by decide) (fun b358 => ?_) (fun b358 => ?_)
      · have h := p_ifT b358 h
        exact tB_La_law_1701 K l n9 t9 he1 he2 k18 hk18 v1 v2 v3 s353 _ h
      · have h := p_ifF b358 h
        refine g_iconst (dk_La_law_16 3 rfl) (by decide) ?_
        cases h
        exact g_ret rfl rfl (dk_La_law_16 4 rfl) (fun _ => ⟨_, rfl, Or.inl rfl⟩)
    rcases p_iteE h with ⟨b359, h⟩ | ⟨b359, h⟩
    · refine g_tableIn 1001 (dk_La_law_0 21 rfl) (by omega) (by omega) (by rw [b359]; rfl) (by decide) ?_
      refine g_aload_n (i := 1) (j := 1) (dk_La_law_16 5 rfl) rfl rfl ?_
      refine g_aload_nS (i := 0) (j := 0) (dk_La_law_16 6 rfl) rfl rfl ?_
      refine g_iload_n (i := 3) (j := 3) (dk_La_law_16 7 rfl) rfl rfl ?_
      refine g_iconst (dk_La_law_16 8 rfl) (by decide) ?_
      refine g_iadd (dk_La_law_16 9 rfl) ?_
      obtain ⟨c360, h⟩ := p_gdE h
      refine g_scr he1 he2 (dk_La_law_16 10 rfl) c360.1 c360.2 ?_
      refine g_aload_nS (i := 0) (j := 0) (dk_La_law_16 11 rfl) rfl rfl ?_
      refine g_iload_n (i := 3) (j := 3) (dk_La_law_16 12 rfl) rfl rfl ?_
      refine g_iconst (dk_La_law_16 13 rfl) (by decide) ?_
      refine g_iadd (dk_La_law_16 14 rfl) ?_
      obtain ⟨c361, h⟩ := p_gdE h
      refine g_scr he1 he2 (dk_La_law_16 15 rfl) c361.1 c361.2 ?_
      refine g_aload_nS (i := 0) (j := 0) (dk_La_law_16 16 rfl) rfl rfl ?_
      refine g_iload_n (i := 3) (j := 3) (dk_La_law_16 17 rfl) rfl rfl ?_
      refine g_iconst (dk_La_law_16 18 rfl) (by decide) ?_
      refine g_iadd (dk_La_law_16 19 rfl) ?_
      obtain ⟨c362, h⟩ := p_gdE h
      refine g_scr he1 he2 (dk_La_law_16 20 rfl) c362.1 c362.2 ?_
      obtain ⟨c363, h⟩ := p_gdE h
      obtain ⟨r368, s364, q365, h⟩ := p_bdE h
      have t366 := tF_SW_enter K l v1 (t9 ((p_w (v3 + 1)) : Int).toNat) (t9 ((p_w (v3 + 2)) : Int).toNat) (t9 ((p_w (v3 + 3)) : Int).toNat) s0 _ q365
      refine g_callV (a := v1) (ci := 10) (q0 := (RX10, TX10, 9)) (As := [p_i (t9 ((p_w (v3 + 1)) : Int).toNat), p_i (t9 ((p_w (v3 + 2)) : Int).toNat), p_i (t9 ((p_w (v3 + 3)) : Int).toNat)]) (rest := []) [p_i r368] mt_SW_enter rfl rfl tw_4_107 tw_4_108 tw_4_106 ⟨Nat.le_of_ble_eq_true rfl, Nat.le_of_ble_eq_true rfl⟩ rfl (Nat.le_of_ble_eq_true rfl) (dk_La_law_16 21 rfl) rfl c363 rfl t366 ?_
      have hs367 : p_x s0 s364 := t366.1
      show p_Go K l m_La_law 1020 [(0, p_s 9), (1, p_r v1), (2, p_r v2), (3, p_i v3)] [p_i r368] s364 _
      refine g_aload_n (i := 2) (j := 2) (dk_La_law_16 22 rfl) rfl rfl ?_
      refine g_aload_nS (i := 0) (j := 0) (dk_La_law_16 23 rfl) rfl rfl ?_
      refine g_iload_n (i := 3) (j := 3) (dk_La_law_16 24 rfl) rfl rfl ?_
      refine g_iconst (dk_La_law_16 25 rfl) (by decide) ?_
      refine g_iadd (dk_La_law_16 26 rfl) ?_
      obtain ⟨c369, h⟩ := p_gdE h
      refine g_scr he1 he2 (dk_La_law_16 27 rfl) c369.1 c369.2 ?_
      refine g_aload_nS (i := 0) (j := 0) (dk_La_law_16 28 rfl) rfl rfl ?_
      refine g_iload_n (i := 3) (j := 3) (dk_La_law_16 29 rfl) rfl rfl ?_
      refine g_iconst (dk_La_law_16 30 rfl) (by decide) ?_
      refine g_iadd (dk_La_law_16 31 rfl) ?_
      obtain ⟨c370, h⟩ := p_gdE h
      refine g_scr he1 he2 (dk_La_law_16 32 rfl) c370.1 c370.2 ?_
      refine g_aload_nS (i := 0) (j := 0) (dk_La_law_16 33 rfl) rfl rfl ?_
      refine g_iload_n (i := 3) (j := 3) (dk_La_law_16 34 rfl) rfl rfl ?_
      refine g_iconst (dk_La_law_16 35 rfl) (by decide) ?_
      refine g_iadd (dk_La_law_16 36 rfl) ?_
      obtain ⟨c371, h⟩ := p_gdE h
      refine g_scr he1 he2 (dk_La_law_16 37 rfl) c371.1 c371.2 ?_
      obtain ⟨c372, h⟩ := p_gdE h
      obtain ⟨r377, s373, q374, h⟩ := p_bdE h
      have t375 := tF_Mo_enter K l v2 (t9 ((p_w (v3 + 1)) : Int).toNat) (t9 ((p_w (v3 + 2)) : Int).toNat) (t9 ((p_w (v3 + 3)) : Int).toNat) s364 _ q374
      refine g_callV (a := v2) (ci := 11) (q0 := (RX11, TX11, 90)) (As := [p_i (t9 ((p_w (v3 + 1)) : Int).toNat), p_i (t9 ((p_w (v3 + 2)) : Int).toNat), p_i (t9 ((p_w (v3 + 3)) : Int).toNat)]) (rest := [p_i r368]) [p_i r377, p_i r368] mt_Mo_enter rfl rfl tw_8_33 tw_8_34 tw_8_32 ⟨Nat.le_of_ble_eq_true rfl, Nat.le_of_ble_eq_true rfl⟩ rfl (Nat.le_of_ble_eq_true rfl) (dk_La_law_16 38 rfl) rfl c372 rfl t375 ?_
      have hs376 : p_x s364 s373 := t375.1
      show p_Go K l m_La_law 1039 [(0, p_s 9), (1, p_r v1), (2, p_r v2), (3, p_i v3)] [p_i r377, p_i r368] s373 _
      refine g_icmp_eq 1701 (dk_La_law_16 39 rfl) (by decide) (fun b378 => ?_) (fun b378 => ?_)
      · have h := p_ifT b378 h
        exact tB_La_law_1701 K l n9 t9 he1 he2 k18 hk18 v1 v2 v3 s373 _ h
      · have h := p_ifF b378 h
        refine g_iconst (dk_La_law_17 0 rfl) (by decide) ?_
        cases h
        exact g_ret rfl rfl (dk_La_law_17 1 rfl) (fun _ => ⟨_, rfl, Or.inl rfl⟩)
    rcases p_iteE h with ⟨b379, h⟩ | ⟨b379, h⟩
    · refine g_tableIn 1044 (dk_La_law_0 21 rfl) (by omega) (by omega) (by rw [b379]; rfl) (by decide) ?_
      refine g_aload_n (i := 1) (j := 1) (dk_La_law_17 2 rfl) rfl rfl ?_
      refine g_aload_nS (i := 0) (j := 0) (dk_La_law_17 3 rfl) rfl rfl ?_
      refine g_iload_n (i := 3) (j := 3) (dk_La_law_17 4 rfl) rfl rfl ?_
      refine g_iconst (dk_La_law_17 5 rfl) (by decide) ?_
      refine g_iadd (dk_La_law_17 6 rfl) ?_
      obtain ⟨c380, h⟩ := p_gdE h
      refine g_scr he1 he2 (dk_La_law_17 7 rfl) c380.1 c380.2 ?_
      refine g_aload_nS (i := 0) (j := 0) (dk_La_law_17 8 rfl) rfl rfl ?_
      refine g_iload_n (i := 3) (j := 3) (dk_La_law_17 9 rfl) rfl rfl ?_
      refine g_iconst (dk_La_law_17 10 rfl) (by decide) ?_
      refine g_iadd (dk_La_law_17 11 rfl) ?_
      obtain ⟨c381, h⟩ := p_gdE h
      refine g_scr he1 he2 (dk_La_law_17 12 rfl) c381.1 c381.2 ?_
      obtain ⟨c382, h⟩ := p_gdE h
      obtain ⟨r387, s383, q384, h⟩ := p_bdE h
      have t385 := tF_SW_tally K l v1 (t9 ((p_w (v3 + 1)) : Int).toNat) (t9 ((p_w (v3 + 2)) : Int).toNat) s0 _ q384
      refine g_callV (a := v1) (ci := 10) (q0 := (RX10, TX10, 9)) (As := [p_i (t9 ((p_w (v3 + 1)) : Int).toNat), p_i (t9 ((p_w (v3 + 2)) : Int).toNat)]) (rest := []) [p_i r387] mt_SW_tally rfl rfl tw_4_124 tw_4_125 tw_4_123 ⟨Nat.le_of_ble_eq_true rfl, Nat.le_of_ble_eq_true rfl⟩ rfl (Nat.le_of_ble_eq_true rfl) (dk_La_law_17 13 rfl) rfl c382 rfl t385 ?_
      have hs386 : p_x s0 s383 := t385.1
      show p_Go K l m_La_law 1058 [(0, p_s 9), (1, p_r v1), (2, p_r v2), (3, p_i v3)] [p_i r387] s383 _
      refine g_aload_n (i := 2) (j := 2) (dk_La_law_17 14 rfl) rfl rfl ?_
      refine g_aload_nS (i := 0) (j := 0) (dk_La_law_17 15 rfl) rfl rfl ?_
      refine g_iload_n (i := 3) (j := 3) (dk_La_law_17 16 rfl) rfl rfl ?_
      refine g_iconst (dk_La_law_17 17 rfl) (by decide) ?_
      refine g_iadd (dk_La_law_17 18 rfl) ?_
      obtain ⟨c388, h⟩ := p_gdE h
      refine g_scr he1 he2 (dk_La_law_17 19 rfl) c388.1 c388.2 ?_
      refine g_aload_nS (i := 0) (j := 0) (dk_La_law_17 20 rfl) rfl rfl ?_
      refine g_iload_n (i := 3) (j := 3) (dk_La_law_17 21 rfl) rfl rfl ?_
      refine g_iconst (dk_La_law_17 22 rfl) (by decide) ?_
      refine g_iadd (dk_La_law_17 23 rfl) ?_
      obtain ⟨c389, h⟩ := p_gdE h
      refine g_scr he1 he2 (dk_La_law_17 24 rfl) c389.1 c389.2 ?_
      obtain ⟨c390, h⟩ := p_gdE h
      obtain ⟨r395, s391, q392, h⟩ := p_bdE h
      have t393 := tF_Mo_tally K l v2 (t9 ((p_w (v3 + 1)) : Int).toNat) (t9 ((p_w (v3 + 2)) : Int).toNat) s383 _ q392
      refine g_callV (a := v2) (ci := 11) (q0 := (RX11, TX11, 90)) (As := [p_i (t9 ((p_w (v3 + 1)) : Int).toNat), p_i (t9 ((p_w (v3 + 2)) : Int).toNat)]) (rest := [p_i r387]) [p_i r395, p_i r387] mt_Mo_tally rfl rfl tw_8_40 tw_8_41 tw_8_39 ⟨Nat.le_of_ble_eq_true rfl, Nat.le_of_ble_eq_true rfl⟩ rfl (Nat.le_of_ble_eq_true rfl) (dk_La_law_17 25 rfl) rfl c390 rfl t393 ?_
      have hs394 : p_x s383 s391 := t393.1
      show p_Go K l m_La_law 1072 [(0, p_s 9), (1, p_r v1), (2, p_r v2), (3, p_i v3)] [p_i r395, p_i r387] s391 _
      refine g_icmp_eq 1701 (dk_La_law_17 26 rfl) (by decide) (fun b396 => ?_) (fun b396 => ?_)
      · have h := p_ifT b396 h
        exact tB_La_law_1701 K l n9 t9 he1 he2 k18 hk18 v1 v2 v3 s391 _ h
      · have h := p_ifF b396 h
        refine g_iconst (dk_La_law_17 27 rfl) (by decide) ?_
        cases h
        exact g_ret rfl rfl (dk_La_law_17 28 rfl) (fun _ => ⟨_, rfl, Or.inl rfl⟩)
    rcases p_iteE h with ⟨b397, h⟩ | ⟨b397, h⟩
    · refine g_tableIn 1077 (dk_La_law_0 21 rfl) (by omega) (by omega) (by rw [b397]; rfl) (by decide) ?_
      refine g_aload_n (i := 1) (j := 1) (dk_La_law_17 29 rfl) rfl rfl ?_
      obtain ⟨c398, h⟩ := p_gdE h
      obtain ⟨r403, s399, q400, h⟩ := p_bdE h
      have t401 := tF_SW_step K l v1 s0 _ q400
      refine g_callV (a := v1) (ci := 10) (q0 := (RX10, TX10, 9)) (As := []) (rest := []) [p_i r403] mt_SW_step rfl rfl tw_4_128 tw_4_129 tw_4_127 ⟨Nat.le_of_ble_eq_true rfl, Nat.le_of_ble_eq_true rfl⟩ rfl (Nat.le_of_ble_eq_true rfl) (dk_La_law_17 30 rfl) rfl c398 rfl t401 ?_
      have hs402 : p_x s0 s399 := t401.1
      show p_Go K l m_La_law 1081 [(0, p_s 9), (1, p_r v1), (2, p_r v2), (3, p_i v3)] [p_i r403] s399 _
      refine g_aload_n (i := 2) (j := 2) (dk_La_law_17 31 rfl) rfl rfl ?_
      obtain ⟨c404, h⟩ := p_gdE h
      obtain ⟨r409, s405, q406, h⟩ := p_bdE h
      have t407 := tF_Mo_step K l v2 s399 _ q406
      refine g_callV (a := v2) (ci := 11) (q0 := (RX11, TX11, 90)) (As := []) (rest := [p_i r403]) [p_i r409, p_i r403] mt_Mo_step rfl rfl tw_8_44 tw_8_45 tw_8_43 ⟨Nat.le_of_ble_eq_true rfl, Nat.le_of_ble_eq_true rfl⟩ rfl (Nat.le_of_ble_eq_true rfl) (dk_La_law_17 32 rfl) rfl c404 rfl t407 ?_
      have hs408 : p_x s399 s405 := t407.1
      show p_Go K l m_La_law 1085 [(0, p_s 9), (1, p_r v1), (2, p_r v2), (3, p_i v3)] [p_i r409, p_i r403] s405 _
      refine g_icmp_eq 1701 (dk_La_law_17 33 rfl) (by decide) (fun b410 => ?_) (fun b410 => ?_)
      · have h := p_ifT b410 h
        exact tB_La_law_1701 K l n9 t9 he1 he2 k18 hk18 v1 v2 v3 s405 _ h
      · have h := p_ifF b410 h
        refine g_iconst (dk_La_law_17 34 rfl) (by decide) ?_
        cases h
        exact g_ret rfl rfl (dk_La_law_17 35 rfl) (fun _ => ⟨_, rfl, Or.inl rfl⟩)
    rcases p_iteE h with ⟨b411, h⟩ | ⟨b411, h⟩
    · refine g_tableIn 1090 (dk_La_law_0 21 rfl) (by omega) (by omega) (by rw [b411]; rfl) (by decide) ?_
      refine g_aload_n (i := 1) (j := 1) (dk_La_law_17 36 rfl) rfl rfl ?_
      refine g_aload_nS (i := 0) (j := 0) (dk_La_law_17 37 rfl) rfl rfl ?_
      refine g_iload_n (i := 3) (j := 3) (dk_La_law_17 38 rfl) rfl rfl ?_
      refine g_iconst (dk_La_law_17 39 rfl) (by decide) ?_
      refine g_iadd (dk_La_law_18 0 rfl) ?_
      obtain ⟨c412, h⟩ := p_gdE h
      refine g_scr he1 he2 (dk_La_law_18 1 rfl) c412.1 c412.2 ?_
      refine g_aload_nS (i := 0) (j := 0) (dk_La_law_18 2 rfl) rfl rfl ?_
      refine g_iload_n (i := 3) (j := 3) (dk_La_law_18 3 rfl) rfl rfl ?_
      refine g_iconst (dk_La_law_18 4 rfl) (by decide) ?_
      refine g_iadd (dk_La_law_18 5 rfl) ?_
      obtain ⟨c413, h⟩ := p_gdE h
      refine g_scr he1 he2 (dk_La_law_18 6 rfl) c413.1 c413.2 ?_
      obtain ⟨c414, h⟩ := p_gdE h
      obtain ⟨r419, s415, q416, h⟩ := p_bdE h
      have t417 := tF_SW_night K l v1 (t9 ((p_w (v3 + 1)) : Int).toNat) (t9 ((p_w (v3 + 2)) : Int).toNat) s0 _ q416
      refine g_callV (a := v1) (ci := 10) (q0 := (RX10, TX10, 9)) (As := [p_i (t9 ((p_w (v3 + 1)) : Int).toNat), p_i (t9 ((p_w (v3 + 2)) : Int).toNat)]) (rest := []) [p_i r419] mt_SW_night rfl rfl tw_5_81 tw_5_82 tw_5_80 ⟨Nat.le_of_ble_eq_true rfl, Nat.le_of_ble_eq_true rfl⟩ rfl (Nat.le_of_ble_eq_true rfl) (dk_La_law_18 7 rfl) rfl c414 rfl t417 ?_
      have hs418 : p_x s0 s415 := t417.1
      show p_Go K l m_La_law 1104 [(0, p_s 9), (1, p_r v1), (2, p_r v2), (3, p_i v3)] [p_i r419] s415 _
      refine g_aload_n (i := 2) (j := 2) (dk_La_law_18 8 rfl) rfl rfl ?_
      refine g_aload_nS (i := 0) (j := 0) (dk_La_law_18 9 rfl) rfl rfl ?_
      refine g_iload_n (i := 3) (j := 3) (dk_La_law_18 10 rfl) rfl rfl ?_
      refine g_iconst (dk_La_law_18 11 rfl) (by decide) ?_
      refine g_iadd (dk_La_law_18 12 rfl) ?_
      obtain ⟨c420, h⟩ := p_gdE h
      refine g_scr he1 he2 (dk_La_law_18 13 rfl) c420.1 c420.2 ?_
      refine g_aload_nS (i := 0) (j := 0) (dk_La_law_18 14 rfl) rfl rfl ?_
      refine g_iload_n (i := 3) (j := 3) (dk_La_law_18 15 rfl) rfl rfl ?_
      refine g_iconst (dk_La_law_18 16 rfl) (by decide) ?_
      refine g_iadd (dk_La_law_18 17 rfl) ?_
      obtain ⟨c421, h⟩ := p_gdE h
      refine g_scr he1 he2 (dk_La_law_18 18 rfl) c421.1 c421.2 ?_
      obtain ⟨c422, h⟩ := p_gdE h
      obtain ⟨r427, s423, q424, h⟩ := p_bdE h
      have t425 := tF_Mo_night K l v2 (t9 ((p_w (v3 + 1)) : Int).toNat) (t9 ((p_w (v3 + 2)) : Int).toNat) s415 _ q424
      refine g_callV (a := v2) (ci := 11) (q0 := (RX11, TX11, 90)) (As := [p_i (t9 ((p_w (v3 + 1)) : Int).toNat), p_i (t9 ((p_w (v3 + 2)) : Int).toNat)]) (rest := [p_i r419]) [p_i r427, p_i r419] mt_Mo_night rfl rfl tw_8_179 tw_8_180 tw_8_178 ⟨Nat.le_of_ble_eq_true rfl, Nat.le_of_ble_eq_true rfl⟩ rfl (Nat.le_of_ble_eq_true rfl) (dk_La_law_18 19 rfl) rfl c422 rfl t425 ?_
      have hs426 : p_x s415 s423 := t425.1
      show p_Go K l m_La_law 1118 [(0, p_s 9), (1, p_r v1), (2, p_r v2), (3, p_i v3)] [p_i r427, p_i r419] s423 _
      refine g_icmp_eq 1701 (dk_La_law_18 20 rfl) (by decide) (fun b428 => ?_) (fun b428 => ?_)
      · have h := p_ifT b428 h
        exact tB_La_law_1701 K l n9 t9 he1 he2 k18 hk18 v1 v2 v3 s423 _ h
      · have h := p_ifF b428 h
        refine g_iconst (dk_La_law_18 21 rfl) (by decide) ?_
        cases h
        exact g_ret rfl rfl (dk_La_law_18 22 rfl) (fun _ => ⟨_, rfl, Or.inl rfl⟩)
    rcases p_iteE h with ⟨b429, h⟩ | ⟨b429, h⟩
    · refine g_tableIn 1123 (dk_La_law_0 21 rfl) (by omega) (by omega) (by rw [b429]; rfl) (by decide) ?_
      refine g_aload_n (i := 1) (j := 1) (dk_La_law_18 23 rfl) rfl rfl ?_
      refine g_aload_nS (i := 0) (j := 0) (dk_La_law_18 24 rfl) rfl rfl ?_
      refine g_iload_n (i := 3) (j := 3) (dk_La_law_18 25 rfl) rfl rfl ?_
      refine g_iconst (dk_La_law_18 26 rfl) (by decide) ?_
      refine g_iadd (dk_La_law_18 27 rfl) ?_
      obtain ⟨c430, h⟩ := p_gdE h
      refine g_scr he1 he2 (dk_La_law_18 28 rfl) c430.1 c430.2 ?_
      obtain ⟨c431, h⟩ := p_gdE h
      obtain ⟨r436, s432, q433, h⟩ := p_bdE h
      have t434 := tF_SW_back K l v1 (t9 ((p_w (v3 + 1)) : Int).toNat) s0 _ q433
      refine g_callV (a := v1) (ci := 10) (q0 := (RX10, TX10, 9)) (As := [p_i (t9 ((p_w (v3 + 1)) : Int).toNat)]) (rest := []) [p_i r436] mt_SW_back rfl rfl tw_5_101 tw_5_102 tw_5_100 ⟨Nat.le_of_ble_eq_true rfl, Nat.le_of_ble_eq_true rfl⟩ rfl (Nat.le_of_ble_eq_true rfl) (dk_La_law_18 29 rfl) rfl c431 rfl t434 ?_
      have hs435 : p_x s0 s432 := t434.1
      show p_Go K l m_La_law 1132 [(0, p_s 9), (1, p_r v1), (2, p_r v2), (3, p_i v3)] [p_i r436] s432 _
      refine g_aload_n (i := 2) (j := 2) (dk_La_law_18 30 rfl) rfl rfl ?_
      refine g_aload_nS (i := 0) (j := 0) (dk_La_law_18 31 rfl) rfl rfl ?_
      refine g_iload_n (i := 3) (j := 3) (dk_La_law_18 32 rfl) rfl rfl ?_
      refine g_iconst (dk_La_law_18 33 rfl) (by decide) ?_
      refine g_iadd (dk_La_law_18 34 rfl) ?_
      obtain ⟨c437, h⟩ := p_gdE h
      refine g_scr he1 he2 (dk_La_law_18 35 rfl) c437.1 c437.2 ?_
      obtain ⟨c438, h⟩ := p_gdE h
      obtain ⟨r443, s439, q440, h⟩ := p_bdE h
      have t441 := tF_Mo_back K l v2 (t9 ((p_w (v3 + 1)) : Int).toNat) s432 _ q440
      refine g_callV (a := v2) (ci := 11) (q0 := (RX11, TX11, 90)) (As := [p_i (t9 ((p_w (v3 + 1)) : Int).toNat)]) (rest := [p_i r436]) [p_i r443, p_i r436] mt_Mo_back rfl rfl tw_8_188 tw_8_189 tw_8_187 ⟨Nat.le_of_ble_eq_true rfl, Nat.le_of_ble_eq_true rfl⟩ rfl (Nat.le_of_ble_eq_true rfl) (dk_La_law_18 36 rfl) rfl c438 rfl t441 ?_
      have hs442 : p_x s432 s439 := t441.1
      show p_Go K l m_La_law 1141 [(0, p_s 9), (1, p_r v1), (2, p_r v2), (3, p_i v3)] [p_i r443, p_i r436] s439 _
      refine g_icmp_eq 1701 (dk_La_law_18 37 rfl) (by decide) (fun b444 => ?_) (fun b444 => ?_)
      · have h := p_ifT b444 h
        exact tB_La_law_1701 K l n9 t9 he1 he2 k18 hk18 v1 v2 v3 s439 _ h
      · have h := p_ifF b444 h
        refine g_iconst (dk_La_law_18 38 rfl) (by decide) ?_
        cases h
        exact g_ret rfl rfl (dk_La_law_18 39 rfl) (fun _ => ⟨_, rfl, Or.inl rfl⟩)
    rcases p_iteE h with ⟨b445, h⟩ | ⟨b445, h⟩
    · refine g_tableIn 1146 (dk_La_law_0 21 rfl) (by omega) (by omega) (by rw [b445]; rfl) (by decide) ?_
      refine g_aload_n (i := 1) (j := 1) (dk_La_law_19 0 rfl) rfl rfl ?_
      obtain ⟨c446, h⟩ := p_gdE h
      obtain ⟨r451, s447, q448, h⟩ := p_bdE h
      have t449 := tF_SW_status K l v1 s0 _ q448
      refine g_callV (a := v1) (ci := 10) (q0 := (RX10, TX10, 9)) (As := []) (rest := []) [p_i r451] mt_SW_status rfl rfl tw_5_133 tw_5_134 tw_5_132 ⟨Nat.le_of_ble_eq_true rfl, Nat.le_of_ble_eq_true rfl⟩ rfl (Nat.le_of_ble_eq_true rfl) (dk_La_law_19 1 rfl) rfl c446 rfl t449 ?_
      have hs450 : p_x s0 s447 := t449.1
      show p_Go K l m_La_law 1150 [(0, p_s 9), (1, p_r v1), (2, p_r v2), (3, p_i v3)] [p_i r451] s447 _
      refine g_aload_n (i := 2) (j := 2) (dk_La_law_19 2 rfl) rfl rfl ?_
      obtain ⟨c452, h⟩ := p_gdE h
      obtain ⟨r457, s453, q454, h⟩ := p_bdE h
      have t455 := tF_Mo_status K l v2 s447 _ q454
      refine g_callV (a := v2) (ci := 11) (q0 := (RX11, TX11, 90)) (As := []) (rest := [p_i r451]) [p_i r457, p_i r451] mt_Mo_status rfl rfl tw_8_193 tw_8_194 tw_8_192 ⟨Nat.le_of_ble_eq_true rfl, Nat.le_of_ble_eq_true rfl⟩ rfl (Nat.le_of_ble_eq_true rfl) (dk_La_law_19 3 rfl) rfl c452 rfl t455 ?_
      have hs456 : p_x s447 s453 := t455.1
      show p_Go K l m_La_law 1154 [(0, p_s 9), (1, p_r v1), (2, p_r v2), (3, p_i v3)] [p_i r457, p_i r451] s453 _
      refine g_icmp_eq 1701 (dk_La_law_19 4 rfl) (by decide) (fun b458 => ?_) (fun b458 => ?_)
      · have h := p_ifT b458 h
        exact tB_La_law_1701 K l n9 t9 he1 he2 k18 hk18 v1 v2 v3 s453 _ h
      · have h := p_ifF b458 h
        refine g_iconst (dk_La_law_19 5 rfl) (by decide) ?_
        cases h
        exact g_ret rfl rfl (dk_La_law_19 6 rfl) (fun _ => ⟨_, rfl, Or.inl rfl⟩)
    rcases p_iteE h with ⟨b459, h⟩ | ⟨b459, h⟩
    · refine g_tableIn 1159 (dk_La_law_0 21 rfl) (by omega) (by omega) (by rw [b459]; rfl) (by decide) ?_
      refine g_aload_n (i := 1) (j := 1) (dk_La_law_19 7 rfl) rfl rfl ?_
      refine g_aload_nS (i := 0) (j := 0) (dk_La_law_19 8 rfl) rfl rfl ?_
      refine g_iload_n (i := 3) (j := 3) (dk_La_law_19 9 rfl) rfl rfl ?_
      refine g_iconst (dk_La_law_19 10 rfl) (by decide) ?_
      refine g_iadd (dk_La_law_19 11 rfl) ?_
      obtain ⟨c460, h⟩ := p_gdE h
      refine g_scr he1 he2 (dk_La_law_19 12 rfl) c460.1 c460.2 ?_
      refine g_aload_nS (i := 0) (j := 0) (dk_La_law_19 13 rfl) rfl rfl ?_
      refine g_iload_n (i := 3) (j := 3) (dk_La_law_19 14 rfl) rfl rfl ?_
      refine g_iconst (dk_La_law_19 15 rfl) (by decide) ?_
      refine g_iadd (dk_La_law_19 16 rfl) ?_
      obtain ⟨c461, h⟩ := p_gdE h
      refine g_scr he1 he2 (dk_La_law_19 17 rfl) c461.1 c461.2 ?_
      obtain ⟨c462, h⟩ := p_gdE h
      obtain ⟨r467, s463, q464, h⟩ := p_bdE h
      have t465 := tF_SW_told K l v1 (t9 ((p_w (v3 + 1)) : Int).toNat) (t9 ((p_w (v3 + 2)) : Int).toNat) s0 _ q464
      refine g_callV (a := v1) (ci := 10) (q0 := (RX10, TX10, 9)) (As := [p_i (t9 ((p_w (v3 + 1)) : Int).toNat), p_i (t9 ((p_w (v3 + 2)) : Int).toNat)]) (rest := []) [p_i r467] mt_SW_told rfl rfl tw_5_137 tw_5_138 tw_5_136 ⟨Nat.le_of_ble_eq_true rfl, Nat.le_of_ble_eq_true rfl⟩ rfl (Nat.le_of_ble_eq_true rfl) (dk_La_law_19 18 rfl) rfl c462 rfl t465 ?_
      have hs466 : p_x s0 s463 := t465.1
      show p_Go K l m_La_law 1173 [(0, p_s 9), (1, p_r v1), (2, p_r v2), (3, p_i v3)] [p_i r467] s463 _
      refine g_aload_n (i := 2) (j := 2) (dk_La_law_19 19 rfl) rfl rfl ?_
      refine g_aload_nS (i := 0) (j := 0) (dk_La_law_19 20 rfl) rfl rfl ?_
      refine g_iload_n (i := 3) (j := 3) (dk_La_law_19 21 rfl) rfl rfl ?_
      refine g_iconst (dk_La_law_19 22 rfl) (by decide) ?_
      refine g_iadd (dk_La_law_19 23 rfl) ?_
      obtain ⟨c468, h⟩ := p_gdE h
      refine g_scr he1 he2 (dk_La_law_19 24 rfl) c468.1 c468.2 ?_
      refine g_aload_nS (i := 0) (j := 0) (dk_La_law_19 25 rfl) rfl rfl ?_
      refine g_iload_n (i := 3) (j := 3) (dk_La_law_19 26 rfl) rfl rfl ?_
      refine g_iconst (dk_La_law_19 27 rfl) (by decide) ?_
      refine g_iadd (dk_La_law_19 28 rfl) ?_
      obtain ⟨c469, h⟩ := p_gdE h
      refine g_scr he1 he2 (dk_La_law_19 29 rfl) c469.1 c469.2 ?_
      obtain ⟨c470, h⟩ := p_gdE h
      obtain ⟨r475, s471, q472, h⟩ := p_bdE h
      have t473 := tF_Mo_told K l v2 (t9 ((p_w (v3 + 1)) : Int).toNat) (t9 ((p_w (v3 + 2)) : Int).toNat) s463 _ q472
      refine g_callV (a := v2) (ci := 11) (q0 := (RX11, TX11, 90)) (As := [p_i (t9 ((p_w (v3 + 1)) : Int).toNat), p_i (t9 ((p_w (v3 + 2)) : Int).toNat)]) (rest := [p_i r467]) [p_i r475, p_i r467] mt_Mo_told rfl rfl tw_8_197 tw_8_198 tw_8_196 ⟨Nat.le_of_ble_eq_true rfl, Nat.le_of_ble_eq_true rfl⟩ rfl (Nat.le_of_ble_eq_true rfl) (dk_La_law_19 30 rfl) rfl c470 rfl t473 ?_
      have hs474 : p_x s463 s471 := t473.1
      show p_Go K l m_La_law 1187 [(0, p_s 9), (1, p_r v1), (2, p_r v2), (3, p_i v3)] [p_i r475, p_i r467] s471 _
      refine g_icmp_eq 1701 (dk_La_law_19 31 rfl) (by decide) (fun b476 => ?_) (fun b476 => ?_)
      · have h := p_ifT b476 h
        exact tB_La_law_1701 K l n9 t9 he1 he2 k18 hk18 v1 v2 v3 s471 _ h
      · have h := p_ifF b476 h
        refine g_iconst (dk_La_law_19 32 rfl) (by decide) ?_
        cases h
        exact g_ret rfl rfl (dk_La_law_19 33 rfl) (fun _ => ⟨_, rfl, Or.inl rfl⟩)
    rcases p_iteE h with ⟨b477, h⟩ | ⟨b477, h⟩
    · refine g_tableIn 1192 (dk_La_law_0 21 rfl) (by omega) (by omega) (by rw [b477]; rfl) (by decide) ?_
      refine g_aload_n (i := 1) (j := 1) (dk_La_law_19 34 rfl) rfl rfl ?_
      refine g_aload_nS (i := 0) (j := 0) (dk_La_law_19 35 rfl) rfl rfl ?_
      refine g_iload_n (i := 3) (j := 3) (dk_La_law_19 36 rfl) rfl rfl ?_
      refine g_iconst (dk_La_law_19 37 rfl) (by decide) ?_
      refine g_iadd (dk_La_law_19 38 rfl) ?_
      obtain ⟨c478, h⟩ := p_gdE h
      refine g_scr he1 he2 (dk_La_law_19 39 rfl) c478.1 c478.2 ?_
      refine g_aload_nS (i := 0) (j := 0) (dk_La_law_20 0 rfl) rfl rfl ?_
      refine g_iload_n (i := 3) (j := 3) (dk_La_law_20 1 rfl) rfl rfl ?_
      refine g_iconst (dk_La_law_20 2 rfl) (by decide) ?_
      refine g_iadd (dk_La_law_20 3 rfl) ?_
      obtain ⟨c479, h⟩ := p_gdE h
      refine g_scr he1 he2 (dk_La_law_20 4 rfl) c479.1 c479.2 ?_
      obtain ⟨c480, h⟩ := p_gdE h
      obtain ⟨r485, s481, q482, h⟩ := p_bdE h
      have t483 := tF_SW_slot K l v1 (t9 ((p_w (v3 + 1)) : Int).toNat) (t9 ((p_w (v3 + 2)) : Int).toNat) s0 _ q482
      refine g_callV (a := v1) (ci := 10) (q0 := (RX10, TX10, 9)) (As := [p_i (t9 ((p_w (v3 + 1)) : Int).toNat), p_i (t9 ((p_w (v3 + 2)) : Int).toNat)]) (rest := []) [p_i r485] mt_SW_slot rfl rfl tw_5_147 tw_5_148 tw_5_146 ⟨Nat.le_of_ble_eq_true rfl, Nat.le_of_ble_eq_true rfl⟩ rfl (Nat.le_of_ble_eq_true rfl) (dk_La_law_20 5 rfl) rfl c480 rfl t483 ?_
      have hs484 : p_x s0 s481 := t483.1
      show p_Go K l m_La_law 1206 [(0, p_s 9), (1, p_r v1), (2, p_r v2), (3, p_i v3)] [p_i r485] s481 _
      refine g_aload_n (i := 2) (j := 2) (dk_La_law_20 6 rfl) rfl rfl ?_
      refine g_aload_nS (i := 0) (j := 0) (dk_La_law_20 7 rfl) rfl rfl ?_
      refine g_iload_n (i := 3) (j := 3) (dk_La_law_20 8 rfl) rfl rfl ?_
      refine g_iconst (dk_La_law_20 9 rfl) (by decide) ?_
      refine g_iadd (dk_La_law_20 10 rfl) ?_
      obtain ⟨c486, h⟩ := p_gdE h
      refine g_scr he1 he2 (dk_La_law_20 11 rfl) c486.1 c486.2 ?_
      refine g_aload_nS (i := 0) (j := 0) (dk_La_law_20 12 rfl) rfl rfl ?_
      refine g_iload_n (i := 3) (j := 3) (dk_La_law_20 13 rfl) rfl rfl ?_
      refine g_iconst (dk_La_law_20 14 rfl) (by decide) ?_
      refine g_iadd (dk_La_law_20 15 rfl) ?_
      obtain ⟨c487, h⟩ := p_gdE h
      refine g_scr he1 he2 (dk_La_law_20 16 rfl) c487.1 c487.2 ?_
      obtain ⟨c488, h⟩ := p_gdE h
      obtain ⟨r493, s489, q490, h⟩ := p_bdE h
      have t491 := tF_Mo_slot K l v2 (t9 ((p_w (v3 + 1)) : Int).toNat) (t9 ((p_w (v3 + 2)) : Int).toNat) s481 _ q490
      refine g_callV (a := v2) (ci := 11) (q0 := (RX11, TX11, 90)) (As := [p_i (t9 ((p_w (v3 + 1)) : Int).toNat), p_i (t9 ((p_w (v3 + 2)) : Int).toNat)]) (rest := [p_i r485]) [p_i r493, p_i r485] mt_Mo_slot rfl rfl tw_8_205 tw_8_206 tw_8_204 ⟨Nat.le_of_ble_eq_true rfl, Nat.le_of_ble_eq_true rfl⟩ rfl (Nat.le_of_ble_eq_true rfl) (dk_La_law_20 17 rfl) rfl c488 rfl t491 ?_
      have hs492 : p_x s481 s489 := t491.1
      show p_Go K l m_La_law 1220 [(0, p_s 9), (1, p_r v1), (2, p_r v2), (3, p_i v3)] [p_i r493, p_i r485] s489 _
      refine g_icmp_eq 1701 (dk_La_law_20 18 rfl) (by decide) (fun b494 => ?_) (fun b494 => ?_)
      · have h := p_ifT b494 h
        exact tB_La_law_1701 K l n9 t9 he1 he2 k18 hk18 v1 v2 v3 s489 _ h
      · have h := p_ifF b494 h
        refine g_iconst (dk_La_law_20 19 rfl) (by decide) ?_
        cases h
        exact g_ret rfl rfl (dk_La_law_20 20 rfl) (fun _ => ⟨_, rfl, Or.inl rfl⟩)
    rcases p_iteE h with ⟨b495, h⟩ | ⟨b495, h⟩
    · refine g_tableIn 1225 (dk_La_law_0 21 rfl) (by omega) (by omega) (by rw [b495]; rfl) (by decide) ?_
      refine g_aload_n (i := 1) (j := 1) (dk_La_law_20 21 rfl) rfl rfl ?_
      refine g_aload_nS (i := 0) (j := 0) (dk_La_law_20 22 rfl) rfl rfl ?_
      refine g_iload_n (i := 3) (j := 3) (dk_La_law_20 23 rfl) rfl rfl ?_
      refine g_iconst (dk_La_law_20 24 rfl) (by decide) ?_
      refine g_iadd (dk_La_law_20 25 rfl) ?_
      obtain ⟨c496, h⟩ := p_gdE h
      refine g_scr he1 he2 (dk_La_law_20 26 rfl) c496.1 c496.2 ?_
      refine g_aload_nS (i := 0) (j := 0) (dk_La_law_20 27 rfl) rfl rfl ?_
      refine g_iload_n (i := 3) (j := 3) (dk_La_law_20 28 rfl) rfl rfl ?_
      refine g_iconst (dk_La_law_20 29 rfl) (by decide) ?_
      refine g_iadd (dk_La_law_20 30 rfl) ?_
      obtain ⟨c497, h⟩ := p_gdE h
      refine g_scr he1 he2 (dk_La_law_20 31 rfl) c497.1 c497.2 ?_
      obtain ⟨c498, h⟩ := p_gdE h
      obtain ⟨r503, s499, q500, h⟩ := p_bdE h
      have t501 := tF_SW_linkOf K l v1 (t9 ((p_w (v3 + 1)) : Int).toNat) (t9 ((p_w (v3 + 2)) : Int).toNat) s0 _ q500
      refine g_callV (a := v1) (ci := 10) (q0 := (RX10, TX10, 9)) (As := [p_i (t9 ((p_w (v3 + 1)) : Int).toNat), p_i (t9 ((p_w (v3 + 2)) : Int).toNat)]) (rest := []) [p_i r503] mt_SW_linkOf rfl rfl tw_5_152 tw_5_153 tw_5_151 ⟨Nat.le_of_ble_eq_true rfl, Nat.le_of_ble_eq_true rfl⟩ rfl (Nat.le_of_ble_eq_true rfl) (dk_La_law_20 32 rfl) rfl c498 rfl t501 ?_
      have hs502 : p_x s0 s499 := t501.1
      show p_Go K l m_La_law 1239 [(0, p_s 9), (1, p_r v1), (2, p_r v2), (3, p_i v3)] [p_i r503] s499 _
      refine g_aload_n (i := 2) (j := 2) (dk_La_law_20 33 rfl) rfl rfl ?_
      refine g_aload_nS (i := 0) (j := 0) (dk_La_law_20 34 rfl) rfl rfl ?_
      refine g_iload_n (i := 3) (j := 3) (dk_La_law_20 35 rfl) rfl rfl ?_
      refine g_iconst (dk_La_law_20 36 rfl) (by decide) ?_
      refine g_iadd (dk_La_law_20 37 rfl) ?_
      obtain ⟨c504, h⟩ := p_gdE h
      refine g_scr he1 he2 (dk_La_law_20 38 rfl) c504.1 c504.2 ?_
      refine g_aload_nS (i := 0) (j := 0) (dk_La_law_20 39 rfl) rfl rfl ?_
      refine g_iload_n (i := 3) (j := 3) (dk_La_law_21 0 rfl) rfl rfl ?_
      refine g_iconst (dk_La_law_21 1 rfl) (by decide) ?_
      refine g_iadd (dk_La_law_21 2 rfl) ?_
      obtain ⟨c505, h⟩ := p_gdE h
      refine g_scr he1 he2 (dk_La_law_21 3 rfl) c505.1 c505.2 ?_
      obtain ⟨c506, h⟩ := p_gdE h
      obtain ⟨r511, s507, q508, h⟩ := p_bdE h
      have t509 := tF_Mo_linkOf K l v2 (t9 ((p_w (v3 + 1)) : Int).toNat) (t9 ((p_w (v3 + 2)) : Int).toNat) s499 _ q508
      refine g_callV (a := v2) (ci := 11) (q0 := (RX11, TX11, 90)) (As := [p_i (t9 ((p_w (v3 + 1)) : Int).toNat), p_i (t9 ((p_w (v3 + 2)) : Int).toNat)]) (rest := [p_i r503]) [p_i r511, p_i r503] mt_Mo_linkOf rfl rfl tw_8_209 tw_8_210 tw_8_208 ⟨Nat.le_of_ble_eq_true rfl, Nat.le_of_ble_eq_true rfl⟩ rfl (Nat.le_of_ble_eq_true rfl) (dk_La_law_21 4 rfl) rfl c506 rfl t509 ?_
      have hs510 : p_x s499 s507 := t509.1
      show p_Go K l m_La_law 1253 [(0, p_s 9), (1, p_r v1), (2, p_r v2), (3, p_i v3)] [p_i r511, p_i r503] s507 _
      refine g_icmp_eq 1701 (dk_La_law_21 5 rfl) (by decide) (fun b512 => ?_) (fun b512 => ?_)
      · have h := p_ifT b512 h
        exact tB_La_law_1701 K l n9 t9 he1 he2 k18 hk18 v1 v2 v3 s507 _ h
      · have h := p_ifF b512 h
        refine g_iconst (dk_La_law_21 6 rfl) (by decide) ?_
        cases h
        exact g_ret rfl rfl (dk_La_law_21 7 rfl) (fun _ => ⟨_, rfl, Or.inl rfl⟩)
    rcases p_iteE h with ⟨b513, h⟩ | ⟨b513, h⟩
    · refine g_tableIn 1258 (dk_La_law_0 21 rfl) (by omega) (by omega) (by rw [b513]; rfl) (by decide) ?_
      refine g_aload_n (i := 1) (j := 1) (dk_La_law_21 8 rfl) rfl rfl ?_
      refine g_aload_nS (i := 0) (j := 0) (dk_La_law_21 9 rfl) rfl rfl ?_
      refine g_iload_n (i := 3) (j := 3) (dk_La_law_21 10 rfl) rfl rfl ?_
      refine g_iconst (dk_La_law_21 11 rfl) (by decide) ?_
      refine g_iadd (dk_La_law_21 12 rfl) ?_
      obtain ⟨c514, h⟩ := p_gdE h
      refine g_scr he1 he2 (dk_La_law_21 13 rfl) c514.1 c514.2 ?_
      refine g_aload_nS (i := 0) (j := 0) (dk_La_law_21 14 rfl) rfl rfl ?_
      refine g_iload_n (i := 3) (j := 3) (dk_La_law_21 15 rfl) rfl rfl ?_
      refine g_iconst (dk_La_law_21 16 rfl) (by decide) ?_
      refine g_iadd (dk_La_law_21 17 rfl) ?_
      obtain ⟨c515, h⟩ := p_gdE h
      refine g_scr he1 he2 (dk_La_law_21 18 rfl) c515.1 c515.2 ?_
      obtain ⟨c516, h⟩ := p_gdE h
      obtain ⟨r521, s517, q518, h⟩ := p_bdE h
      have t519 := tF_SW_parcel K l v1 (t9 ((p_w (v3 + 1)) : Int).toNat) (t9 ((p_w (v3 + 2)) : Int).toNat) s0 _ q518
      refine g_callV (a := v1) (ci := 10) (q0 := (RX10, TX10, 9)) (As := [p_i (t9 ((p_w (v3 + 1)) : Int).toNat), p_i (t9 ((p_w (v3 + 2)) : Int).toNat)]) (rest := []) [p_i r521] mt_SW_parcel rfl rfl tw_5_156 tw_5_157 tw_5_155 ⟨Nat.le_of_ble_eq_true rfl, Nat.le_of_ble_eq_true rfl⟩ rfl (Nat.le_of_ble_eq_true rfl) (dk_La_law_21 19 rfl) rfl c516 rfl t519 ?_
      have hs520 : p_x s0 s517 := t519.1
      show p_Go K l m_La_law 1272 [(0, p_s 9), (1, p_r v1), (2, p_r v2), (3, p_i v3)] [p_i r521] s517 _
      refine g_aload_n (i := 2) (j := 2) (dk_La_law_21 20 rfl) rfl rfl ?_
      refine g_aload_nS (i := 0) (j := 0) (dk_La_law_21 21 rfl) rfl rfl ?_
      refine g_iload_n (i := 3) (j := 3) (dk_La_law_21 22 rfl) rfl rfl ?_
      refine g_iconst (dk_La_law_21 23 rfl) (by decide) ?_
      refine g_iadd (dk_La_law_21 24 rfl) ?_
      obtain ⟨c522, h⟩ := p_gdE h
      refine g_scr he1 he2 (dk_La_law_21 25 rfl) c522.1 c522.2 ?_
      refine g_aload_nS (i := 0) (j := 0) (dk_La_law_21 26 rfl) rfl rfl ?_
      refine g_iload_n (i := 3) (j := 3) (dk_La_law_21 27 rfl) rfl rfl ?_
      refine g_iconst (dk_La_law_21 28 rfl) (by decide) ?_
      refine g_iadd (dk_La_law_21 29 rfl) ?_
      obtain ⟨c523, h⟩ := p_gdE h
      refine g_scr he1 he2 (dk_La_law_21 30 rfl) c523.1 c523.2 ?_
      obtain ⟨c524, h⟩ := p_gdE h
      obtain ⟨r529, s525, q526, h⟩ := p_bdE h
      have t527 := tF_Mo_parcel K l v2 (t9 ((p_w (v3 + 1)) : Int).toNat) (t9 ((p_w (v3 + 2)) : Int).toNat) s517 _ q526
      refine g_callV (a := v2) (ci := 11) (q0 := (RX11, TX11, 90)) (As := [p_i (t9 ((p_w (v3 + 1)) : Int).toNat), p_i (t9 ((p_w (v3 + 2)) : Int).toNat)]) (rest := [p_i r521]) [p_i r529, p_i r521] mt_Mo_parcel rfl rfl tw_8_213 tw_8_214 tw_8_212 ⟨Nat.le_of_ble_eq_true rfl, Nat.le_of_ble_eq_true rfl⟩ rfl (Nat.le_of_ble_eq_true rfl) (dk_La_law_21 31 rfl) rfl c524 rfl t527 ?_
      have hs528 : p_x s517 s525 := t527.1
      show p_Go K l m_La_law 1286 [(0, p_s 9), (1, p_r v1), (2, p_r v2), (3, p_i v3)] [p_i r529, p_i r521] s525 _
      refine g_icmp_eq 1701 (dk_La_law_21 32 rfl) (by decide) (fun b530 => ?_) (fun b530 => ?_)
      · have h := p_ifT b530 h
        exact tB_La_law_1701 K l n9 t9 he1 he2 k18 hk18 v1 v2 v3 s525 _ h
      · have h := p_ifF b530 h
        refine g_iconst (dk_La_law_21 33 rfl) (by decide) ?_
        cases h
        exact g_ret rfl rfl (dk_La_law_21 34 rfl) (fun _ => ⟨_, rfl, Or.inl rfl⟩)
    rcases p_iteE h with ⟨b531, h⟩ | ⟨b531, h⟩
    · refine g_tableIn 1291 (dk_La_law_0 21 rfl) (by omega) (by omega) (by rw [b531]; rfl) (by decide) ?_
      refine g_aload_n (i := 1) (j := 1) (dk_La_law_21 35 rfl) rfl rfl ?_
      refine g_aload_nS (i := 0) (j := 0) (dk_La_law_21 36 rfl) rfl rfl ?_
      refine g_iload_n (i := 3) (j := 3) (dk_La_law_21 37 rfl) rfl rfl ?_
      refine g_iconst (dk_La_law_21 38 rfl) (by decide) ?_
      refine g_iadd (dk_La_law_21 39 rfl) ?_
      obtain ⟨c532, h⟩ := p_gdE h
      refine g_scr he1 he2 (dk_La_law_22 0 rfl) c532.1 c532.2 ?_
      refine g_aload_nS (i := 0) (j := 0) (dk_La_law_22 1 rfl) rfl rfl ?_
      refine g_iload_n (i := 3) (j := 3) (dk_La_law_22 2 rfl) rfl rfl ?_
      refine g_iconst (dk_La_law_22 3 rfl) (by decide) ?_
      refine g_iadd (dk_La_law_22 4 rfl) ?_
      obtain ⟨c533, h⟩ := p_gdE h
      refine g_scr he1 he2 (dk_La_law_22 5 rfl) c533.1 c533.2 ?_
      obtain ⟨c534, h⟩ := p_gdE h
      obtain ⟨r539, s535, q536, h⟩ := p_bdE h
      have t537 := tF_SW_way K l v1 (t9 ((p_w (v3 + 1)) : Int).toNat) (t9 ((p_w (v3 + 2)) : Int).toNat) s0 _ q536
      refine g_callV (a := v1) (ci := 10) (q0 := (RX10, TX10, 9)) (As := [p_i (t9 ((p_w (v3 + 1)) : Int).toNat), p_i (t9 ((p_w (v3 + 2)) : Int).toNat)]) (rest := []) [p_i r539] mt_SW_way rfl rfl tw_5_164 tw_5_165 tw_5_163 ⟨Nat.le_of_ble_eq_true rfl, Nat.le_of_ble_eq_true rfl⟩ rfl (Nat.le_of_ble_eq_true rfl) (dk_La_law_22 6 rfl) rfl c534 rfl t537 ?_
      have hs538 : p_x s0 s535 := t537.1
      show p_Go K l m_La_law 1305 [(0, p_s 9), (1, p_r v1), (2, p_r v2), (3, p_i v3)] [p_i r539] s535 _
      refine g_aload_n (i := 2) (j := 2) (dk_La_law_22 7 rfl) rfl rfl ?_
      refine g_aload_nS (i := 0) (j := 0) (dk_La_law_22 8 rfl) rfl rfl ?_
      refine g_iload_n (i := 3) (j := 3) (dk_La_law_22 9 rfl) rfl rfl ?_
      refine g_iconst (dk_La_law_22 10 rfl) (by decide) ?_
      refine g_iadd (dk_La_law_22 11 rfl) ?_
      obtain ⟨c540, h⟩ := p_gdE h
      refine g_scr he1 he2 (dk_La_law_22 12 rfl) c540.1 c540.2 ?_
      refine g_aload_nS (i := 0) (j := 0) (dk_La_law_22 13 rfl) rfl rfl ?_
      refine g_iload_n (i := 3) (j := 3) (dk_La_law_22 14 rfl) rfl rfl ?_
      refine g_iconst (dk_La_law_22 15 rfl) (by decide) ?_
      refine g_iadd (dk_La_law_22 16 rfl) ?_
      obtain ⟨c541, h⟩ := p_gdE h
      refine g_scr he1 he2 (dk_La_law_22 17 rfl) c541.1 c541.2 ?_
      obtain ⟨c542, h⟩ := p_gdE h
      obtain ⟨r547, s543, q544, h⟩ := p_bdE h
      have t545 := tF_Mo_way K l v2 (t9 ((p_w (v3 + 1)) : Int).toNat) (t9 ((p_w (v3 + 2)) : Int).toNat) s535 _ q544
      refine g_callV (a := v2) (ci := 11) (q0 := (RX11, TX11, 90)) (As := [p_i (t9 ((p_w (v3 + 1)) : Int).toNat), p_i (t9 ((p_w (v3 + 2)) : Int).toNat)]) (rest := [p_i r539]) [p_i r547, p_i r539] mt_Mo_way rfl rfl tw_8_217 tw_8_218 tw_8_216 ⟨Nat.le_of_ble_eq_true rfl, Nat.le_of_ble_eq_true rfl⟩ rfl (Nat.le_of_ble_eq_true rfl) (dk_La_law_22 18 rfl) rfl c542 rfl t545 ?_
      have hs546 : p_x s535 s543 := t545.1
      show p_Go K l m_La_law 1319 [(0, p_s 9), (1, p_r v1), (2, p_r v2), (3, p_i v3)] [p_i r547, p_i r539] s543 _
      refine g_icmp_eq 1701 (dk_La_law_22 19 rfl) (by decide) (fun b548 => ?_) (fun b548 => ?_)
      · have h := p_ifT b548 h
        exact tB_La_law_1701 K l n9 t9 he1 he2 k18 hk18 v1 v2 v3 s543 _ h
      · have h := p_ifF b548 h
        refine g_iconst (dk_La_law_22 20 rfl) (by decide) ?_
        cases h
        exact g_ret rfl rfl (dk_La_law_22 21 rfl) (fun _ => ⟨_, rfl, Or.inl rfl⟩)
    rcases p_iteE h with ⟨b549, h⟩ | ⟨b549, h⟩
    · refine g_tableIn 1324 (dk_La_law_0 21 rfl) (by omega) (by omega) (by rw [b549]; rfl) (by decide) ?_
      refine g_aload_n (i := 1) (j := 1) (dk_La_law_22 22 rfl) rfl rfl ?_
      refine g_aload_nS (i := 0) (j := 0) (dk_La_law_22 23 rfl) rfl rfl ?_
      refine g_iload_n (i := 3) (j := 3) (dk_La_law_22 24 rfl) rfl rfl ?_
      refine g_iconst (dk_La_law_22 25 rfl) (by decide) ?_
      refine g_iadd (dk_La_law_22 26 rfl) ?_
      obtain ⟨c550, h⟩ := p_gdE h
      refine g_scr he1 he2 (dk_La_law_22 27 rfl) c550.1 c550.2 ?_
      refine g_aload_nS (i := 0) (j := 0) (dk_La_law_22 28 rfl) rfl rfl ?_
      refine g_iload_n (i := 3) (j := 3) (dk_La_law_22 29 rfl) rfl rfl ?_
      refine g_iconst (dk_La_law_22 30 rfl) (by decide) ?_
      refine g_iadd (dk_La_law_22 31 rfl) ?_
      obtain ⟨c551, h⟩ := p_gdE h
      refine g_scr he1 he2 (dk_La_law_22 32 rfl) c551.1 c551.2 ?_
      obtain ⟨c552, h⟩ := p_gdE h
      obtain ⟨r557, s553, q554, h⟩ := p_bdE h
      have t555 := tF_SW_byteOf K l v1 (t9 ((p_w (v3 + 1)) : Int).toNat) (t9 ((p_w (v3 + 2)) : Int).toNat) s0 _ q554
      refine g_callV (a := v1) (ci := 10) (q0 := (RX10, TX10, 9)) (As := [p_i (t9 ((p_w (v3 + 1)) : Int).toNat), p_i (t9 ((p_w (v3 + 2)) : Int).toNat)]) (rest := []) [p_i r557] mt_SW_byteOf rfl rfl tw_5_168 tw_5_169 tw_5_167 ⟨Nat.le_of_ble_eq_true rfl, Nat.le_of_ble_eq_true rfl⟩ rfl (Nat.le_of_ble_eq_true rfl) (dk_La_law_22 33 rfl) rfl c552 rfl t555 ?_
      have hs556 : p_x s0 s553 := t555.1
      show p_Go K l m_La_law 1338 [(0, p_s 9), (1, p_r v1), (2, p_r v2), (3, p_i v3)] [p_i r557] s553 _
      refine g_aload_n (i := 2) (j := 2) (dk_La_law_22 34 rfl) rfl rfl ?_
      refine g_aload_nS (i := 0) (j := 0) (dk_La_law_22 35 rfl) rfl rfl ?_
      refine g_iload_n (i := 3) (j := 3) (dk_La_law_22 36 rfl) rfl rfl ?_
      refine g_iconst (dk_La_law_22 37 rfl) (by decide) ?_
      refine g_iadd (dk_La_law_22 38 rfl) ?_
      obtain ⟨c558, h⟩ := p_gdE h
      refine g_scr he1 he2 (dk_La_law_22 39 rfl) c558.1 c558.2 ?_
      refine g_aload_nS (i := 0) (j := 0) (dk_La_law_23 0 rfl) rfl rfl ?_
      refine g_iload_n (i := 3) (j := 3) (dk_La_law_23 1 rfl) rfl rfl ?_
      refine g_iconst (dk_La_law_23 2 rfl) (by decide) ?_
      refine g_iadd (dk_La_law_23 3 rfl) ?_
      obtain ⟨c559, h⟩ := p_gdE h
      refine g_scr he1 he2 (dk_La_law_23 4 rfl) c559.1 c559.2 ?_
      obtain ⟨c560, h⟩ := p_gdE h
      obtain ⟨r565, s561, q562, h⟩ := p_bdE h
      have t563 := tF_Mo_byteOf K l v2 (t9 ((p_w (v3 + 1)) : Int).toNat) (t9 ((p_w (v3 + 2)) : Int).toNat) s553 _ q562
      refine g_callV (a := v2) (ci := 11) (q0 := (RX11, TX11, 90)) (As := [p_i (t9 ((p_w (v3 + 1)) : Int).toNat), p_i (t9 ((p_w (v3 + 2)) : Int).toNat)]) (rest := [p_i r557]) [p_i r565, p_i r557] mt_Mo_byteOf rfl rfl tw_8_221 tw_8_222 tw_8_220 ⟨Nat.le_of_ble_eq_true rfl, Nat.le_of_ble_eq_true rfl⟩ rfl (Nat.le_of_ble_eq_true rfl) (dk_La_law_23 5 rfl) rfl c560 rfl t563 ?_
      have hs564 : p_x s553 s561 := t563.1
      show p_Go K l m_La_law 1352 [(0, p_s 9), (1, p_r v1), (2, p_r v2), (3, p_i v3)] [p_i r565, p_i r557] s561 _
      refine g_icmp_eq 1701 (dk_La_law_23 6 rfl) (by decide) (fun b566 => ?_) (fun b566 => ?_)
      · have h := p_ifT b566 h
        exact tB_La_law_1701 K l n9 t9 he1 he2 k18 hk18 v1 v2 v3 s561 _ h
      · have h := p_ifF b566 h
        refine g_iconst (dk_La_law_23 7 rfl) (by decide) ?_
        cases h
        exact g_ret rfl rfl (dk_La_law_23 8 rfl) (fun _ => ⟨_, rfl, Or.inl rfl⟩)
    rcases p_iteE h with ⟨b567, h⟩ | ⟨b567, h⟩
    · refine g_tableIn 1357 (dk_La_law_0 21 rfl) (by omega) (by omega) (by rw [b567]; rfl) (by decide) ?_
      refine g_aload_n (i := 1) (j := 1) (dk_La_law_23 9 rfl) rfl rfl ?_
      refine g_aload_nS (i := 0) (j := 0) (dk_La_law_23 10 rfl) rfl rfl ?_
      refine g_iload_n (i := 3) (j := 3) (dk_La_law_23 11 rfl) rfl rfl ?_
      refine g_iconst (dk_La_law_23 12 rfl) (by decide) ?_
      refine g_iadd (dk_La_law_23 13 rfl) ?_
      obtain ⟨c568, h⟩ := p_gdE h
      refine g_scr he1 he2 (dk_La_law_23 14 rfl) c568.1 c568.2 ?_
      obtain ⟨c569, h⟩ := p_gdE h
      obtain ⟨r574, s570, q571, h⟩ := p_bdE h
      have t572 := tF_SW_left K l v1 (t9 ((p_w (v3 + 1)) : Int).toNat) s0 _ q571
      refine g_callV (a := v1) (ci := 10) (q0 := (RX10, TX10, 9)) (As := [p_i (t9 ((p_w (v3 + 1)) : Int).toNat)]) (rest := []) [p_i r574] mt_SW_left rfl rfl tw_5_172 tw_5_173 tw_5_171 ⟨Nat.le_of_ble_eq_true rfl, Nat.le_of_ble_eq_true rfl⟩ rfl (Nat.le_of_ble_eq_true rfl) (dk_La_law_23 15 rfl) rfl c569 rfl t572 ?_
      have hs573 : p_x s0 s570 := t572.1
      show p_Go K l m_La_law 1366 [(0, p_s 9), (1, p_r v1), (2, p_r v2), (3, p_i v3)] [p_i r574] s570 _
      refine g_aload_n (i := 2) (j := 2) (dk_La_law_23 16 rfl) rfl rfl ?_
      refine g_aload_nS (i := 0) (j := 0) (dk_La_law_23 17 rfl) rfl rfl ?_
      refine g_iload_n (i := 3) (j := 3) (dk_La_law_23 18 rfl) rfl rfl ?_
      refine g_iconst (dk_La_law_23 19 rfl) (by decide) ?_
      refine g_iadd (dk_La_law_23 20 rfl) ?_
      obtain ⟨c575, h⟩ := p_gdE h
      refine g_scr he1 he2 (dk_La_law_23 21 rfl) c575.1 c575.2 ?_
      obtain ⟨c576, h⟩ := p_gdE h
      obtain ⟨r581, s577, q578, h⟩ := p_bdE h
      have t579 := tF_Mo_left K l v2 (t9 ((p_w (v3 + 1)) : Int).toNat) s570 _ q578
      refine g_callV (a := v2) (ci := 11) (q0 := (RX11, TX11, 90)) (As := [p_i (t9 ((p_w (v3 + 1)) : Int).toNat)]) (rest := [p_i r574]) [p_i r581, p_i r574] mt_Mo_left rfl rfl tw_8_225 tw_8_226 tw_8_224 ⟨Nat.le_of_ble_eq_true rfl, Nat.le_of_ble_eq_true rfl⟩ rfl (Nat.le_of_ble_eq_true rfl) (dk_La_law_23 22 rfl) rfl c576 rfl t579 ?_
      have hs580 : p_x s570 s577 := t579.1
      show p_Go K l m_La_law 1375 [(0, p_s 9), (1, p_r v1), (2, p_r v2), (3, p_i v3)] [p_i r581, p_i r574] s577 _
      refine g_icmp_eq 1701 (dk_La_law_23 23 rfl) (by decide) (fun b582 => ?_) (fun b582 => ?_)
      · have h := p_ifT b582 h
        exact tB_La_law_1701 K l n9 t9 he1 he2 k18 hk18 v1 v2 v3 s577 _ h
      · have h := p_ifF b582 h
        refine g_iconst (dk_La_law_23 24 rfl) (by decide) ?_
        cases h
        exact g_ret rfl rfl (dk_La_law_23 25 rfl) (fun _ => ⟨_, rfl, Or.inl rfl⟩)
    rcases p_iteE h with ⟨b583, h⟩ | ⟨b583, h⟩
    · refine g_tableIn 1380 (dk_La_law_0 21 rfl) (by omega) (by omega) (by rw [b583]; rfl) (by decide) ?_
      refine g_aload_n (i := 1) (j := 1) (dk_La_law_23 26 rfl) rfl rfl ?_
      refine g_aload_nS (i := 0) (j := 0) (dk_La_law_23 27 rfl) rfl rfl ?_
      refine g_iload_n (i := 3) (j := 3) (dk_La_law_23 28 rfl) rfl rfl ?_
      refine g_iconst (dk_La_law_23 29 rfl) (by decide) ?_
      refine g_iadd (dk_La_law_23 30 rfl) ?_
      obtain ⟨c584, h⟩ := p_gdE h
      refine g_scr he1 he2 (dk_La_law_23 31 rfl) c584.1 c584.2 ?_
      refine g_aload_nS (i := 0) (j := 0) (dk_La_law_23 32 rfl) rfl rfl ?_
      refine g_iload_n (i := 3) (j := 3) (dk_La_law_23 33 rfl) rfl rfl ?_
      refine g_iconst (dk_La_law_23 34 rfl) (by decide) ?_
      refine g_iadd (dk_La_law_23 35 rfl) ?_
      obtain ⟨c585, h⟩ := p_gdE h
      refine g_scr he1 he2 (dk_La_law_23 36 rfl) c585.1 c585.2 ?_
      obtain ⟨c586, h⟩ := p_gdE h
      obtain ⟨r591, s587, q588, h⟩ := p_bdE h
      have t589 := tF_SW_out K l v1 (t9 ((p_w (v3 + 1)) : Int).toNat) (t9 ((p_w (v3 + 2)) : Int).toNat) s0 _ q588
      refine g_callV (a := v1) (ci := 10) (q0 := (RX10, TX10, 9)) (As := [p_i (t9 ((p_w (v3 + 1)) : Int).toNat), p_i (t9 ((p_w (v3 + 2)) : Int).toNat)]) (rest := []) [p_i r591] mt_SW_out rfl rfl tw_5_176 tw_5_177 tw_5_175 ⟨Nat.le_of_ble_eq_true rfl, Nat.le_of_ble_eq_true rfl⟩ rfl (Nat.le_of_ble_eq_true rfl) (dk_La_law_23 37 rfl) rfl c586 rfl t589 ?_
      have hs590 : p_x s0 s587 := t589.1
      show p_Go K l m_La_law 1394 [(0, p_s 9), (1, p_r v1), (2, p_r v2), (3, p_i v3)] [p_i r591] s587 _
      refine g_aload_n (i := 2) (j := 2) (dk_La_law_23 38 rfl) rfl rfl ?_
      refine g_aload_nS (i := 0) (j := 0) (dk_La_law_23 39 rfl) rfl rfl ?_
      refine g_iload_n (i := 3) (j := 3) (dk_La_law_24 0 rfl) rfl rfl ?_
      refine g_iconst (dk_La_law_24 1 rfl) (by decide) ?_
      refine g_iadd (dk_La_law_24 2 rfl) ?_
      obtain ⟨c592, h⟩ := p_gdE h
      refine g_scr he1 he2 (dk_La_law_24 3 rfl) c592.1 c592.2 ?_
      refine g_aload_nS (i := 0) (j := 0) (dk_La_law_24 4 rfl) rfl rfl ?_
      refine g_iload_n (i := 3) (j := 3) (dk_La_law_24 5 rfl) rfl rfl ?_
      refine g_iconst (dk_La_law_24 6 rfl) (by decide) ?_
      refine g_iadd (dk_La_law_24 7 rfl) ?_
      obtain ⟨c593, h⟩ := p_gdE h
      refine g_scr he1 he2 (dk_La_law_24 8 rfl) c593.1 c593.2 ?_
      obtain ⟨c594, h⟩ := p_gdE h
      obtain ⟨r599, s595, q596, h⟩ := p_bdE h
      have t597 := tF_Mo_out K l v2 (t9 ((p_w (v3 + 1)) : Int).toNat) (t9 ((p_w (v3 + 2)) : Int).toNat) s587 _ q596
      refine g_callV (a := v2) (ci := 11) (q0 := (RX11, TX11, 90)) (As := [p_i (t9 ((p_w (v3 + 1)) : Int).toNat), p_i (t9 ((p_w (v3 + 2)) : Int).toNat)]) (rest := [p_i r591]) [p_i r599, p_i r591] mt_Mo_out rfl rfl tw_8_229 tw_8_230 tw_8_228 ⟨Nat.le_of_ble_eq_true rfl, Nat.le_of_ble_eq_true rfl⟩ rfl (Nat.le_of_ble_eq_true rfl) (dk_La_law_24 9 rfl) rfl c594 rfl t597 ?_
      have hs598 : p_x s587 s595 := t597.1
      show p_Go K l m_La_law 1408 [(0, p_s 9), (1, p_r v1), (2, p_r v2), (3, p_i v3)] [p_i r599, p_i r591] s595 _
      refine g_icmp_eq 1701 (dk_La_law_24 10 rfl) (by decide) (fun b600 => ?_) (fun b600 => ?_)
      · have h := p_ifT b600 h
        exact tB_La_law_1701 K l n9 t9 he1 he2 k18 hk18 v1 v2 v3 s595 _ h
      · have h := p_ifF b600 h
        refine g_iconst (dk_La_law_24 11 rfl) (by decide) ?_
        cases h
        exact g_ret rfl rfl (dk_La_law_24 12 rfl) (fun _ => ⟨_, rfl, Or.inl rfl⟩)
    rcases p_iteE h with ⟨b601, h⟩ | ⟨b601, h⟩
    · refine g_tableIn 1413 (dk_La_law_0 21 rfl) (by omega) (by omega) (by rw [b601]; rfl) (by decide) ?_
      refine g_aload_n (i := 1) (j := 1) (dk_La_law_24 13 rfl) rfl rfl ?_
      refine g_aload_nS (i := 0) (j := 0) (dk_La_law_24 14 rfl) rfl rfl ?_
      refine g_iload_n (i := 3) (j := 3) (dk_La_law_24 15 rfl) rfl rfl ?_
      refine g_iconst (dk_La_law_24 16 rfl) (by decide) ?_
      refine g_iadd (dk_La_law_24 17 rfl) ?_
      obtain ⟨c602, h⟩ := p_gdE h
      refine g_scr he1 he2 (dk_La_law_24 18 rfl) c602.1 c602.2 ?_
      refine g_aload_nS (i := 0) (j := 0) (dk_La_law_24 19 rfl) rfl rfl ?_
      refine g_iload_n (i := 3) (j := 3) (dk_La_law_24 20 rfl) rfl rfl ?_
      refine g_iconst (dk_La_law_24 21 rfl) (by decide) ?_
      refine g_iadd (dk_La_law_24 22 rfl) ?_
      obtain ⟨c603, h⟩ := p_gdE h
      refine g_scr he1 he2 (dk_La_law_24 23 rfl) c603.1 c603.2 ?_
      obtain ⟨c604, h⟩ := p_gdE h
      obtain ⟨r609, s605, q606, h⟩ := p_bdE h
      have t607 := tF_SW_rule K l v1 (t9 ((p_w (v3 + 1)) : Int).toNat) (t9 ((p_w (v3 + 2)) : Int).toNat) s0 _ q606
      refine g_callV (a := v1) (ci := 10) (q0 := (RX10, TX10, 9)) (As := [p_i (t9 ((p_w (v3 + 1)) : Int).toNat), p_i (t9 ((p_w (v3 + 2)) : Int).toNat)]) (rest := []) [p_i r609] mt_SW_rule rfl rfl tw_5_184 tw_5_185 tw_5_183 ⟨Nat.le_of_ble_eq_true rfl, Nat.le_of_ble_eq_true rfl⟩ rfl (Nat.le_of_ble_eq_true rfl) (dk_La_law_24 24 rfl) rfl c604 rfl t607 ?_
      have hs608 : p_x s0 s605 := t607.1
      show p_Go K l m_La_law 1427 [(0, p_s 9), (1, p_r v1), (2, p_r v2), (3, p_i v3)] [p_i r609] s605 _
      refine g_aload_n (i := 2) (j := 2) (dk_La_law_24 25 rfl) rfl rfl ?_
      refine g_aload_nS (i := 0) (j := 0) (dk_La_law_24 26 rfl) rfl rfl ?_
      refine g_iload_n (i := 3) (j := 3) (dk_La_law_24 27 rfl) rfl rfl ?_
      refine g_iconst (dk_La_law_24 28 rfl) (by decide) ?_
      refine g_iadd (dk_La_law_24 29 rfl) ?_
      obtain ⟨c610, h⟩ := p_gdE h
      refine g_scr he1 he2 (dk_La_law_24 30 rfl) c610.1 c610.2 ?_
      refine g_aload_nS (i := 0) (j := 0) (dk_La_law_24 31 rfl) rfl rfl ?_
      refine g_iload_n (i := 3) (j := 3) (dk_La_law_24 32 rfl) rfl rfl ?_
      refine g_iconst (dk_La_law_24 33 rfl) (by decide) ?_
      refine g_iadd (dk_La_law_24 34 rfl) ?_
      obtain ⟨c611, h⟩ := p_gdE h
      refine g_scr he1 he2 (dk_La_law_24 35 rfl) c611.1 c611.2 ?_
      obtain ⟨c612, h⟩ := p_gdE h
      obtain ⟨r617, s613, q614, h⟩ := p_bdE h
      have t615 := tF_Mo_rule_1 K l v2 (t9 ((p_w (v3 + 1)) : Int).toNat) (t9 ((p_w (v3 + 2)) : Int).toNat) s605 _ q614
      refine g_callV (a := v2) (ci := 11) (q0 := (RX11, TX11, 90)) (As := [p_i (t9 ((p_w (v3 + 1)) : Int).toNat), p_i (t9 ((p_w (v3 + 2)) : Int).toNat)]) (rest := [p_i r609]) [p_i r617, p_i r609] mt_Mo_rule_1 rfl rfl tw_8_233 tw_8_234 tw_8_232 ⟨Nat.le_of_ble_eq_true rfl, Nat.le_of_ble_eq_true rfl⟩ rfl (Nat.le_of_ble_eq_true rfl) (dk_La_law_24 36 rfl) rfl c612 rfl t615 ?_
      have hs616 : p_x s605 s613 := t615.1
      show p_Go K l m_La_law 1441 [(0, p_s 9), (1, p_r v1), (2, p_r v2), (3, p_i v3)] [p_i r617, p_i r609] s613 _
      refine g_icmp_eq 1701 (dk_La_law_24 37 rfl) (by decide) (fun b618 => ?_) (fun b618 => ?_)
      · have h := p_ifT b618 h
        exact tB_La_law_1701 K l n9 t9 he1 he2 k18 hk18 v1 v2 v3 s613 _ h
      · have h := p_ifF b618 h
        refine g_iconst (dk_La_law_24 38 rfl) (by decide) ?_
        cases h
        exact g_ret rfl rfl (dk_La_law_24 39 rfl) (fun _ => ⟨_, rfl, Or.inl rfl⟩)
    rcases p_iteE h with ⟨b619, h⟩ | ⟨b619, h⟩
    · refine g_tableIn 1446 (dk_La_law_0 21 rfl) (by omega) (by omega) (by rw [b619]; rfl) (by decide) ?_
      refine g_aload_n (i := 1) (j := 1) (dk_La_law_25 0 rfl) rfl rfl ?_
      refine g_aload_nS (i := 0) (j := 0) (dk_La_law_25 1 rfl) rfl rfl ?_
      refine g_iload_n (i := 3) (j := 3) (dk_La_law_25 2 rfl) rfl rfl ?_
      refine g_iconst (dk_La_law_25 3 rfl) (by decide) ?_
      refine g_iadd (dk_La_law_25 4 rfl) ?_
      obtain ⟨c620, h⟩ := p_gdE h
      refine g_scr he1 he2 (dk_La_law_25 5 rfl) c620.1 c620.2 ?_
      obtain ⟨c621, h⟩ := p_gdE h
      obtain ⟨r626, s622, q623, h⟩ := p_bdE h
      have t624 := tF_SW_said K l v1 (t9 ((p_w (v3 + 1)) : Int).toNat) s0 _ q623
      refine g_callV (a := v1) (ci := 10) (q0 := (RX10, TX10, 9)) (As := [p_i (t9 ((p_w (v3 + 1)) : Int).toNat)]) (rest := []) [p_i r626] mt_SW_said rfl rfl tw_5_188 tw_5_189 tw_5_187 ⟨Nat.le_of_ble_eq_true rfl, Nat.le_of_ble_eq_true rfl⟩ rfl (Nat.le_of_ble_eq_true rfl) (dk_La_law_25 6 rfl) rfl c621 rfl t624 ?_
      have hs625 : p_x s0 s622 := t624.1
      show p_Go K l m_La_law 1455 [(0, p_s 9), (1, p_r v1), (2, p_r v2), (3, p_i v3)] [p_i r626] s622 _
      refine g_aload_n (i := 2) (j := 2) (dk_La_law_25 7 rfl) rfl rfl ?_
      refine g_aload_nS (i := 0) (j := 0) (dk_La_law_25 8 rfl) rfl rfl ?_
      refine g_iload_n (i := 3) (j := 3) (dk_La_law_25 9 rfl) rfl rfl ?_
      refine g_iconst (dk_La_law_25 10 rfl) (by decide) ?_
      refine g_iadd (dk_La_law_25 11 rfl) ?_
      obtain ⟨c627, h⟩ := p_gdE h
      refine g_scr he1 he2 (dk_La_law_25 12 rfl) c627.1 c627.2 ?_
      obtain ⟨c628, h⟩ := p_gdE h
      obtain ⟨r633, s629, q630, h⟩ := p_bdE h
      have t631 := tF_Mo_said K l v2 (t9 ((p_w (v3 + 1)) : Int).toNat) s622 _ q630
      refine g_callV (a := v2) (ci := 11) (q0 := (RX11, TX11, 90)) (As := [p_i (t9 ((p_w (v3 + 1)) : Int).toNat)]) (rest := [p_i r626]) [p_i r633, p_i r626] mt_Mo_said rfl rfl tw_8_237 tw_8_238 tw_8_236 ⟨Nat.le_of_ble_eq_true rfl, Nat.le_of_ble_eq_true rfl⟩ rfl (Nat.le_of_ble_eq_true rfl) (dk_La_law_25 13 rfl) rfl c628 rfl t631 ?_
      have hs632 : p_x s622 s629 := t631.1
      show p_Go K l m_La_law 1464 [(0, p_s 9), (1, p_r v1), (2, p_r v2), (3, p_i v3)] [p_i r633, p_i r626] s629 _
      refine g_icmp_eq 1701 (dk_La_law_25 14 rfl) (by decide) (fun b634 => ?_) (fun b634 => ?_)
      · have h := p_ifT b634 h
        exact tB_La_law_1701 K l n9 t9 he1 he2 k18 hk18 v1 v2 v3 s629 _ h
      · have h := p_ifF b634 h
        refine g_iconst (dk_La_law_25 15 rfl) (by decide) ?_
        cases h
        exact g_ret rfl rfl (dk_La_law_25 16 rfl) (fun _ => ⟨_, rfl, Or.inl rfl⟩)
    rcases p_iteE h with ⟨b635, h⟩ | ⟨b635, h⟩
    · refine g_tableIn 1469 (dk_La_law_0 21 rfl) (by omega) (by omega) (by rw [b635]; rfl) (by decide) ?_
      refine g_aload_n (i := 1) (j := 1) (dk_La_law_25 17 rfl) rfl rfl ?_
      refine g_aload_nS (i := 0) (j := 0) (dk_La_law_25 18 rfl) rfl rfl ?_
      refine g_iload_n (i := 3) (j := 3) (dk_La_law_25 19 rfl) rfl rfl ?_
      refine g_iconst (dk_La_law_25 20 rfl) (by decide) ?_
      refine g_iadd (dk_La_law_25 21 rfl) ?_
      obtain ⟨c636, h⟩ := p_gdE h
      refine g_scr he1 he2 (dk_La_law_25 22 rfl) c636.1 c636.2 ?_
      obtain ⟨c637, h⟩ := p_gdE h
      obtain ⟨r642, s638, q639, h⟩ := p_bdE h
      have t640 := tF_SW_unused K l v1 (t9 ((p_w (v3 + 1)) : Int).toNat) s0 _ q639
      refine g_callV (a := v1) (ci := 10) (q0 := (RX10, TX10, 9)) (As := [p_i (t9 ((p_w (v3 + 1)) : Int).toNat)]) (rest := []) [p_i r642] mt_SW_unused rfl rfl tw_5_192 tw_5_193 tw_5_191 ⟨Nat.le_of_ble_eq_true rfl, Nat.le_of_ble_eq_true rfl⟩ rfl (Nat.le_of_ble_eq_true rfl) (dk_La_law_25 23 rfl) rfl c637 rfl t640 ?_
      have hs641 : p_x s0 s638 := t640.1
      show p_Go K l m_La_law 1478 [(0, p_s 9), (1, p_r v1), (2, p_r v2), (3, p_i v3)] [p_i r642] s638 _
      refine g_aload_n (i := 2) (j := 2) (dk_La_law_25 24 rfl) rfl rfl ?_
      refine g_aload_nS (i := 0) (j := 0) (dk_La_law_25 25 rfl) rfl rfl ?_
      refine g_iload_n (i := 3) (j := 3) (dk_La_law_25 26 rfl) rfl rfl ?_
      refine g_iconst (dk_La_law_25 27 rfl) (by decide) ?_
      refine g_iadd (dk_La_law_25 28 rfl) ?_
      obtain ⟨c643, h⟩ := p_gdE h
      refine g_scr he1 he2 (dk_La_law_25 29 rfl) c643.1 c643.2 ?_
      obtain ⟨c644, h⟩ := p_gdE h
      obtain ⟨r649, s645, q646, h⟩ := p_bdE h
      have t647 := tF_Mo_unused K l v2 (t9 ((p_w (v3 + 1)) : Int).toNat) s638 _ q646
      refine g_callV (a := v2) (ci := 11) (q0 := (RX11, TX11, 90)) (As := [p_i (t9 ((p_w (v3 + 1)) : Int).toNat)]) (rest := [p_i r642]) [p_i r649, p_i r642] mt_Mo_unused rfl rfl tw_9_9 tw_9_10 tw_9_8 ⟨Nat.le_of_ble_eq_true rfl, Nat.le_of_ble_eq_true rfl⟩ rfl (Nat.le_of_ble_eq_true rfl) (dk_La_law_25 30 rfl) rfl c644 rfl t647 ?_
      have hs648 : p_x s638 s645 := t647.1
      show p_Go K l m_La_law 1487 [(0, p_s 9), (1, p_r v1), (2, p_r v2), (3, p_i v3)] [p_i r649, p_i r642] s645 _
      refine g_icmp_eq 1701 (dk_La_law_25 31 rfl) (by decide) (fun b650 => ?_) (fun b650 => ?_)
      · have h := p_ifT b650 h
        exact tB_La_law_1701 K l n9 t9 he1 he2 k18 hk18 v1 v2 v3 s645 _ h
      · have h := p_ifF b650 h
        refine g_iconst (dk_La_law_25 32 rfl) (by decide) ?_
        cases h
        exact g_ret rfl rfl (dk_La_law_25 33 rfl) (fun _ => ⟨_, rfl, Or.inl rfl⟩)
    rcases p_iteE h with ⟨b651, h⟩ | ⟨b651, h⟩
    · refine g_tableIn 1492 (dk_La_law_0 21 rfl) (by omega) (by omega) (by rw [b651]; rfl) (by decide) ?_
      refine g_aload_n (i := 1) (j := 1) (dk_La_law_25 34 rfl) rfl rfl ?_
      refine g_aload_nS (i := 0) (j := 0) (dk_La_law_25 35 rfl) rfl rfl ?_
      refine g_iload_n (i := 3) (j := 3) (dk_La_law_25 36 rfl) rfl rfl ?_
      refine g_iconst (dk_La_law_25 37 rfl) (by decide) ?_
      refine g_iadd (dk_La_law_25 38 rfl) ?_
      obtain ⟨c652, h⟩ := p_gdE h
      refine g_scr he1 he2 (dk_La_law_25 39 rfl) c652.1 c652.2 ?_
      refine g_aload_nS (i := 0) (j := 0) (dk_La_law_26 0 rfl) rfl rfl ?_
      refine g_iload_n (i := 3) (j := 3) (dk_La_law_26 1 rfl) rfl rfl ?_
      refine g_iconst (dk_La_law_26 2 rfl) (by decide) ?_
      refine g_iadd (dk_La_law_26 3 rfl) ?_
      obtain ⟨c653, h⟩ := p_gdE h
      refine g_scr he1 he2 (dk_La_law_26 4 rfl) c653.1 c653.2 ?_
      obtain ⟨c654, h⟩ := p_gdE h
      obtain ⟨r659, s655, q656, h⟩ := p_bdE h
      have t657 := tF_SW_finding K l v1 (t9 ((p_w (v3 + 1)) : Int).toNat) (t9 ((p_w (v3 + 2)) : Int).toNat) s0 _ q656
      refine g_callV (a := v1) (ci := 10) (q0 := (RX10, TX10, 9)) (As := [p_i (t9 ((p_w (v3 + 1)) : Int).toNat), p_i (t9 ((p_w (v3 + 2)) : Int).toNat)]) (rest := []) [p_i r659] mt_SW_finding rfl rfl tw_5_196 tw_5_197 tw_5_195 ⟨Nat.le_of_ble_eq_true rfl, Nat.le_of_ble_eq_true rfl⟩ rfl (Nat.le_of_ble_eq_true rfl) (dk_La_law_26 5 rfl) rfl c654 rfl t657 ?_
      have hs658 : p_x s0 s655 := t657.1
      show p_Go K l m_La_law 1506 [(0, p_s 9), (1, p_r v1), (2, p_r v2), (3, p_i v3)] [p_i r659] s655 _
      refine g_aload_n (i := 2) (j := 2) (dk_La_law_26 6 rfl) rfl rfl ?_
      refine g_aload_nS (i := 0) (j := 0) (dk_La_law_26 7 rfl) rfl rfl ?_
      refine g_iload_n (i := 3) (j := 3) (dk_La_law_26 8 rfl) rfl rfl ?_
      refine g_iconst (dk_La_law_26 9 rfl) (by decide) ?_
      refine g_iadd (dk_La_law_26 10 rfl) ?_
      obtain ⟨c660, h⟩ := p_gdE h
      refine g_scr he1 he2 (dk_La_law_26 11 rfl) c660.1 c660.2 ?_
      refine g_aload_nS (i := 0) (j := 0) (dk_La_law_26 12 rfl) rfl rfl ?_
      refine g_iload_n (i := 3) (j := 3) (dk_La_law_26 13 rfl) rfl rfl ?_
      refine g_iconst (dk_La_law_26 14 rfl) (by decide) ?_
      refine g_iadd (dk_La_law_26 15 rfl) ?_
      obtain ⟨c661, h⟩ := p_gdE h
      refine g_scr he1 he2 (dk_La_law_26 16 rfl) c661.1 c661.2 ?_
      obtain ⟨c662, h⟩ := p_gdE h
      obtain ⟨r667, s663, q664, h⟩ := p_bdE h
      have t665 := tF_Mo_finding K l v2 (t9 ((p_w (v3 + 1)) : Int).toNat) (t9 ((p_w (v3 + 2)) : Int).toNat) s655 _ q664
      refine g_callV (a := v2) (ci := 11) (q0 := (RX11, TX11, 90)) (As := [p_i (t9 ((p_w (v3 + 1)) : Int).toNat), p_i (t9 ((p_w (v3 + 2)) : Int).toNat)]) (rest := [p_i r659]) [p_i r667, p_i r659] mt_Mo_finding rfl rfl tw_9_13 tw_9_14 tw_9_12 ⟨Nat.le_of_ble_eq_true rfl, Nat.le_of_ble_eq_true rfl⟩ rfl (Nat.le_of_ble_eq_true rfl) (dk_La_law_26 17 rfl) rfl c662 rfl t665 ?_
      have hs666 : p_x s655 s663 := t665.1
      show p_Go K l m_La_law 1520 [(0, p_s 9), (1, p_r v1), (2, p_r v2), (3, p_i v3)] [p_i r667, p_i r659] s663 _
      refine g_icmp_eq 1701 (dk_La_law_26 18 rfl) (by decide) (fun b668 => ?_) (fun b668 => ?_)
      · have h := p_ifT b668 h
        exact tB_La_law_1701 K l n9 t9 he1 he2 k18 hk18 v1 v2 v3 s663 _ h
      · have h := p_ifF b668 h
        refine g_iconst (dk_La_law_26 19 rfl) (by decide) ?_
        cases h
        exact g_ret rfl rfl (dk_La_law_26 20 rfl) (fun _ => ⟨_, rfl, Or.inl rfl⟩)
    rcases p_iteE h with ⟨b669, h⟩ | ⟨b669, h⟩
    · refine g_tableIn 1525 (dk_La_law_0 21 rfl) (by omega) (by omega) (by rw [b669]; rfl) (by decide) ?_
      refine g_aload_n (i := 1) (j := 1) (dk_La_law_26 21 rfl) rfl rfl ?_
      refine g_aload_nS (i := 0) (j := 0) (dk_La_law_26 22 rfl) rfl rfl ?_
      refine g_iload_n (i := 3) (j := 3) (dk_La_law_26 23 rfl) rfl rfl ?_
      refine g_iconst (dk_La_law_26 24 rfl) (by decide) ?_
      refine g_iadd (dk_La_law_26 25 rfl) ?_
      obtain ⟨c670, h⟩ := p_gdE h
      refine g_scr he1 he2 (dk_La_law_26 26 rfl) c670.1 c670.2 ?_
      obtain ⟨c671, h⟩ := p_gdE h
      obtain ⟨r676, s672, q673, h⟩ := p_bdE h
      have t674 := tF_SW_trace K l v1 (t9 ((p_w (v3 + 1)) : Int).toNat) s0 _ q673
      refine g_callV (a := v1) (ci := 10) (q0 := (RX10, TX10, 9)) (As := [p_i (t9 ((p_w (v3 + 1)) : Int).toNat)]) (rest := []) [p_i r676] mt_SW_trace rfl rfl tw_5_200 tw_5_201 tw_5_199 ⟨Nat.le_of_ble_eq_true rfl, Nat.le_of_ble_eq_true rfl⟩ rfl (Nat.le_of_ble_eq_true rfl) (dk_La_law_26 27 rfl) rfl c671 rfl t674 ?_
      have hs675 : p_x s0 s672 := t674.1
      show p_Go K l m_La_law 1534 [(0, p_s 9), (1, p_r v1), (2, p_r v2), (3, p_i v3)] [p_i r676] s672 _
      refine g_aload_n (i := 2) (j := 2) (dk_La_law_26 28 rfl) rfl rfl ?_
      refine g_aload_nS (i := 0) (j := 0) (dk_La_law_26 29 rfl) rfl rfl ?_
      refine g_iload_n (i := 3) (j := 3) (dk_La_law_26 30 rfl) rfl rfl ?_
      refine g_iconst (dk_La_law_26 31 rfl) (by decide) ?_
      refine g_iadd (dk_La_law_26 32 rfl) ?_
      obtain ⟨c677, h⟩ := p_gdE h
      refine g_scr he1 he2 (dk_La_law_26 33 rfl) c677.1 c677.2 ?_
      obtain ⟨c678, h⟩ := p_gdE h
      obtain ⟨r683, s679, q680, h⟩ := p_bdE h
      have t681 := tF_Mo_trace K l v2 (t9 ((p_w (v3 + 1)) : Int).toNat) s672 _ q680
      refine g_callV (a := v2) (ci := 11) (q0 := (RX11, TX11, 90)) (As := [p_i (t9 ((p_w (v3 + 1)) : Int).toNat)]) (rest := [p_i r676]) [p_i r683, p_i r676] mt_Mo_trace rfl rfl tw_9_17 tw_9_18 tw_9_16 ⟨Nat.le_of_ble_eq_true rfl, Nat.le_of_ble_eq_true rfl⟩ rfl (Nat.le_of_ble_eq_true rfl) (dk_La_law_26 34 rfl) rfl c678 rfl t681 ?_
      have hs682 : p_x s672 s679 := t681.1
      show p_Go K l m_La_law 1543 [(0, p_s 9), (1, p_r v1), (2, p_r v2), (3, p_i v3)] [p_i r683, p_i r676] s679 _
      refine g_icmp_eq 1701 (dk_La_law_26 35 rfl) (by decide) (fun b684 => ?_) (fun b684 => ?_)
      · have h := p_ifT b684 h
        exact tB_La_law_1701 K l n9 t9 he1 he2 k18 hk18 v1 v2 v3 s679 _ h
      · have h := p_ifF b684 h
        refine g_iconst (dk_La_law_26 36 rfl) (by decide) ?_
        cases h
        exact g_ret rfl rfl (dk_La_law_26 37 rfl) (fun _ => ⟨_, rfl, Or.inl rfl⟩)
    rcases p_iteE h with ⟨b685, h⟩ | ⟨b685, h⟩
    · refine g_tableIn 1548 (dk_La_law_0 21 rfl) (by omega) (by omega) (by rw [b685]; rfl) (by decide) ?_
      refine g_aload_n (i := 1) (j := 1) (dk_La_law_26 38 rfl) rfl rfl ?_
      refine g_aload_nS (i := 0) (j := 0) (dk_La_law_26 39 rfl) rfl rfl ?_
      refine g_iload_n (i := 3) (j := 3) (dk_La_law_27 0 rfl) rfl rfl ?_
      refine g_iconst (dk_La_law_27 1 rfl) (by decide) ?_
      refine g_iadd (dk_La_law_27 2 rfl) ?_
      obtain ⟨c686, h⟩ := p_gdE h
      refine g_scr he1 he2 (dk_La_law_27 3 rfl) c686.1 c686.2 ?_
      obtain ⟨c687, h⟩ := p_gdE h
      obtain ⟨r692, s688, q689, h⟩ := p_bdE h
      have t690 := tF_SW_jam K l v1 (t9 ((p_w (v3 + 1)) : Int).toNat) s0 _ q689
      refine g_callV (a := v1) (ci := 10) (q0 := (RX10, TX10, 9)) (As := [p_i (t9 ((p_w (v3 + 1)) : Int).toNat)]) (rest := []) [p_i r692] mt_SW_jam rfl rfl tw_5_204 tw_5_205 tw_5_203 ⟨Nat.le_of_ble_eq_true rfl, Nat.le_of_ble_eq_true rfl⟩ rfl (Nat.le_of_ble_eq_true rfl) (dk_La_law_27 4 rfl) rfl c687 rfl t690 ?_
      have hs691 : p_x s0 s688 := t690.1
      show p_Go K l m_La_law 1557 [(0, p_s 9), (1, p_r v1), (2, p_r v2), (3, p_i v3)] [p_i r692] s688 _
      refine g_aload_n (i := 2) (j := 2) (dk_La_law_27 5 rfl) rfl rfl ?_
      refine g_aload_nS (i := 0) (j := 0) (dk_La_law_27 6 rfl) rfl rfl ?_
      refine g_iload_n (i := 3) (j := 3) (dk_La_law_27 7 rfl) rfl rfl ?_
      refine g_iconst (dk_La_law_27 8 rfl) (by decide) ?_
      refine g_iadd (dk_La_law_27 9 rfl) ?_
      obtain ⟨c693, h⟩ := p_gdE h
      refine g_scr he1 he2 (dk_La_law_27 10 rfl) c693.1 c693.2 ?_
      obtain ⟨c694, h⟩ := p_gdE h
      obtain ⟨r699, s695, q696, h⟩ := p_bdE h
      have t697 := tF_Mo_jam K l v2 (t9 ((p_w (v3 + 1)) : Int).toNat) s688 _ q696
      refine g_callV (a := v2) (ci := 11) (q0 := (RX11, TX11, 90)) (As := [p_i (t9 ((p_w (v3 + 1)) : Int).toNat)]) (rest := [p_i r692]) [p_i r699, p_i r692] mt_Mo_jam rfl rfl tw_9_21 tw_9_22 tw_9_20 ⟨Nat.le_of_ble_eq_true rfl, Nat.le_of_ble_eq_true rfl⟩ rfl (Nat.le_of_ble_eq_true rfl) (dk_La_law_27 11 rfl) rfl c694 rfl t697 ?_
      have hs698 : p_x s688 s695 := t697.1
      show p_Go K l m_La_law 1566 [(0, p_s 9), (1, p_r v1), (2, p_r v2), (3, p_i v3)] [p_i r699, p_i r692] s695 _
      refine g_icmp_eq 1701 (dk_La_law_27 12 rfl) (by decide) (fun b700 => ?_) (fun b700 => ?_)
      · have h := p_ifT b700 h
        exact tB_La_law_1701 K l n9 t9 he1 he2 k18 hk18 v1 v2 v3 s695 _ h
      · have h := p_ifF b700 h
        refine g_iconst (dk_La_law_27 13 rfl) (by decide) ?_
        cases h
        exact g_ret rfl rfl (dk_La_law_27 14 rfl) (fun _ => ⟨_, rfl, Or.inl rfl⟩)
    rcases p_iteE h with ⟨b701, h⟩ | ⟨b701, h⟩
    · refine g_tableIn 1571 (dk_La_law_0 21 rfl) (by omega) (by omega) (by rw [b701]; rfl) (by decide) ?_
      refine g_aload_n (i := 1) (j := 1) (dk_La_law_27 15 rfl) rfl rfl ?_
      refine g_aload_nS (i := 0) (j := 0) (dk_La_law_27 16 rfl) rfl rfl ?_
      refine g_iload_n (i := 3) (j := 3) (dk_La_law_27 17 rfl) rfl rfl ?_
      refine g_iconst (dk_La_law_27 18 rfl) (by decide) ?_
      refine g_iadd (dk_La_law_27 19 rfl) ?_
      obtain ⟨c702, h⟩ := p_gdE h
      refine g_scr he1 he2 (dk_La_law_27 20 rfl) c702.1 c702.2 ?_
      refine g_aload_nS (i := 0) (j := 0) (dk_La_law_27 21 rfl) rfl rfl ?_
      refine g_iload_n (i := 3) (j := 3) (dk_La_law_27 22 rfl) rfl rfl ?_
      refine g_iconst (dk_La_law_27 23 rfl) (by decide) ?_
      refine g_iadd (dk_La_law_27 24 rfl) ?_
      obtain ⟨c703, h⟩ := p_gdE h
      refine g_scr he1 he2 (dk_La_law_27 25 rfl) c703.1 c703.2 ?_
      obtain ⟨c704, h⟩ := p_gdE h
      obtain ⟨r709, s705, q706, h⟩ := p_bdE h
      have t707 := tF_SW_far K l v1 (t9 ((p_w (v3 + 1)) : Int).toNat) (t9 ((p_w (v3 + 2)) : Int).toNat) s0 _ q706
      refine g_callV (a := v1) (ci := 10) (q0 := (RX10, TX10, 9)) (As := [p_i (t9 ((p_w (v3 + 1)) : Int).toNat), p_i (t9 ((p_w (v3 + 2)) : Int).toNat)]) (rest := []) [p_i r709] mt_SW_far rfl rfl tw_5_208 tw_5_209 tw_5_207 ⟨Nat.le_of_ble_eq_true rfl, Nat.le_of_ble_eq_true rfl⟩ rfl (Nat.le_of_ble_eq_true rfl) (dk_La_law_27 26 rfl) rfl c704 rfl t707 ?_
      have hs708 : p_x s0 s705 := t707.1
      show p_Go K l m_La_law 1585 [(0, p_s 9), (1, p_r v1), (2, p_r v2), (3, p_i v3)] [p_i r709] s705 _
      refine g_aload_n (i := 2) (j := 2) (dk_La_law_27 27 rfl) rfl rfl ?_
      refine g_aload_nS (i := 0) (j := 0) (dk_La_law_27 28 rfl) rfl rfl ?_
      refine g_iload_n (i := 3) (j := 3) (dk_La_law_27 29 rfl) rfl rfl ?_
      refine g_iconst (dk_La_law_27 30 rfl) (by decide) ?_
      refine g_iadd (dk_La_law_27 31 rfl) ?_
      obtain ⟨c710, h⟩ := p_gdE h
      refine g_scr he1 he2 (dk_La_law_27 32 rfl) c710.1 c710.2 ?_
      refine g_aload_nS (i := 0) (j := 0) (dk_La_law_27 33 rfl) rfl rfl ?_
      refine g_iload_n (i := 3) (j := 3) (dk_La_law_27 34 rfl) rfl rfl ?_
      refine g_iconst (dk_La_law_27 35 rfl) (by decide) ?_
      refine g_iadd (dk_La_law_27 36 rfl) ?_
      obtain ⟨c711, h⟩ := p_gdE h
      refine g_scr he1 he2 (dk_La_law_27 37 rfl) c711.1 c711.2 ?_
      obtain ⟨c712, h⟩ := p_gdE h
      obtain ⟨r717, s713, q714, h⟩ := p_bdE h
      have t715 := tF_Mo_far K l v2 (t9 ((p_w (v3 + 1)) : Int).toNat) (t9 ((p_w (v3 + 2)) : Int).toNat) s705 _ q714
      refine g_callV (a := v2) (ci := 11) (q0 := (RX11, TX11, 90)) (As := [p_i (t9 ((p_w (v3 + 1)) : Int).toNat), p_i (t9 ((p_w (v3 + 2)) : Int).toNat)]) (rest := [p_i r709]) [p_i r717, p_i r709] mt_Mo_far rfl rfl tw_9_25 tw_9_26 tw_9_24 ⟨Nat.le_of_ble_eq_true rfl, Nat.le_of_ble_eq_true rfl⟩ rfl (Nat.le_of_ble_eq_true rfl) (dk_La_law_27 38 rfl) rfl c712 rfl t715 ?_
      have hs716 : p_x s705 s713 := t715.1
      show p_Go K l m_La_law 1599 [(0, p_s 9), (1, p_r v1), (2, p_r v2), (3, p_i v3)] [p_i r717, p_i r709] s713 _
      refine g_icmp_eq 1701 (dk_La_law_27 39 rfl) (by decide) (fun b718 => ?_) (fun b718 => ?_)
      · have h := p_ifT b718 h
        exact tB_La_law_1701 K l n9 t9 he1 he2 k18 hk18 v1 v2 v3 s713 _ h
      · have h := p_ifF b718 h
        refine g_iconst (dk_La_law_28 0 rfl) (by decide) ?_
        cases h
        exact g_ret rfl rfl (dk_La_law_28 1 rfl) (fun _ => ⟨_, rfl, Or.inl rfl⟩)
    rcases p_iteE h with ⟨b719, h⟩ | ⟨b719, h⟩
    · refine g_tableIn 1604 (dk_La_law_0 21 rfl) (by omega) (by omega) (by rw [b719]; rfl) (by decide) ?_
      refine g_aload_n (i := 1) (j := 1) (dk_La_law_28 2 rfl) rfl rfl ?_
      refine g_aload_nS (i := 0) (j := 0) (dk_La_law_28 3 rfl) rfl rfl ?_
      refine g_iload_n (i := 3) (j := 3) (dk_La_law_28 4 rfl) rfl rfl ?_
      refine g_iconst (dk_La_law_28 5 rfl) (by decide) ?_
      refine g_iadd (dk_La_law_28 6 rfl) ?_
      obtain ⟨c720, h⟩ := p_gdE h
      refine g_scr he1 he2 (dk_La_law_28 7 rfl) c720.1 c720.2 ?_
      obtain ⟨c721, h⟩ := p_gdE h
      obtain ⟨r726, s722, q723, h⟩ := p_bdE h
      have t724 := tF_SW_reach K l v1 (t9 ((p_w (v3 + 1)) : Int).toNat) s0 _ q723
      refine g_callV (a := v1) (ci := 10) (q0 := (RX10, TX10, 9)) (As := [p_i (t9 ((p_w (v3 + 1)) : Int).toNat)]) (rest := []) [p_j r726] mt_SW_reach rfl rfl tw_5_228 tw_5_229 tw_5_227 ⟨Nat.le_of_ble_eq_true rfl, Nat.le_of_ble_eq_true rfl⟩ rfl (Nat.le_of_ble_eq_true rfl) (dk_La_law_28 8 rfl) rfl c721 rfl t724 ?_
      have hs725 : p_x s0 s722 := t724.1
      show p_Go K l m_La_law 1613 [(0, p_s 9), (1, p_r v1), (2, p_r v2), (3, p_i v3)] [p_j r726] s722 _
      refine g_aload_n (i := 2) (j := 2) (dk_La_law_28 9 rfl) rfl rfl ?_
      refine g_aload_nS (i := 0) (j := 0) (dk_La_law_28 10 rfl) rfl rfl ?_
      refine g_iload_n (i := 3) (j := 3) (dk_La_law_28 11 rfl) rfl rfl ?_
      refine g_iconst (dk_La_law_28 12 rfl) (by decide) ?_
      refine g_iadd (dk_La_law_28 13 rfl) ?_
      obtain ⟨c727, h⟩ := p_gdE h
      refine g_scr he1 he2 (dk_La_law_28 14 rfl) c727.1 c727.2 ?_
      obtain ⟨c728, h⟩ := p_gdE h
      obtain ⟨r733, s729, q730, h⟩ := p_bdE h
      have t731 := tF_Mo_reach K l v2 (t9 ((p_w (v3 + 1)) : Int).toNat) s722 _ q730
      refine g_callV (a := v2) (ci := 11) (q0 := (RX11, TX11, 90)) (As := [p_i (t9 ((p_w (v3 + 1)) : Int).toNat)]) (rest := [p_j r726]) [p_j r733, p_j r726] mt_Mo_reach rfl rfl tw_9_37 tw_9_38 tw_9_36 ⟨Nat.le_of_ble_eq_true rfl, Nat.le_of_ble_eq_true rfl⟩ rfl (Nat.le_of_ble_eq_true rfl) (dk_La_law_28 15 rfl) rfl c728 rfl t731 ?_
      have hs732 : p_x s722 s729 := t731.1
      show p_Go K l m_La_law 1622 [(0, p_s 9), (1, p_r v1), (2, p_r v2), (3, p_i v3)] [p_j r733, p_j r726] s729 _
      refine g_lcmp (dk_La_law_28 16 rfl) ?_
      refine g_if_eq 1701 (dk_La_law_28 17 rfl) (by decide) (fun b734 => ?_) (fun b734 => ?_)
      · have h := p_ifT b734 h
        exact tB_La_law_1701 K l n9 t9 he1 he2 k18 hk18 v1 v2 v3 s729 _ h
      · have h := p_ifF b734 h
        refine g_iconst (dk_La_law_28 18 rfl) (by decide) ?_
        cases h
        exact g_ret rfl rfl (dk_La_law_28 19 rfl) (fun _ => ⟨_, rfl, Or.inl rfl⟩)
    rcases p_iteE h with ⟨b735, h⟩ | ⟨b735, h⟩
    · refine g_tableIn 1628 (dk_La_law_0 21 rfl) (by omega) (by omega) (by rw [b735]; rfl) (by decide) ?_
      refine g_aload_n (i := 1) (j := 1) (dk_La_law_28 20 rfl) rfl rfl ?_
      refine g_aload_nS (i := 0) (j := 0) (dk_La_law_28 21 rfl) rfl rfl ?_
      refine g_iload_n (i := 3) (j := 3) (dk_La_law_28 22 rfl) rfl rfl ?_
      refine g_iconst (dk_La_law_28 23 rfl) (by decide) ?_
      refine g_iadd (dk_La_law_28 24 rfl) ?_
      obtain ⟨c736, h⟩ := p_gdE h
      refine g_scr he1 he2 (dk_La_law_28 25 rfl) c736.1 c736.2 ?_
      obtain ⟨c737, h⟩ := p_gdE h
      obtain ⟨r742, s738, q739, h⟩ := p_bdE h
      have t740 := tF_SW_ring K l v1 (t9 ((p_w (v3 + 1)) : Int).toNat) s0 _ q739
      refine g_callV (a := v1) (ci := 10) (q0 := (RX10, TX10, 9)) (As := [p_i (t9 ((p_w (v3 + 1)) : Int).toNat)]) (rest := []) [p_i r742] mt_SW_ring rfl rfl tw_5_234 tw_5_235 tw_5_233 ⟨Nat.le_of_ble_eq_true rfl, Nat.le_of_ble_eq_true rfl⟩ rfl (Nat.le_of_ble_eq_true rfl) (dk_La_law_28 26 rfl) rfl c737 rfl t740 ?_
      have hs741 : p_x s0 s738 := t740.1
      show p_Go K l m_La_law 1637 [(0, p_s 9), (1, p_r v1), (2, p_r v2), (3, p_i v3)] [p_i r742] s738 _
      refine g_aload_n (i := 2) (j := 2) (dk_La_law_28 27 rfl) rfl rfl ?_
      refine g_aload_nS (i := 0) (j := 0) (dk_La_law_28 28 rfl) rfl rfl ?_
      refine g_iload_n (i := 3) (j := 3) (dk_La_law_28 29 rfl) rfl rfl ?_
      refine g_iconst (dk_La_law_28 30 rfl) (by decide) ?_
      refine g_iadd (dk_La_law_28 31 rfl) ?_
      obtain ⟨c743, h⟩ := p_gdE h
      refine g_scr he1 he2 (dk_La_law_28 32 rfl) c743.1 c743.2 ?_
      obtain ⟨c744, h⟩ := p_gdE h
      obtain ⟨r749, s745, q746, h⟩ := p_bdE h
      have t747 := tF_Mo_ring K l v2 (t9 ((p_w (v3 + 1)) : Int).toNat) s738 _ q746
      refine g_callV (a := v2) (ci := 11) (q0 := (RX11, TX11, 90)) (As := [p_i (t9 ((p_w (v3 + 1)) : Int).toNat)]) (rest := [p_i r742]) [p_i r749, p_i r742] mt_Mo_ring rfl rfl tw_9_41 tw_9_42 tw_9_40 ⟨Nat.le_of_ble_eq_true rfl, Nat.le_of_ble_eq_true rfl⟩ rfl (Nat.le_of_ble_eq_true rfl) (dk_La_law_28 33 rfl) rfl c744 rfl t747 ?_
      have hs748 : p_x s738 s745 := t747.1
      show p_Go K l m_La_law 1646 [(0, p_s 9), (1, p_r v1), (2, p_r v2), (3, p_i v3)] [p_i r749, p_i r742] s745 _
      refine g_icmp_eq 1701 (dk_La_law_28 34 rfl) (by decide) (fun b750 => ?_) (fun b750 => ?_)
      · have h := p_ifT b750 h
        exact tB_La_law_1701 K l n9 t9 he1 he2 k18 hk18 v1 v2 v3 s745 _ h
      · have h := p_ifF b750 h
        refine g_iconst (dk_La_law_28 35 rfl) (by decide) ?_
        cases h
        exact g_ret rfl rfl (dk_La_law_28 36 rfl) (fun _ => ⟨_, rfl, Or.inl rfl⟩)
    rcases p_iteE h with ⟨b751, h⟩ | ⟨b751, h⟩
    · refine g_tableIn 1651 (dk_La_law_0 21 rfl) (by omega) (by omega) (by rw [b751]; rfl) (by decide) ?_
      refine g_aload_n (i := 1) (j := 1) (dk_La_law_28 37 rfl) rfl rfl ?_
      obtain ⟨c752, h⟩ := p_gdE h
      obtain ⟨r757, s753, q754, h⟩ := p_bdE h
      have t755 := tF_SW_audit K l v1 s0 _ q754
      refine g_callV (a := v1) (ci := 10) (q0 := (RX10, TX10, 9)) (As := []) (rest := []) [p_i r757] mt_SW_audit rfl rfl tw_5_238 tw_5_239 tw_5_237 ⟨Nat.le_of_ble_eq_true rfl, Nat.le_of_ble_eq_true rfl⟩ rfl (Nat.le_of_ble_eq_true rfl) (dk_La_law_28 38 rfl) rfl c752 rfl t755 ?_
      have hs756 : p_x s0 s753 := t755.1
      show p_Go K l m_La_law 1655 [(0, p_s 9), (1, p_r v1), (2, p_r v2), (3, p_i v3)] [p_i r757] s753 _
      refine g_aload_n (i := 2) (j := 2) (dk_La_law_28 39 rfl) rfl rfl ?_
      obtain ⟨c758, h⟩ := p_gdE h
      obtain ⟨r763, s759, q760, h⟩ := p_bdE h
      have t761 := tF_Mo_audit K l v2 s753 _ q760
      refine g_callV (a := v2) (ci := 11) (q0 := (RX11, TX11, 90)) (As := []) (rest := [p_i r757]) [p_i r763, p_i r757] mt_Mo_audit rfl rfl tw_9_45 tw_9_46 tw_9_44 ⟨Nat.le_of_ble_eq_true rfl, Nat.le_of_ble_eq_true rfl⟩ rfl (Nat.le_of_ble_eq_true rfl) (dk_La_law_29 0 rfl) rfl c758 rfl t761 ?_
      have hs762 : p_x s753 s759 := t761.1
      show p_Go K l m_La_law 1659 [(0, p_s 9), (1, p_r v1), (2, p_r v2), (3, p_i v3)] [p_i r763, p_i r757] s759 _
      refine g_icmp_eq 1701 (dk_La_law_29 1 rfl) (by decide) (fun b764 => ?_) (fun b764 => ?_)
      · have h := p_ifT b764 h
        exact tB_La_law_1701 K l n9 t9 he1 he2 k18 hk18 v1 v2 v3 s759 _ h
      · have h := p_ifF b764 h
        refine g_iconst (dk_La_law_29 2 rfl) (by decide) ?_
        cases h
        exact g_ret rfl rfl (dk_La_law_29 3 rfl) (fun _ => ⟨_, rfl, Or.inl rfl⟩)
    rcases p_iteE h with ⟨b765, h⟩ | ⟨b765, h⟩
    · refine g_tableIn 1664 (dk_La_law_0 21 rfl) (by omega) (by omega) (by rw [b765]; rfl) (by decide) ?_
      refine g_aload_n (i := 1) (j := 1) (dk_La_law_29 4 rfl) rfl rfl ?_
      refine g_aload_nS (i := 0) (j := 0) (dk_La_law_29 5 rfl) rfl rfl ?_
      refine g_iload_n (i := 3) (j := 3) (dk_La_law_29 6 rfl) rfl rfl ?_
      refine g_iconst (dk_La_law_29 7 rfl) (by decide) ?_
      refine g_iadd (dk_La_law_29 8 rfl) ?_
      obtain ⟨c766, h⟩ := p_gdE h
      refine g_scr he1 he2 (dk_La_law_29 9 rfl) c766.1 c766.2 ?_
      obtain ⟨c767, h⟩ := p_gdE h
      obtain ⟨r772, s768, q769, h⟩ := p_bdE h
      have t770 := tF_SW_count K l v1 (t9 ((p_w (v3 + 1)) : Int).toNat) s0 _ q769
      refine g_callV (a := v1) (ci := 10) (q0 := (RX10, TX10, 9)) (As := [p_i (t9 ((p_w (v3 + 1)) : Int).toNat)]) (rest := []) [p_i r772] mt_SW_count rfl rfl tw_6_2 tw_6_3 tw_6_1 ⟨Nat.le_of_ble_eq_true rfl, Nat.le_of_ble_eq_true rfl⟩ rfl (Nat.le_of_ble_eq_true rfl) (dk_La_law_29 10 rfl) rfl c767 rfl t770 ?_
      have hs771 : p_x s0 s768 := t770.1
      show p_Go K l m_La_law 1673 [(0, p_s 9), (1, p_r v1), (2, p_r v2), (3, p_i v3)] [p_i r772] s768 _
      refine g_aload_n (i := 2) (j := 2) (dk_La_law_29 11 rfl) rfl rfl ?_
      refine g_aload_nS (i := 0) (j := 0) (dk_La_law_29 12 rfl) rfl rfl ?_
      refine g_iload_n (i := 3) (j := 3) (dk_La_law_29 13 rfl) rfl rfl ?_
      refine g_iconst (dk_La_law_29 14 rfl) (by decide) ?_
      refine g_iadd (dk_La_law_29 15 rfl) ?_
      obtain ⟨c773, h⟩ := p_gdE h
      refine g_scr he1 he2 (dk_La_law_29 16 rfl) c773.1 c773.2 ?_
      obtain ⟨c774, h⟩ := p_gdE h
      obtain ⟨r779, s775, q776, h⟩ := p_bdE h
      have t777 := tF_Mo_count K l v2 (t9 ((p_w (v3 + 1)) : Int).toNat) s768 _ q776
      refine g_callV (a := v2) (ci := 11) (q0 := (RX11, TX11, 90)) (As := [p_i (t9 ((p_w (v3 + 1)) : Int).toNat)]) (rest := [p_i r772]) [p_i r779, p_i r772] mt_Mo_count rfl rfl tw_9_49 tw_9_50 tw_9_48 ⟨Nat.le_of_ble_eq_true rfl, Nat.le_of_ble_eq_true rfl⟩ rfl (Nat.le_of_ble_eq_true rfl) (dk_La_law_29 17 rfl) rfl c774 rfl t777 ?_
      have hs778 : p_x s768 s775 := t777.1
      show p_Go K l m_La_law 1682 [(0, p_s 9), (1, p_r v1), (2, p_r v2), (3, p_i v3)] [p_i r779, p_i r772] s775 _
      refine g_icmp_eq 1701 (dk_La_law_29 18 rfl) (by decide) (fun b780 => ?_) (fun b780 => ?_)
      · have h := p_ifT b780 h
        exact tB_La_law_1701 K l n9 t9 he1 he2 k18 hk18 v1 v2 v3 s775 _ h
      · have h := p_ifF b780 h
        refine g_iconst (dk_La_law_29 19 rfl) (by decide) ?_
        cases h
        exact g_ret rfl rfl (dk_La_law_29 20 rfl) (fun _ => ⟨_, rfl, Or.inl rfl⟩)
    rcases p_iteE h with ⟨b781, h⟩ | ⟨b781, h⟩
    · refine g_tableIn 1687 (dk_La_law_0 21 rfl) (by omega) (by omega) (by rw [b781]; rfl) (by decide) ?_
      refine g_aload_n (i := 1) (j := 1) (dk_La_law_29 21 rfl) rfl rfl ?_
      obtain ⟨c782, h⟩ := p_gdE h
      obtain ⟨r787, s783, q784, h⟩ := p_bdE h
      have t785 := tF_SW_digest K l v1 s0 _ q784
      refine g_callV (a := v1) (ci := 10) (q0 := (RX10, TX10, 9)) (As := []) (rest := []) [p_j r787] mt_SW_digest rfl rfl tw_6_6 tw_6_7 tw_6_5 ⟨Nat.le_of_ble_eq_true rfl, Nat.le_of_ble_eq_true rfl⟩ rfl (Nat.le_of_ble_eq_true rfl) (dk_La_law_29 22 rfl) rfl c782 rfl t785 ?_
      have hs786 : p_x s0 s783 := t785.1
      show p_Go K l m_La_law 1691 [(0, p_s 9), (1, p_r v1), (2, p_r v2), (3, p_i v3)] [p_j r787] s783 _
      refine g_aload_n (i := 2) (j := 2) (dk_La_law_29 23 rfl) rfl rfl ?_
      obtain ⟨c788, h⟩ := p_gdE h
      obtain ⟨r793, s789, q790, h⟩ := p_bdE h
      have t791 := tF_Mo_digest K l v2 s783 _ q790
      refine g_callV (a := v2) (ci := 11) (q0 := (RX11, TX11, 90)) (As := []) (rest := [p_j r787]) [p_j r793, p_j r787] mt_Mo_digest rfl rfl tw_9_53 tw_9_54 tw_9_52 ⟨Nat.le_of_ble_eq_true rfl, Nat.le_of_ble_eq_true rfl⟩ rfl (Nat.le_of_ble_eq_true rfl) (dk_La_law_29 24 rfl) rfl c788 rfl t791 ?_
      have hs792 : p_x s783 s789 := t791.1
      show p_Go K l m_La_law 1695 [(0, p_s 9), (1, p_r v1), (2, p_r v2), (3, p_i v3)] [p_j r793, p_j r787] s789 _
      refine g_lcmp (dk_La_law_29 25 rfl) ?_
      refine g_if_eq 1701 (dk_La_law_29 26 rfl) (by decide) (fun b794 => ?_) (fun b794 => ?_)
      · have h := p_ifT b794 h
        exact tB_La_law_1701 K l n9 t9 he1 he2 k18 hk18 v1 v2 v3 s789 _ h
      · have h := p_ifF b794 h
        refine g_iconst (dk_La_law_29 27 rfl) (by decide) ?_
        cases h
        exact g_ret rfl rfl (dk_La_law_29 28 rfl) (fun _ => ⟨_, rfl, Or.inl rfl⟩)
    refine g_tableOut 1701 (dk_La_law_0 21 rfl) (by omega) (by decide) ?_
    exact tB_La_law_1701 K l n9 t9 he1 he2 k18 hk18 v1 v2 v3 s0 _ h
set_option maxRecDepth 100000 in
set_option maxHeartbeats 4000000 in
theorem tO_La_law_18 (K : p_K) (l : Launch) (n9 : Nat) (t9 : Nat → Int) (he1 : n9 = p_tl K 9) (he2 : t9 = p_tv K 9)  : ∀ (n : Nat) (v1 : Nat) (v2 : Nat) (v3 : Int) (s0 : p_Hp) (r : (Int × p_Hp)), O_La_law_18 n9 t9 n v1 v2 v3 s0 = some r → p_Go K l m_La_law 18 [(0, p_s 9), (1, p_r v1), (2, p_r v2), (3, p_i v3)] [] s0 (some (p_i r.1), r.2) := by
  intro n
  induction n with
  | zero => intro v1 v2 v3 s0 r h; cases (show (none : Option (Int × p_Hp)) = some r from h)
  | succ n ih => intro v1 v2 v3 s0 r h; exact tL_La_law_18 K l n9 t9 he1 he2 _ ih v1 v2 v3 s0 r h
set_option maxRecDepth 100000 in
set_option maxHeartbeats 4000000 in
theorem tF_La_law (K : p_K) (l : Launch) (n9 : Nat) (t9 : Nat → Int) (he1 : n9 = p_tl K 9) (he2 : t9 = p_tv K 9) (s0 : p_Hp) (r : (Int × p_Hp)) (h : F_La_law n9 t9 s0 = some r) : p_Go K l m_La_law 0 [(0, p_s 9)] [] s0 (some (p_i r.1), r.2) := by
  unfold F_La_law at h
  refine g_new cl_10 tw_1_17 (dk_La_law_0 0 rfl) ?_
  refine p_ltS (P := fun q => p_Go K l m_La_law 3 [(0, p_s 9)] [p_r (p_N s0 + 1)] q _) (p_x_nw _ _ _) ?_ h
  intro s1 hs2 h
  refine g_dup (dk_La_law_0 1 rfl) rfl ?_
  obtain ⟨s3, q4, h⟩ := p_bvE h
  have t5 := tF_SW_init K l (p_N s0 + 1) s1 _ q4
  refine g_callI (a := (p_N s0 + 1)) (As := []) (rest := [p_r (p_N s0 + 1)]) [p_r (p_N s0 + 1)] mt_SW_init tw_1_20 tw_1_19 rfl rfl ⟨Nat.le_of_ble_eq_true rfl, Nat.le_of_ble_eq_true rfl⟩ rfl (Nat.le_of_ble_eq_true rfl) (dk_La_law_0 2 rfl) rfl (Nat.le_add_left _ _) rfl t5 ?_
  have hs6 : p_x s1 s3 := t5.1
  show p_Go K l m_La_law 7 [(0, p_s 9)] [p_r (p_N s0 + 1)] s3 _
  refine g_astore_n (i := 1) [(1, p_r (p_N s0 + 1)), (0, p_s 9)] (dk_La_law_0 3 rfl) rfl (by decide) rfl ?_
  refine p_ltG (P := fun q => p_Go K l m_La_law 8 [(1, p_r q), (0, p_s 9)] [] s3 _) ?_ h
  intro x7 h
  refine g_new cl_11 tw_6_18 (dk_La_law_0 4 rfl) ?_
  refine p_ltS (P := fun q => p_Go K l m_La_law 11 [(1, p_r x7), (0, p_s 9)] [p_r (p_N s3 + 1)] q _) (p_x_nw _ _ _) ?_ h
  intro s8 hs9 h
  refine g_dup (dk_La_law_0 5 rfl) rfl ?_
  obtain ⟨s10, q11, h⟩ := p_bvE h
  have t12 := tF_Mo_init K l (p_N s3 + 1) s8 _ q11
  refine g_callI (a := (p_N s3 + 1)) (As := []) (rest := [p_r (p_N s3 + 1)]) [p_r (p_N s3 + 1)] mt_Mo_init tw_6_21 tw_6_20 rfl rfl ⟨Nat.le_of_ble_eq_true rfl, Nat.le_of_ble_eq_true rfl⟩ rfl (Nat.le_of_ble_eq_true rfl) (dk_La_law_0 6 rfl) rfl (Nat.le_add_left _ _) rfl t12 ?_
  have hs13 : p_x s8 s10 := t12.1
  show p_Go K l m_La_law 15 [(1, p_r x7), (0, p_s 9)] [p_r (p_N s3 + 1)] s10 _
  refine g_astore_n (i := 2) [(2, p_r (p_N s3 + 1)), (1, p_r x7), (0, p_s 9)] (dk_La_law_0 7 rfl) rfl (by decide) rfl ?_
  refine p_ltG (P := fun q => p_Go K l m_La_law 16 [(2, p_r q), (1, p_r x7), (0, p_s 9)] [] s10 _) ?_ h
  intro x14 h
  refine g_iconst (dk_La_law_0 8 rfl) (by decide) ?_
  refine g_istore_n (i := 3) [(3, p_i 0), (2, p_r x14), (1, p_r x7), (0, p_s 9)] (dk_La_law_0 9 rfl) rfl (by decide) rfl ?_
  refine g_sub [(0, p_s 9), (1, p_r x7), (2, p_r x14), (3, p_i 0)] [3, 2, 1, 0] rfl ?_
  exact tO_La_law_18 K l n9 t9 he1 he2 3000 x7 x14 0 s10 _ h
