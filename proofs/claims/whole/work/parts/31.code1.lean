def m_SW_copy : p_Me := (⟨"SortWorks", "copy", "(I)I"⟩, prog_1_method_12_code, 2, (some .int), 4, 124)
theorem mt_SW_copy : p_Mt m_SW_copy 1 := ⟨p_mem (p_tb3 (List.mem_of_getElem? (i := 157) rfl)) rfl, tw_1_1, by decide +kernel, by decide +kernel, by decide +kernel⟩
def dt_SW_copy : List (Nat × Instr × Nat) := [(0, .iload_n 1, 1), (1, .ifCond .lt 8, 3), (4, .iload_n 1, 1), (5, .iconst 3, 1), (6, .if_icmp .lt 9, 3), (9, .aload_n 0, 1), (10, .iconst (-1), 1), (11, .invokevirtual 61, 3), (14, .ireturn, 1), (15, .aload_n 0, 1), (16, .getfield 18, 3), (19, .getfield 74, 3), (22, .ifCond .le 10, 3), (25, .aload_n 0, 1), (26, .bipush (-3), 2), (28, .invokevirtual 61, 3), (31, .ireturn, 1), (32, .aload_n 0, 1), (33, .getfield 18, 3), (36, .aload_n 0, 1), (37, .getfield 12, 3), (40, .iload_n 1, 1), (41, .aaload, 1), (42, .invokevirtual 142, 3), (45, .aload_n 0, 1), (46, .aload_n 0, 1), (47, .getfield 18, 3), (50, .getfield 74, 3), (53, .invokevirtual 95, 3), (56, .ireturn, 1)]
theorem dk_SW_copy (i : Nat) {pc : Nat} {ins : Instr} {len : Nat} (h : dt_SW_copy[i]? = some (pc, ins, len)) : decode m_SW_copy.2.1 pc = .ok (ins, len) := p_dk (b := m_SW_copy.2.1) (t := dt_SW_copy) (by decide +kernel) i h
def B_SW_copy_9  (v0 : Nat) (s0 : p_Hp) : Option (Int × p_Hp) :=
  p_gd (p_is s0 v0 10) <|
  p_bd (F_SW_refuse v0 (-1) s0) fun r6 s2 =>
  some (r6, s2)
def F_SW_copy (v0 : Nat) (v1 : Int) (s0 : p_Hp) : Option (Int × p_Hp) :=
  if v1 < 0 then
    B_SW_copy_9 v0 s0
  else
    if v1 < 3 then
      p_gd (p_is s0 v0 10) <|
      p_gd (p_is s0 (p_R s0 v0 1) 9) <|
      if (p_Z s0 (p_R s0 v0 1) 2) ≤ 0 then
        p_gd (p_is s0 (p_R s0 v0 0) 104) <|
        p_gd ((0 : Int) ≤ v1 ∧ v1 < (p_L s0 (p_R s0 v0 0) : Int)) <|
        p_bv (F_Works_buildLike (p_R s0 v0 1) (p_R s0 (p_R s0 v0 0) (v1 : Int).toNat) s0) fun s8 =>
        p_gd (p_is s8 (p_R s8 v0 1) 9) <|
        p_bd (F_SW_built v0 (p_Z s8 (p_R s8 v0 1) 2) s8) fun r17 s13 =>
        some (r17, s13)
      else
        p_bd (F_SW_refuse v0 (-3) s0) fun r22 s18 =>
        some (r22, s18)
    else
      B_SW_copy_9 v0 s0
set_option maxRecDepth 100000 in
set_option maxHeartbeats 4000000 in
theorem tB_SW_copy_9 (K : p_K) (l : Launch)  (v0 : Nat) (s0 : p_Hp) (r : (Int × p_Hp)) (h : B_SW_copy_9 v0 s0 = some r) : p_Go K l m_SW_copy 9 [(0, p_r v0)] [] s0 (some (p_i r.1), r.2) := by
  unfold B_SW_copy_9 at h
  refine g_aload_n (i := 0) (j := 0) (dk_SW_copy 5 rfl) rfl rfl ?_
  refine g_iconst (dk_SW_copy 6 rfl) (by decide) ?_
  obtain ⟨c1, h⟩ := p_gdE h
  obtain ⟨r6, s2, q3, h⟩ := p_bdE h
  have t4 := tF_SW_refuse K l v0 (-1) s0 _ q3
  refine g_callV (a := v0) (ci := 10) (q0 := (RX10, TX10, 9)) (As := [p_i (-1)]) (rest := []) [p_i r6] mt_SW_refuse rfl rfl tw_3_66 ts_0 tw_3_64 ⟨Nat.le_of_ble_eq_true rfl, Nat.le_of_ble_eq_true rfl⟩ rfl (Nat.le_of_ble_eq_true rfl) (dk_SW_copy 7 rfl) rfl c1 rfl t4 ?_
  have hs5 : p_x s0 s2 := t4.1
  show p_Go K l m_SW_copy 14 [(0, p_r v0)] [p_i r6] s2 _
  cases h
  exact g_ret rfl rfl (dk_SW_copy 8 rfl) (fun os => ⟨_, rfl, p_okh os⟩)
set_option maxRecDepth 100000 in
set_option maxHeartbeats 4000000 in
theorem tF_SW_copy (K : p_K) (l : Launch) (v0 : Nat) (v1 : Int) (s0 : p_Hp) (r : (Int × p_Hp)) (h : F_SW_copy v0 v1 s0 = some r) : p_Ct K l m_SW_copy [p_r v0, p_i v1] s0 (some (p_i r.1), r.2) := by
  refine p_Ct.of (by decide +kernel) (Nat.le_of_ble_eq_true rfl) ?_
  unfold F_SW_copy at h
  show p_Go K l m_SW_copy 0 [(0, p_r v0), (1, p_i v1)] [] s0 _
  refine g_iload_n (i := 1) (j := 1) (dk_SW_copy 0 rfl) rfl rfl ?_
  refine g_if_lt 9 (dk_SW_copy 1 rfl) (by decide) (fun b1 => ?_) (fun b1 => ?_)
  · have h := p_ifT b1 h
    refine g_sub [(0, p_r v0)] [0] rfl ?_
    exact tB_SW_copy_9 K l v0 s0 _ h
  · have h := p_ifF b1 h
    refine g_iload_n (i := 1) (j := 1) (dk_SW_copy 2 rfl) rfl rfl ?_
    refine g_iconst (dk_SW_copy 3 rfl) (by decide) ?_
    refine g_icmp_lt 15 (dk_SW_copy 4 rfl) (by decide) (fun b2 => ?_) (fun b2 => ?_)
    · have h := p_ifT b2 h
      refine g_aload_n (i := 0) (j := 0) (dk_SW_copy 9 rfl) rfl rfl ?_
      obtain ⟨c3, h⟩ := p_gdE h
      refine g_getR fl_SW_18 (Or.inl ⟨_, rfl⟩) (dk_SW_copy 10 rfl) c3 ?_
      obtain ⟨c4, h⟩ := p_gdE h
      refine g_getI fl_SW_74 (Or.inl rfl) (dk_SW_copy 11 rfl) c4 ?_
      refine g_if_le 32 (dk_SW_copy 12 rfl) (by decide) (fun b5 => ?_) (fun b5 => ?_)
      · have h := p_ifT b5 h
        refine g_aload_n (i := 0) (j := 0) (dk_SW_copy 17 rfl) rfl rfl ?_
        refine g_getR fl_SW_18 (Or.inl ⟨_, rfl⟩) (dk_SW_copy 18 rfl) c3 ?_
        refine g_aload_n (i := 0) (j := 0) (dk_SW_copy 19 rfl) rfl rfl ?_
        refine g_getR fl_SW_12 (Or.inr ⟨_, rfl⟩) (dk_SW_copy 20 rfl) c3 ?_
        refine g_iload_n (i := 1) (j := 1) (dk_SW_copy 21 rfl) rfl rfl ?_
        obtain ⟨c6, h⟩ := p_gdE h
        obtain ⟨c7, h⟩ := p_gdE h
        refine g_aaload (i := 4) rfl (Or.inl ⟨_, rfl⟩) (dk_SW_copy 22 rfl) c6 c7.1 c7.2 ?_
        obtain ⟨s8, q9, h⟩ := p_bvE h
        have t10 := tF_Works_buildLike K l (p_R s0 v0 1) (p_R s0 (p_R s0 v0 0) (v1 : Int).toNat) s0 _ q9
        refine g_callV (a := (p_R s0 v0 1)) (ci := 9) (q0 := (RX9, TX9, 15)) (As := [p_r (p_R s0 (p_R s0 v0 0) (v1 : Int).toNat)]) (rest := []) [] mt_Works_buildLike rfl rfl tw_3_159 tw_3_160 tw_3_158 ⟨Nat.le_of_ble_eq_true rfl, Nat.le_of_ble_eq_true rfl⟩ rfl (Nat.le_of_ble_eq_true rfl) (dk_SW_copy 23 rfl) rfl c4 rfl t10 ?_
        have hs11 : p_x s0 s8 := t10.1
        show p_Go K l m_SW_copy 45 [(0, p_r v0), (1, p_i v1)] [] s8 _
        refine g_aload_n (i := 0) (j := 0) (dk_SW_copy 24 rfl) rfl rfl ?_
        refine g_aload_n (i := 0) (j := 0) (dk_SW_copy 25 rfl) rfl rfl ?_
        refine g_getR fl_SW_18 (Or.inl ⟨_, rfl⟩) (dk_SW_copy 26 rfl) (c3.up hs11) ?_
        obtain ⟨c12, h⟩ := p_gdE h
        refine g_getI fl_SW_74 (Or.inl rfl) (dk_SW_copy 27 rfl) c12 ?_
        obtain ⟨r17, s13, q14, h⟩ := p_bdE h
        have t15 := tF_SW_built K l v0 (p_Z s8 (p_R s8 v0 1) 2) s8 _ q14
        refine g_callV (a := v0) (ci := 10) (q0 := (RX10, TX10, 9)) (As := [p_i (p_Z s8 (p_R s8 v0 1) 2)]) (rest := []) [p_i r17] mt_SW_built rfl rfl tw_3_93 ts_2 tw_3_91 ⟨Nat.le_of_ble_eq_true rfl, Nat.le_of_ble_eq_true rfl⟩ rfl (Nat.le_of_ble_eq_true rfl) (dk_SW_copy 28 rfl) rfl (c3.up hs11) rfl t15 ?_
        have hs16 : p_x s8 s13 := t15.1
        show p_Go K l m_SW_copy 56 [(0, p_r v0), (1, p_i v1)] [p_i r17] s13 _
        cases h
        exact g_ret rfl rfl (dk_SW_copy 29 rfl) (fun os => ⟨_, rfl, p_okh os⟩)
      · have h := p_ifF b5 h
        refine g_aload_n (i := 0) (j := 0) (dk_SW_copy 13 rfl) rfl rfl ?_
        refine g_bipush (dk_SW_copy 14 rfl) (by decide +kernel) (by decide) ?_
        obtain ⟨r22, s18, q19, h⟩ := p_bdE h
        have t20 := tF_SW_refuse K l v0 (-3) s0 _ q19
        refine g_callV (a := v0) (ci := 10) (q0 := (RX10, TX10, 9)) (As := [p_i (-3)]) (rest := []) [p_i r22] mt_SW_refuse rfl rfl tw_3_66 ts_0 tw_3_64 ⟨Nat.le_of_ble_eq_true rfl, Nat.le_of_ble_eq_true rfl⟩ rfl (Nat.le_of_ble_eq_true rfl) (dk_SW_copy 15 rfl) rfl c3 rfl t20 ?_
        have hs21 : p_x s0 s18 := t20.1
        show p_Go K l m_SW_copy 31 [(0, p_r v0), (1, p_i v1)] [p_i r22] s18 _
        cases h
        exact g_ret rfl rfl (dk_SW_copy 16 rfl) (fun os => ⟨_, rfl, p_okh os⟩)
    · have h := p_ifF b2 h
      refine g_sub [(0, p_r v0)] [0] rfl ?_
      exact tB_SW_copy_9 K l v0 s0 _ h
def m_SW_letter : p_Me := (⟨"SortWorks", "letter", "(I)I"⟩, prog_1_method_13_code, 2, (some .int), 1, 21)
theorem mt_SW_letter : p_Mt m_SW_letter 1 := ⟨p_mem (p_tb3 (List.mem_of_getElem? (i := 184) rfl)) rfl, tw_1_1, by decide +kernel, by decide +kernel, by decide +kernel⟩
def dt_SW_letter : List (Nat × Instr × Nat) := [(0, .iload_n 1, 1), (1, .bipush 33, 2), (3, .if_icmp .lt 9, 3), (6, .iload_n 1, 1), (7, .bipush 126, 2), (9, .if_icmp .le 10, 3), (12, .aload_n 0, 1), (13, .bipush (-2), 2), (15, .invokevirtual 61, 3), (18, .ireturn, 1), (19, .aload_n 0, 1), (20, .getfield 146, 3), (23, .sipush 200, 3), (26, .if_icmp .lt 10, 3), (29, .aload_n 0, 1), (30, .bipush (-4), 2), (32, .invokevirtual 61, 3), (35, .ireturn, 1), (36, .aload_n 0, 1), (37, .getfield 43, 3), (40, .aload_n 0, 1), (41, .getfield 146, 3), (44, .iload_n 1, 1), (45, .iastore, 1), (46, .aload_n 0, 1), (47, .dup, 1), (48, .getfield 146, 3), (51, .iconst 1, 1), (52, .iadd, 1), (53, .putfield 146, 3), (56, .aload_n 0, 1), (57, .aload_n 0, 1), (58, .getfield 146, 3), (61, .invokevirtual 57, 3), (64, .ireturn, 1)]
theorem dk_SW_letter (i : Nat) {pc : Nat} {ins : Instr} {len : Nat} (h : dt_SW_letter[i]? = some (pc, ins, len)) : decode m_SW_letter.2.1 pc = .ok (ins, len) := p_dk (b := m_SW_letter.2.1) (t := dt_SW_letter) (by decide +kernel) i h
def B_SW_letter_12  (v0 : Nat) (s0 : p_Hp) : Option (Int × p_Hp) :=
  p_gd (p_is s0 v0 10) <|
  p_bd (F_SW_refuse v0 (-2) s0) fun r6 s2 =>
  some (r6, s2)
def F_SW_letter (v0 : Nat) (v1 : Int) (s0 : p_Hp) : Option (Int × p_Hp) :=
  if v1 < 33 then
    B_SW_letter_12 v0 s0
  else
    if v1 ≤ 126 then
      p_gd (p_is s0 v0 10) <|
      if (p_Z s0 v0 6) < 200 then
        p_gd (p_is s0 (p_R s0 v0 5) 100) <|
        p_gd ((0 : Int) ≤ (p_Z s0 v0 6) ∧ (p_Z s0 v0 6) < (p_L s0 (p_R s0 v0 5) : Int)) <|
        p_bi (p_wZ s0 (p_R s0 v0 5) ((p_Z s0 v0 6) : Int).toNat v1) fun s7 =>
        p_bi (p_wZ s7 v0 6 (p_w ((p_Z s7 v0 6) + 1))) fun s9 =>
        p_bd (F_SW_done v0 (p_Z s9 v0 6) s9) fun r15 s11 =>
        some (r15, s11)
      else
        p_bd (F_SW_refuse v0 (-4) s0) fun r20 s16 =>
        some (r20, s16)
    else
      B_SW_letter_12 v0 s0
set_option maxRecDepth 100000 in
set_option maxHeartbeats 4000000 in
theorem tB_SW_letter_12 (K : p_K) (l : Launch)  (v0 : Nat) (s0 : p_Hp) (r : (Int × p_Hp)) (h : B_SW_letter_12 v0 s0 = some r) : p_Go K l m_SW_letter 12 [(0, p_r v0)] [] s0 (some (p_i r.1), r.2) := by
  unfold B_SW_letter_12 at h
  refine g_aload_n (i := 0) (j := 0) (dk_SW_letter 6 rfl) rfl rfl ?_
  refine g_bipush (dk_SW_letter 7 rfl) (by decide +kernel) (by decide) ?_
  obtain ⟨c1, h⟩ := p_gdE h
  obtain ⟨r6, s2, q3, h⟩ := p_bdE h
  have t4 := tF_SW_refuse K l v0 (-2) s0 _ q3
  refine g_callV (a := v0) (ci := 10) (q0 := (RX10, TX10, 9)) (As := [p_i (-2)]) (rest := []) [p_i r6] mt_SW_refuse rfl rfl tw_3_66 ts_0 tw_3_64 ⟨Nat.le_of_ble_eq_true rfl, Nat.le_of_ble_eq_true rfl⟩ rfl (Nat.le_of_ble_eq_true rfl) (dk_SW_letter 8 rfl) rfl c1 rfl t4 ?_
  have hs5 : p_x s0 s2 := t4.1
  show p_Go K l m_SW_letter 18 [(0, p_r v0)] [p_i r6] s2 _
  cases h
  exact g_ret rfl rfl (dk_SW_letter 9 rfl) (fun os => ⟨_, rfl, p_okh os⟩)
set_option maxRecDepth 100000 in
set_option maxHeartbeats 4000000 in
theorem tF_SW_letter (K : p_K) (l : Launch) (v0 : Nat) (v1 : Int) (s0 : p_Hp) (r : (Int × p_Hp)) (h : F_SW_letter v0 v1 s0 = some r) : p_Ct K l m_SW_letter [p_r v0, p_i v1] s0 (some (p_i r.1), r.2) := by
  refine p_Ct.of (by decide +kernel) (Nat.le_of_ble_eq_true rfl) ?_
  unfold F_SW_letter at h
  show p_Go K l m_SW_letter 0 [(0, p_r v0), (1, p_i v1)] [] s0 _
  refine g_iload_n (i := 1) (j := 1) (dk_SW_letter 0 rfl) rfl rfl ?_
  refine g_bipush (dk_SW_letter 1 rfl) (by decide +kernel) (by decide) ?_
  refine g_icmp_lt 12 (dk_SW_letter 2 rfl) (by decide) (fun b1 => ?_) (fun b1 => ?_)
  · have h := p_ifT b1 h
    refine g_sub [(0, p_r v0)] [0] rfl ?_
    exact tB_SW_letter_12 K l v0 s0 _ h
  · have h := p_ifF b1 h
    refine g_iload_n (i := 1) (j := 1) (dk_SW_letter 3 rfl) rfl rfl ?_
    refine g_bipush (dk_SW_letter 4 rfl) (by decide +kernel) (by decide) ?_
    refine g_icmp_le 19 (dk_SW_letter 5 rfl) (by decide) (fun b2 => ?_) (fun b2 => ?_)
    · have h := p_ifT b2 h
      refine g_aload_n (i := 0) (j := 0) (dk_SW_letter 10 rfl) rfl rfl ?_
      obtain ⟨c3, h⟩ := p_gdE h
      refine g_getI fl_SW_146 (Or.inl rfl) (dk_SW_letter 11 rfl) c3 ?_
      refine g_sipush (dk_SW_letter 12 rfl) (by decide +kernel) (by decide) ?_
      refine g_icmp_lt 36 (dk_SW_letter 13 rfl) (by decide) (fun b4 => ?_) (fun b4 => ?_)
      · have h := p_ifT b4 h
        refine g_aload_n (i := 0) (j := 0) (dk_SW_letter 18 rfl) rfl rfl ?_
        refine g_getR fl_SW_43 (Or.inr ⟨_, rfl⟩) (dk_SW_letter 19 rfl) c3 ?_
        refine g_aload_n (i := 0) (j := 0) (dk_SW_letter 20 rfl) rfl rfl ?_
        refine g_getI fl_SW_146 (Or.inl rfl) (dk_SW_letter 21 rfl) c3 ?_
        refine g_iload_n (i := 1) (j := 1) (dk_SW_letter 22 rfl) rfl rfl ?_
        obtain ⟨c5, h⟩ := p_gdE h
        obtain ⟨c6, h⟩ := p_gdE h
        refine g_iastore (dk_SW_letter 23 rfl) c5 c6.1 c6.2 ?_
        refine p_ltS (P := fun q => p_Go K l m_SW_letter 46 [(0, p_r v0), (1, p_i v1)] [] q _) (p_xZ _ _ _ _) ?_ h
        intro s7 hs8 h
        refine g_aload_n (i := 0) (j := 0) (dk_SW_letter 24 rfl) rfl rfl ?_
        refine g_dup (dk_SW_letter 25 rfl) rfl ?_
        refine g_getI fl_SW_146 (Or.inl rfl) (dk_SW_letter 26 rfl) (c3.up hs8) ?_
        refine g_iconst (dk_SW_letter 27 rfl) (by decide) ?_
        refine g_iadd (dk_SW_letter 28 rfl) ?_
        refine g_putI fl_SW_146 (Or.inl rfl) (dk_SW_letter 29 rfl) (c3.up hs8) ?_
        refine p_ltS (P := fun q => p_Go K l m_SW_letter 56 [(0, p_r v0), (1, p_i v1)] [] q _) (p_xZ _ _ _ _) ?_ h
        intro s9 hs10 h
        refine g_aload_n (i := 0) (j := 0) (dk_SW_letter 30 rfl) rfl rfl ?_
        refine g_aload_n (i := 0) (j := 0) (dk_SW_letter 31 rfl) rfl rfl ?_
        refine g_getI fl_SW_146 (Or.inl rfl) (dk_SW_letter 32 rfl) (c3.up (hs8.trans hs10)) ?_
        obtain ⟨r15, s11, q12, h⟩ := p_bdE h
        have t13 := tF_SW_done K l v0 (p_Z s9 v0 6) s9 _ q12
        refine g_callV (a := v0) (ci := 10) (q0 := (RX10, TX10, 9)) (As := [p_i (p_Z s9 v0 6)]) (rest := []) [p_i r15] mt_SW_done rfl rfl tw_3_70 ts_1 tw_3_68 ⟨Nat.le_of_ble_eq_true rfl, Nat.le_of_ble_eq_true rfl⟩ rfl (Nat.le_of_ble_eq_true rfl) (dk_SW_letter 33 rfl) rfl (c3.up (hs8.trans hs10)) rfl t13 ?_
        have hs14 : p_x s9 s11 := t13.1
        show p_Go K l m_SW_letter 64 [(0, p_r v0), (1, p_i v1)] [p_i r15] s11 _
        cases h
        exact g_ret rfl rfl (dk_SW_letter 34 rfl) (fun os => ⟨_, rfl, p_okh os⟩)
      · have h := p_ifF b4 h
        refine g_aload_n (i := 0) (j := 0) (dk_SW_letter 14 rfl) rfl rfl ?_
        refine g_bipush (dk_SW_letter 15 rfl) (by decide +kernel) (by decide) ?_
        obtain ⟨r20, s16, q17, h⟩ := p_bdE h
        have t18 := tF_SW_refuse K l v0 (-4) s0 _ q17
        refine g_callV (a := v0) (ci := 10) (q0 := (RX10, TX10, 9)) (As := [p_i (-4)]) (rest := []) [p_i r20] mt_SW_refuse rfl rfl tw_3_66 ts_0 tw_3_64 ⟨Nat.le_of_ble_eq_true rfl, Nat.le_of_ble_eq_true rfl⟩ rfl (Nat.le_of_ble_eq_true rfl) (dk_SW_letter 16 rfl) rfl c3 rfl t18 ?_
        have hs19 : p_x s0 s16 := t18.1
        show p_Go K l m_SW_letter 35 [(0, p_r v0), (1, p_i v1)] [p_i r20] s16 _
        cases h
        exact g_ret rfl rfl (dk_SW_letter 17 rfl) (fun os => ⟨_, rfl, p_okh os⟩)
    · have h := p_ifF b2 h
      refine g_sub [(0, p_r v0)] [0] rfl ?_
      exact tB_SW_letter_12 K l v0 s0 _ h
def m_Judge_next : p_Me := (⟨"SortWorks$Judge", "next", "()I"⟩, prog_3_method_8_code, 1, (some .int), 0, 0)
theorem mt_Judge_next : p_Mt m_Judge_next 0 := ⟨p_mem (p_tb3 (List.mem_of_getElem? (i := 200) rfl)) rfl, tw_1_11, by decide +kernel, by decide +kernel, by decide +kernel⟩
def dt_Judge_next : List (Nat × Instr × Nat) := [(0, .aload_n 0, 1), (1, .getfield 26, 3), (4, .aload_n 0, 1), (5, .getfield 22, 3), (8, .if_icmp .ge 15, 3), (11, .aload_n 0, 1), (12, .getfield 18, 3), (15, .aload_n 0, 1), (16, .getfield 26, 3), (19, .iaload, 1), (20, .goto 4, 3), (23, .iconst (-1), 1), (24, .ireturn, 1)]
theorem dk_Judge_next (i : Nat) {pc : Nat} {ins : Instr} {len : Nat} (h : dt_Judge_next[i]? = some (pc, ins, len)) : decode m_Judge_next.2.1 pc = .ok (ins, len) := p_dk (b := m_Judge_next.2.1) (t := dt_Judge_next) (by decide +kernel) i h
def F_Judge_next (v0 : Nat) (s0 : p_Hp) : Option (Int × p_Hp) :=
  p_gd (p_is s0 v0 1) <|
  if (p_Z s0 v0 2) ≤ (p_Z s0 v0 3) then
    some ((-1), s0)
  else
    p_gd (p_is s0 (p_R s0 v0 1) 100) <|
    p_gd ((0 : Int) ≤ (p_Z s0 v0 3) ∧ (p_Z s0 v0 3) < (p_L s0 (p_R s0 v0 1) : Int)) <|
    some ((p_Z s0 (p_R s0 v0 1) ((p_Z s0 v0 3) : Int).toNat), s0)
set_option maxRecDepth 100000 in
set_option maxHeartbeats 4000000 in
theorem tF_Judge_next (K : p_K) (l : Launch) (v0 : Nat) (s0 : p_Hp) (r : (Int × p_Hp)) (h : F_Judge_next v0 s0 = some r) : p_Ct K l m_Judge_next [p_r v0] s0 (some (p_i r.1), r.2) := by
  refine p_Ct.of (by decide +kernel) (Nat.le_of_ble_eq_true rfl) ?_
  unfold F_Judge_next at h
  show p_Go K l m_Judge_next 0 [(0, p_r v0)] [] s0 _
  refine g_aload_n (i := 0) (j := 0) (dk_Judge_next 0 rfl) rfl rfl ?_
  obtain ⟨c1, h⟩ := p_gdE h
  refine g_getI fl_Judge_26 (Or.inl rfl) (dk_Judge_next 1 rfl) c1 ?_
  refine g_aload_n (i := 0) (j := 0) (dk_Judge_next 2 rfl) rfl rfl ?_
  refine g_getI fl_Judge_22 (Or.inl rfl) (dk_Judge_next 3 rfl) c1 ?_
  refine g_icmp_ge 23 (dk_Judge_next 4 rfl) (by decide) (fun b2 => ?_) (fun b2 => ?_)
  · have h := p_ifT b2 h
    refine g_iconst (dk_Judge_next 11 rfl) (by decide) ?_
    cases h
    exact g_ret rfl rfl (dk_Judge_next 12 rfl) (fun os => ⟨_, rfl, p_okh os⟩)
  · have h := p_ifF b2 h
    refine g_aload_n (i := 0) (j := 0) (dk_Judge_next 5 rfl) rfl rfl ?_
    refine g_getR fl_Judge_18 (Or.inr ⟨_, rfl⟩) (dk_Judge_next 6 rfl) c1 ?_
    refine g_aload_n (i := 0) (j := 0) (dk_Judge_next 7 rfl) rfl rfl ?_
    refine g_getI fl_Judge_26 (Or.inl rfl) (dk_Judge_next 8 rfl) c1 ?_
    obtain ⟨c3, h⟩ := p_gdE h
    obtain ⟨c4, h⟩ := p_gdE h
    refine g_iaload (dk_Judge_next 9 rfl) c3 c4.1 c4.2 ?_
    refine g_goto 24 (dk_Judge_next 10 rfl) (by decide) ?_
    cases h
    exact g_ret rfl rfl (dk_Judge_next 12 rfl) (fun os => ⟨_, rfl, p_okh os⟩)
def m_Judge_take : p_Me := (⟨"SortWorks$Judge", "take", "(I)Z"⟩, prog_3_method_9_code, 2, (some .boolean), 0, 0)
theorem mt_Judge_take : p_Mt m_Judge_take 1 := ⟨p_mem (p_tb3 (List.mem_of_getElem? (i := 212) rfl)) rfl, tw_1_11, by decide +kernel, by decide +kernel, by decide +kernel⟩
def dt_Judge_take : List (Nat × Instr × Nat) := [(0, .aload_n 0, 1), (1, .getfield 26, 3), (4, .aload_n 0, 1), (5, .getfield 22, 3), (8, .if_icmp .ge 16, 3), (11, .aload_n 0, 1), (12, .getfield 18, 3), (15, .aload_n 0, 1), (16, .getfield 26, 3), (19, .iaload, 1), (20, .iload_n 1, 1), (21, .if_icmp .eq 5, 3), (24, .iconst 0, 1), (25, .ireturn, 1), (26, .aload_n 0, 1), (27, .getfield 12, 3), (30, .getfield 76, 3), (33, .aload_n 0, 1), (34, .getfield 12, 3), (37, .getfield 29, 3), (40, .iload_n 1, 1), (41, .iastore, 1), (42, .aload_n 0, 1), (43, .getfield 12, 3), (46, .dup, 1), (47, .getfield 29, 3), (50, .iconst 1, 1), (51, .iadd, 1), (52, .putfield 29, 3), (55, .aload_n 0, 1), (56, .dup, 1), (57, .getfield 26, 3), (60, .iconst 1, 1), (61, .iadd, 1), (62, .putfield 26, 3), (65, .iconst 1, 1), (66, .ireturn, 1)]
theorem dk_Judge_take (i : Nat) {pc : Nat} {ins : Instr} {len : Nat} (h : dt_Judge_take[i]? = some (pc, ins, len)) : decode m_Judge_take.2.1 pc = .ok (ins, len) := p_dk (b := m_Judge_take.2.1) (t := dt_Judge_take) (by decide +kernel) i h
def F_Judge_take (v0 : Nat) (v1 : Int) (s0 : p_Hp) : Option (Int × p_Hp) :=
  p_gd (p_is s0 v0 1) <|
  if (p_Z s0 v0 2) ≤ (p_Z s0 v0 3) then
    some (0, s0)
  else
    p_gd (p_is s0 (p_R s0 v0 1) 100) <|
    p_gd ((0 : Int) ≤ (p_Z s0 v0 3) ∧ (p_Z s0 v0 3) < (p_L s0 (p_R s0 v0 1) : Int)) <|
    if (p_Z s0 (p_R s0 v0 1) ((p_Z s0 v0 3) : Int).toNat) = v1 then
      p_gd (p_is s0 (p_R s0 v0 0) 6) <|
      p_gd (p_is s0 (p_R s0 (p_R s0 v0 0) 7) 100) <|
      p_gd ((0 : Int) ≤ (p_Z s0 (p_R s0 v0 0) 8) ∧ (p_Z s0 (p_R s0 v0 0) 8) < (p_L s0 (p_R s0 (p_R s0 v0 0) 7) : Int)) <|
      p_bi (p_wZ s0 (p_R s0 (p_R s0 v0 0) 7) ((p_Z s0 (p_R s0 v0 0) 8) : Int).toNat v1) fun s9 =>
      p_gd (p_is s9 (p_R s9 v0 0) 6) <|
      p_bi (p_wZ s9 (p_R s9 v0 0) 8 (p_w ((p_Z s9 (p_R s9 v0 0) 8) + 1))) fun s12 =>
      p_bi (p_wZ s12 v0 3 (p_w ((p_Z s12 v0 3) + 1))) fun s14 =>
      some (1, s14)
    else
      some (0, s0)
set_option maxRecDepth 100000 in
set_option maxHeartbeats 4000000 in
theorem tF_Judge_take (K : p_K) (l : Launch) (v0 : Nat) (v1 : Int) (s0 : p_Hp) (r : (Int × p_Hp)) (h : F_Judge_take v0 v1 s0 = some r) : p_Ct K l m_Judge_take [p_r v0, p_i v1] s0 (some (p_i r.1), r.2) := by
  refine p_Ct.of (by decide +kernel) (Nat.le_of_ble_eq_true rfl) ?_
  unfold F_Judge_take at h
  show p_Go K l m_Judge_take 0 [(0, p_r v0), (1, p_i v1)] [] s0 _
  refine g_aload_n (i := 0) (j := 0) (dk_Judge_take 0 rfl) rfl rfl ?_
  obtain ⟨c1, h⟩ := p_gdE h
  refine g_getI fl_Judge_26 (Or.inl rfl) (dk_Judge_take 1 rfl) c1 ?_
  refine g_aload_n (i := 0) (j := 0) (dk_Judge_take 2 rfl) rfl rfl ?_
  refine g_getI fl_Judge_22 (Or.inl rfl) (dk_Judge_take 3 rfl) c1 ?_
  refine g_icmp_ge 24 (dk_Judge_take 4 rfl) (by decide) (fun b2 => ?_) (fun b2 => ?_)
  · have h := p_ifT b2 h
    refine g_iconst (dk_Judge_take 12 rfl) (by decide) ?_
    cases h
    exact g_ret rfl rfl (dk_Judge_take 13 rfl) (fun _ => ⟨_, rfl, Or.inl rfl⟩)
  · have h := p_ifF b2 h
    refine g_aload_n (i := 0) (j := 0) (dk_Judge_take 5 rfl) rfl rfl ?_
    refine g_getR fl_Judge_18 (Or.inr ⟨_, rfl⟩) (dk_Judge_take 6 rfl) c1 ?_
    refine g_aload_n (i := 0) (j := 0) (dk_Judge_take 7 rfl) rfl rfl ?_
    refine g_getI fl_Judge_26 (Or.inl rfl) (dk_Judge_take 8 rfl) c1 ?_
    obtain ⟨c3, h⟩ := p_gdE h
    obtain ⟨c4, h⟩ := p_gdE h
    refine g_iaload (dk_Judge_take 9 rfl) c3 c4.1 c4.2 ?_
    refine g_iload_n (i := 1) (j := 1) (dk_Judge_take 10 rfl) rfl rfl ?_
    refine g_icmp_eq 26 (dk_Judge_take 11 rfl) (by decide) (fun b5 => ?_) (fun b5 => ?_)
    · have h := p_ifT b5 h
      refine g_aload_n (i := 0) (j := 0) (dk_Judge_take 14 rfl) rfl rfl ?_
      refine g_getR fl_Judge_12 (Or.inl ⟨_, rfl⟩) (dk_Judge_take 15 rfl) c1 ?_
      obtain ⟨c6, h⟩ := p_gdE h
      refine g_getR fl_Judge_76 (Or.inr ⟨_, rfl⟩) (dk_Judge_take 16 rfl) c6 ?_
      refine g_aload_n (i := 0) (j := 0) (dk_Judge_take 17 rfl) rfl rfl ?_
      refine g_getR fl_Judge_12 (Or.inl ⟨_, rfl⟩) (dk_Judge_take 18 rfl) c1 ?_
      refine g_getI fl_Judge_29 (Or.inl rfl) (dk_Judge_take 19 rfl) c6 ?_
      refine g_iload_n (i := 1) (j := 1) (dk_Judge_take 20 rfl) rfl rfl ?_
      obtain ⟨c7, h⟩ := p_gdE h
      obtain ⟨c8, h⟩ := p_gdE h
      refine g_iastore (dk_Judge_take 21 rfl) c7 c8.1 c8.2 ?_
      refine p_ltS (P := fun q => p_Go K l m_Judge_take 42 [(0, p_r v0), (1, p_i v1)] [] q _) (p_xZ _ _ _ _) ?_ h
      intro s9 hs10 h
      refine g_aload_n (i := 0) (j := 0) (dk_Judge_take 22 rfl) rfl rfl ?_
      refine g_getR fl_Judge_12 (Or.inl ⟨_, rfl⟩) (dk_Judge_take 23 rfl) (c1.up hs10) ?_
      refine g_dup (dk_Judge_take 24 rfl) rfl ?_
      obtain ⟨c11, h⟩ := p_gdE h
      refine g_getI fl_Judge_29 (Or.inl rfl) (dk_Judge_take 25 rfl) c11 ?_
      refine g_iconst (dk_Judge_take 26 rfl) (by decide) ?_
      refine g_iadd (dk_Judge_take 27 rfl) ?_
      refine g_putI fl_Judge_29 (Or.inl rfl) (dk_Judge_take 28 rfl) c11 ?_
      refine p_ltS (P := fun q => p_Go K l m_Judge_take 55 [(0, p_r v0), (1, p_i v1)] [] q _) (p_xZ _ _ _ _) ?_ h
      intro s12 hs13 h
      refine g_aload_n (i := 0) (j := 0) (dk_Judge_take 29 rfl) rfl rfl ?_
      refine g_dup (dk_Judge_take 30 rfl) rfl ?_
      refine g_getI fl_Judge_26 (Or.inl rfl) (dk_Judge_take 31 rfl) (c1.up (hs10.trans hs13)) ?_
      refine g_iconst (dk_Judge_take 32 rfl) (by decide) ?_
      refine g_iadd (dk_Judge_take 33 rfl) ?_
      refine g_putI fl_Judge_26 (Or.inl rfl) (dk_Judge_take 34 rfl) (c1.up (hs10.trans hs13)) ?_
      refine p_ltS (P := fun q => p_Go K l m_Judge_take 65 [(0, p_r v0), (1, p_i v1)] [] q _) (p_xZ _ _ _ _) ?_ h
      intro s14 hs15 h
      refine g_iconst (dk_Judge_take 35 rfl) (by decide) ?_
      cases h
      exact g_ret rfl rfl (dk_Judge_take 36 rfl) (fun _ => ⟨_, rfl, Or.inr rfl⟩)
    · have h := p_ifF b5 h
      refine g_iconst (dk_Judge_take 12 rfl) (by decide) ?_
      cases h
      exact g_ret rfl rfl (dk_Judge_take 13 rfl) (fun _ => ⟨_, rfl, Or.inl rfl⟩)
def m_Judge_takeNumber : p_Me := (⟨"SortWorks$Judge", "takeNumber", "()I"⟩, prog_3_method_7_code, 4, (some .int), 1, 21)
theorem mt_Judge_takeNumber : p_Mt m_Judge_takeNumber 0 := ⟨p_mem (p_tb3 (List.mem_of_getElem? (i := 216) rfl)) rfl, tw_1_11, by decide +kernel, by decide +kernel, by decide +kernel⟩
def dt_Judge_takeNumber : List (Nat × Instr × Nat) := [(0, .iconst (-1), 1), (1, .istore_n 1, 1), (2, .iconst 0, 1), (3, .istore_n 2, 1), (4, .iload_n 2, 1), (5, .iconst 4, 1), (6, .if_icmp .ge 77, 3), (9, .aload_n 0, 1), (10, .invokevirtual 42, 3), (13, .bipush 48, 2), (15, .if_icmp .lt 68, 3), (18, .aload_n 0, 1), (19, .invokevirtual 42, 3), (22, .bipush 57, 2), (24, .if_icmp .gt 59, 3), (27, .aload_n 0, 1), (28, .invokevirtual 42, 3), (31, .bipush 48, 2), (33, .isub, 1), (34, .istore_n 3, 1), (35, .iload_n 1, 1), (36, .ifCond .ne 16, 3), (39, .aload_n 0, 1), (40, .getfield 12, 3), (43, .dup, 1), (44, .getfield 29, 3), (47, .iconst 1, 1), (48, .isub, 1), (49, .putfield 29, 3), (52, .iload_n 1, 1), (53, .iconst (-1), 1), (54, .if_icmp .ne 7, 3), (57, .iload_n 3, 1), (58, .goto 9, 3), (61, .bipush 10, 2), (63, .iload_n 1, 1), (64, .imul, 1), (65, .iload_n 3, 1), (66, .iadd, 1), (67, .istore_n 1, 1), (68, .aload_n 0, 1), (69, .aload_n 0, 1), (70, .invokevirtual 42, 3), (73, .invokevirtual 49, 3), (76, .pop, 1), (77, .iinc 2 1, 3), (80, .goto (-76), 3), (83, .iload_n 1, 1), (84, .ireturn, 1)]
theorem dk_Judge_takeNumber (i : Nat) {pc : Nat} {ins : Instr} {len : Nat} (h : dt_Judge_takeNumber[i]? = some (pc, ins, len)) : decode m_Judge_takeNumber.2.1 pc = .ok (ins, len) := p_dk (b := m_Judge_takeNumber.2.1) (t := dt_Judge_takeNumber) (by decide +kernel) i h
def B_Judge_takeNumber_67 (k4 : Nat → Int → Int → p_Hp → Option (Int × p_Hp)) (v0 : Nat) (v2 : Int) (w0 : Int) (s0 : p_Hp) : Option (Int × p_Hp) :=
  p_gd (p_is s0 v0 1) <|
  p_bd (F_Judge_next v0 s0) fun r6 s2 =>
  p_bd (F_Judge_take v0 r6 s2) fun r11 s7 =>
  p_bi (p_w (v2 + 1)) fun x12 =>
  k4 v0 w0 x12 s7
def B_Judge_takeNumber_52 (k4 : Nat → Int → Int → p_Hp → Option (Int × p_Hp)) (v0 : Nat) (v1 : Int) (v2 : Int) (v3 : Int) (s0 : p_Hp) : Option (Int × p_Hp) :=
  if v1 ≠ (-1) then
    B_Judge_takeNumber_67 k4 v0 v2 (p_w ((p_w (10 * v1)) + v3)) s0
  else
    B_Judge_takeNumber_67 k4 v0 v2 v3 s0
def L_Judge_takeNumber_4 (k4 : Nat → Int → Int → p_Hp → Option (Int × p_Hp)) (v0 : Nat) (v1 : Int) (v2 : Int) (s0 : p_Hp) : Option (Int × p_Hp) :=
  if 4 ≤ v2 then
    some (v1, s0)
  else
    p_gd (p_is s0 v0 1) <|
    p_bd (F_Judge_next v0 s0) fun r7 s3 =>
    if r7 < 48 then
      some (v1, s3)
    else
      p_bd (F_Judge_next v0 s3) fun r13 s9 =>
      if 57 < r13 then
        some (v1, s9)
      else
        p_bd (F_Judge_next v0 s9) fun r19 s15 =>
        p_bi ((p_w (r19 - 48))) fun x20 =>
        if v1 ≠ 0 then
          B_Judge_takeNumber_52 k4 v0 v1 v2 x20 s15
        else
          p_gd (p_is s15 (p_R s15 v0 0) 6) <|
          p_bi (p_wZ s15 (p_R s15 v0 0) 8 (p_w ((p_Z s15 (p_R s15 v0 0) 8) - 1))) fun s23 =>
          B_Judge_takeNumber_52 k4 v0 v1 v2 x20 s23
def O_Judge_takeNumber_4  : Nat → Nat → Int → Int → p_Hp → Option (Int × p_Hp)
  | 0 => fun _ _ _ _ => none
  | n + 1 => L_Judge_takeNumber_4 (O_Judge_takeNumber_4 n)
def F_Judge_takeNumber (v0 : Nat) (s0 : p_Hp) : Option (Int × p_Hp) :=
  O_Judge_takeNumber_4 3000 v0 (-1) 0 s0
set_option maxRecDepth 100000 in
set_option maxHeartbeats 4000000 in
theorem tB_Judge_takeNumber_67 (K : p_K) (l : Launch) (k4 : Nat → Int → Int → p_Hp → Option (Int × p_Hp)) (hk4 : ∀ (v0 : Nat) (v1 : Int) (v2 : Int)  (s0 : p_Hp) (r : (Int × p_Hp)), k4 v0 v1 v2 s0 = some r → p_Go K l m_Judge_takeNumber 4 [(0, p_r v0), (1, p_i v1), (2, p_i v2)] [] s0 (some (p_i r.1), r.2)) (v0 : Nat) (v2 : Int) (w0 : Int) (s0 : p_Hp) (r : (Int × p_Hp)) (h : B_Judge_takeNumber_67 k4 v0 v2 w0 s0 = some r) : p_Go K l m_Judge_takeNumber 67 [(0, p_r v0), (2, p_i v2)] [p_i w0] s0 (some (p_i r.1), r.2) := by
  unfold B_Judge_takeNumber_67 at h
  refine g_istore_n (i := 1) [(1, p_i w0), (0, p_r v0), (2, p_i v2)] (dk_Judge_takeNumber 39 rfl) rfl (by decide) rfl ?_
  refine g_aload_n (i := 0) (j := 1) (dk_Judge_takeNumber 40 rfl) rfl rfl ?_
  refine g_aload_n (i := 0) (j := 1) (dk_Judge_takeNumber 41 rfl) rfl rfl ?_
  obtain ⟨c1, h⟩ := p_gdE h
  obtain ⟨r6, s2, q3, h⟩ := p_bdE h
  have t4 := tF_Judge_next K l v0 s0 _ q3
  refine g_callV (a := v0) (ci := 1) (q0 := (RX1, TX1, 4)) (As := []) (rest := [p_r v0]) [p_i r6, p_r v0] mt_Judge_next rfl rfl tw_3_199 ts_4 tw_3_197 ⟨Nat.le_of_ble_eq_true rfl, Nat.le_of_ble_eq_true rfl⟩ rfl (Nat.le_of_ble_eq_true rfl) (dk_Judge_takeNumber 42 rfl) rfl c1 rfl t4 ?_
  have hs5 : p_x s0 s2 := t4.1
  show p_Go K l m_Judge_takeNumber 73 [(1, p_i w0), (0, p_r v0), (2, p_i v2)] [p_i r6, p_r v0] s2 _
  obtain ⟨r11, s7, q8, h⟩ := p_bdE h
  have t9 := tF_Judge_take K l v0 r6 s2 _ q8
  refine g_callV (a := v0) (ci := 1) (q0 := (RX1, TX1, 4)) (As := [p_i r6]) (rest := []) [p_i r11] mt_Judge_take rfl rfl tw_3_211 ts_7 tw_3_209 ⟨Nat.le_of_ble_eq_true rfl, Nat.le_of_ble_eq_true rfl⟩ rfl (Nat.le_of_ble_eq_true rfl) (dk_Judge_takeNumber 43 rfl) rfl (c1.up hs5) rfl t9 ?_
  have hs10 : p_x s2 s7 := t9.1
  show p_Go K l m_Judge_takeNumber 76 [(1, p_i w0), (0, p_r v0), (2, p_i v2)] [p_i r11] s7 _
  refine g_pop (dk_Judge_takeNumber 44 rfl) rfl ?_
  refine g_iinc (j := 2) [(2, p_i (p_w (v2 + 1))), (1, p_i w0), (0, p_r v0)] (dk_Judge_takeNumber 45 rfl) rfl (by decide) rfl ?_
  refine p_ltG (P := fun q => p_Go K l m_Judge_takeNumber 80 [(2, p_i q), (1, p_i w0), (0, p_r v0)] [] s7 _) ?_ h
  intro x12 h
  refine g_goto 4 (dk_Judge_takeNumber 46 rfl) (by decide) ?_
  refine g_sub [(0, p_r v0), (1, p_i w0), (2, p_i x12)] [2, 1, 0] rfl ?_
  exact hk4 v0 w0 x12 s7 _ h
set_option maxRecDepth 100000 in
set_option maxHeartbeats 4000000 in
theorem tB_Judge_takeNumber_52 (K : p_K) (l : Launch) (k4 : Nat → Int → Int → p_Hp → Option (Int × p_Hp)) (hk4 : ∀ (v0 : Nat) (v1 : Int) (v2 : Int)  (s0 : p_Hp) (r : (Int × p_Hp)), k4 v0 v1 v2 s0 = some r → p_Go K l m_Judge_takeNumber 4 [(0, p_r v0), (1, p_i v1), (2, p_i v2)] [] s0 (some (p_i r.1), r.2)) (v0 : Nat) (v1 : Int) (v2 : Int) (v3 : Int) (s0 : p_Hp) (r : (Int × p_Hp)) (h : B_Judge_takeNumber_52 k4 v0 v1 v2 v3 s0 = some r) : p_Go K l m_Judge_takeNumber 52 [(0, p_r v0), (1, p_i v1), (2, p_i v2), (3, p_i v3)] [] s0 (some (p_i r.1), r.2) := by
  unfold B_Judge_takeNumber_52 at h
  refine g_iload_n (i := 1) (j := 1) (dk_Judge_takeNumber 29 rfl) rfl rfl ?_
  refine g_iconst (dk_Judge_takeNumber 30 rfl) (by decide) ?_
  refine g_icmp_ne 61 (dk_Judge_takeNumber 31 rfl) (by decide) (fun b1 => ?_) (fun b1 => ?_)
  · have h := p_ifT b1 h
    refine g_bipush (dk_Judge_takeNumber 34 rfl) (by decide +kernel) (by decide) ?_
    refine g_iload_n (i := 1) (j := 1) (dk_Judge_takeNumber 35 rfl) rfl rfl ?_
    refine g_imul (dk_Judge_takeNumber 36 rfl) ?_
    refine g_iload_n (i := 3) (j := 3) (dk_Judge_takeNumber 37 rfl) rfl rfl ?_
    refine g_iadd (dk_Judge_takeNumber 38 rfl) ?_
    refine g_sub [(0, p_r v0), (2, p_i v2)] [0, 2] rfl ?_
    exact tB_Judge_takeNumber_67 K l k4 hk4 v0 v2 (p_w ((p_w (10 * v1)) + v3)) s0 _ h
  · have h := p_ifF b1 h
    refine g_iload_n (i := 3) (j := 3) (dk_Judge_takeNumber 32 rfl) rfl rfl ?_
    refine g_goto 67 (dk_Judge_takeNumber 33 rfl) (by decide) ?_
    refine g_sub [(0, p_r v0), (2, p_i v2)] [0, 2] rfl ?_
    exact tB_Judge_takeNumber_67 K l k4 hk4 v0 v2 v3 s0 _ h
set_option maxRecDepth 100000 in
set_option maxHeartbeats 4000000 in
theorem tL_Judge_takeNumber_4 (K : p_K) (l : Launch) (k4 : Nat → Int → Int → p_Hp → Option (Int × p_Hp)) (hk4 : ∀ (v0 : Nat) (v1 : Int) (v2 : Int)  (s0 : p_Hp) (r : (Int × p_Hp)), k4 v0 v1 v2 s0 = some r → p_Go K l m_Judge_takeNumber 4 [(0, p_r v0), (1, p_i v1), (2, p_i v2)] [] s0 (some (p_i r.1), r.2)) (v0 : Nat) (v1 : Int) (v2 : Int) (s0 : p_Hp) (r : (Int × p_Hp)) (h : L_Judge_takeNumber_4 k4 v0 v1 v2 s0 = some r) : p_Go K l m_Judge_takeNumber 4 [(0, p_r v0), (1, p_i v1), (2, p_i v2)] [] s0 (some (p_i r.1), r.2) := by
  unfold L_Judge_takeNumber_4 at h
  refine g_iload_n (i := 2) (j := 2) (dk_Judge_takeNumber 4 rfl) rfl rfl ?_
  refine g_iconst (dk_Judge_takeNumber 5 rfl) (by decide) ?_
  refine g_icmp_ge 83 (dk_Judge_takeNumber 6 rfl) (by decide) (fun b1 => ?_) (fun b1 => ?_)
  · have h := p_ifT b1 h
    refine g_iload_n (i := 1) (j := 1) (dk_Judge_takeNumber 47 rfl) rfl rfl ?_
    cases h
    exact g_ret rfl rfl (dk_Judge_takeNumber 48 rfl) (fun os => ⟨_, rfl, p_okh os⟩)
  · have h := p_ifF b1 h
    refine g_aload_n (i := 0) (j := 0) (dk_Judge_takeNumber 7 rfl) rfl rfl ?_
    obtain ⟨c2, h⟩ := p_gdE h
    obtain ⟨r7, s3, q4, h⟩ := p_bdE h
    have t5 := tF_Judge_next K l v0 s0 _ q4
    refine g_callV (a := v0) (ci := 1) (q0 := (RX1, TX1, 4)) (As := []) (rest := []) [p_i r7] mt_Judge_next rfl rfl tw_3_199 ts_4 tw_3_197 ⟨Nat.le_of_ble_eq_true rfl, Nat.le_of_ble_eq_true rfl⟩ rfl (Nat.le_of_ble_eq_true rfl) (dk_Judge_takeNumber 8 rfl) rfl c2 rfl t5 ?_
    have hs6 : p_x s0 s3 := t5.1
    show p_Go K l m_Judge_takeNumber 13 [(0, p_r v0), (1, p_i v1), (2, p_i v2)] [p_i r7] s3 _
    refine g_bipush (dk_Judge_takeNumber 9 rfl) (by decide +kernel) (by decide) ?_
    refine g_icmp_lt 83 (dk_Judge_takeNumber 10 rfl) (by decide) (fun b8 => ?_) (fun b8 => ?_)
    · have h := p_ifT b8 h
      refine g_iload_n (i := 1) (j := 1) (dk_Judge_takeNumber 47 rfl) rfl rfl ?_
      cases h
      exact g_ret rfl rfl (dk_Judge_takeNumber 48 rfl) (fun os => ⟨_, rfl, p_okh os⟩)
    · have h := p_ifF b8 h
      refine g_aload_n (i := 0) (j := 0) (dk_Judge_takeNumber 11 rfl) rfl rfl ?_
      obtain ⟨r13, s9, q10, h⟩ := p_bdE h
      have t11 := tF_Judge_next K l v0 s3 _ q10
      refine g_callV (a := v0) (ci := 1) (q0 := (RX1, TX1, 4)) (As := []) (rest := []) [p_i r13] mt_Judge_next rfl rfl tw_3_199 ts_4 tw_3_197 ⟨Nat.le_of_ble_eq_true rfl, Nat.le_of_ble_eq_true rfl⟩ rfl (Nat.le_of_ble_eq_true rfl) (dk_Judge_takeNumber 12 rfl) rfl (c2.up hs6) rfl t11 ?_
      have hs12 : p_x s3 s9 := t11.1
      show p_Go K l m_Judge_takeNumber 22 [(0, p_r v0), (1, p_i v1), (2, p_i v2)] [p_i r13] s9 _
      refine g_bipush (dk_Judge_takeNumber 13 rfl) (by decide +kernel) (by decide) ?_
      refine g_icmp_gt 83 (dk_Judge_takeNumber 14 rfl) (by decide) (fun b14 => ?_) (fun b14 => ?_)
      · have h := p_ifT b14 h
        refine g_iload_n (i := 1) (j := 1) (dk_Judge_takeNumber 47 rfl) rfl rfl ?_
        cases h
        exact g_ret rfl rfl (dk_Judge_takeNumber 48 rfl) (fun os => ⟨_, rfl, p_okh os⟩)
      · have h := p_ifF b14 h
        refine g_aload_n (i := 0) (j := 0) (dk_Judge_takeNumber 15 rfl) rfl rfl ?_
        obtain ⟨r19, s15, q16, h⟩ := p_bdE h
        have t17 := tF_Judge_next K l v0 s9 _ q16
        refine g_callV (a := v0) (ci := 1) (q0 := (RX1, TX1, 4)) (As := []) (rest := []) [p_i r19] mt_Judge_next rfl rfl tw_3_199 ts_4 tw_3_197 ⟨Nat.le_of_ble_eq_true rfl, Nat.le_of_ble_eq_true rfl⟩ rfl (Nat.le_of_ble_eq_true rfl) (dk_Judge_takeNumber 16 rfl) rfl (c2.up (hs6.trans hs12)) rfl t17 ?_
        have hs18 : p_x s9 s15 := t17.1
        show p_Go K l m_Judge_takeNumber 31 [(0, p_r v0), (1, p_i v1), (2, p_i v2)] [p_i r19] s15 _
        refine g_bipush (dk_Judge_takeNumber 17 rfl) (by decide +kernel) (by decide) ?_
        refine g_isub (dk_Judge_takeNumber 18 rfl) ?_
        refine g_istore_n (i := 3) [(3, p_i (p_w (r19 - 48))), (0, p_r v0), (1, p_i v1), (2, p_i v2)] (dk_Judge_takeNumber 19 rfl) rfl (by decide) rfl ?_
        refine p_ltG (P := fun q => p_Go K l m_Judge_takeNumber 35 [(3, p_i q), (0, p_r v0), (1, p_i v1), (2, p_i v2)] [] s15 _) ?_ h
        intro x20 h
        refine g_iload_n (i := 1) (j := 2) (dk_Judge_takeNumber 20 rfl) rfl rfl ?_
        refine g_if_ne 52 (dk_Judge_takeNumber 21 rfl) (by decide) (fun b21 => ?_) (fun b21 => ?_)
        · have h := p_ifT b21 h
          refine g_sub [(0, p_r v0), (1, p_i v1), (2, p_i v2), (3, p_i x20)] [1, 2, 3, 0] rfl ?_
          exact tB_Judge_takeNumber_52 K l k4 hk4 v0 v1 v2 x20 s15 _ h
        · have h := p_ifF b21 h
          refine g_aload_n (i := 0) (j := 1) (dk_Judge_takeNumber 22 rfl) rfl rfl ?_
          refine g_getR fl_Judge_12 (Or.inl ⟨_, rfl⟩) (dk_Judge_takeNumber 23 rfl) (c2.up (hs6.trans (hs12.trans hs18))) ?_
          refine g_dup (dk_Judge_takeNumber 24 rfl) rfl ?_
          obtain ⟨c22, h⟩ := p_gdE h
          refine g_getI fl_Judge_29 (Or.inl rfl) (dk_Judge_takeNumber 25 rfl) c22 ?_
          refine g_iconst (dk_Judge_takeNumber 26 rfl) (by decide) ?_
          refine g_isub (dk_Judge_takeNumber 27 rfl) ?_
          refine g_putI fl_Judge_29 (Or.inl rfl) (dk_Judge_takeNumber 28 rfl) c22 ?_
          refine p_ltS (P := fun q => p_Go K l m_Judge_takeNumber 52 [(3, p_i x20), (0, p_r v0), (1, p_i v1), (2, p_i v2)] [] q _) (p_xZ _ _ _ _) ?_ h
          intro s23 hs24 h
          refine g_sub [(0, p_r v0), (1, p_i v1), (2, p_i v2), (3, p_i x20)] [1, 2, 3, 0] rfl ?_
          exact tB_Judge_takeNumber_52 K l k4 hk4 v0 v1 v2 x20 s23 _ h
set_option maxRecDepth 100000 in
set_option maxHeartbeats 4000000 in
theorem tO_Judge_takeNumber_4 (K : p_K) (l : Launch)  : ∀ (n : Nat) (v0 : Nat) (v1 : Int) (v2 : Int) (s0 : p_Hp) (r : (Int × p_Hp)), O_Judge_takeNumber_4 n v0 v1 v2 s0 = some r → p_Go K l m_Judge_takeNumber 4 [(0, p_r v0), (1, p_i v1), (2, p_i v2)] [] s0 (some (p_i r.1), r.2) := by
  intro n
  induction n with
  | zero => intro v0 v1 v2 s0 r h; cases (show (none : Option (Int × p_Hp)) = some r from h)
  | succ n ih => intro v0 v1 v2 s0 r h; exact tL_Judge_takeNumber_4 K l _ ih v0 v1 v2 s0 r h
set_option maxRecDepth 100000 in
set_option maxHeartbeats 4000000 in
theorem tF_Judge_takeNumber (K : p_K) (l : Launch) (v0 : Nat) (s0 : p_Hp) (r : (Int × p_Hp)) (h : F_Judge_takeNumber v0 s0 = some r) : p_Ct K l m_Judge_takeNumber [p_r v0] s0 (some (p_i r.1), r.2) := by
  refine p_Ct.of (by decide +kernel) (Nat.le_of_ble_eq_true rfl) ?_
  unfold F_Judge_takeNumber at h
  show p_Go K l m_Judge_takeNumber 0 [(0, p_r v0)] [] s0 _
  refine g_iconst (dk_Judge_takeNumber 0 rfl) (by decide) ?_
  refine g_istore_n (i := 1) [(1, p_i (-1)), (0, p_r v0)] (dk_Judge_takeNumber 1 rfl) rfl (by decide) rfl ?_
  refine g_iconst (dk_Judge_takeNumber 2 rfl) (by decide) ?_
  refine g_istore_n (i := 2) [(2, p_i 0), (1, p_i (-1)), (0, p_r v0)] (dk_Judge_takeNumber 3 rfl) rfl (by decide) rfl ?_
  refine g_sub [(0, p_r v0), (1, p_i (-1)), (2, p_i 0)] [2, 1, 0] rfl ?_
  exact tO_Judge_takeNumber_4 K l 3000 v0 (-1) 0 s0 _ h
def m_Judge_takeTest : p_Me := (⟨"SortWorks$Judge", "takeTest", "(I)Z"⟩, prog_3_method_5_code, 4, (some .boolean), 2, 44)
theorem mt_Judge_takeTest : p_Mt m_Judge_takeTest 1 := ⟨p_mem (p_tb3 (List.mem_of_getElem? (i := 208) rfl)) rfl, tw_1_11, by decide +kernel, by decide +kernel, by decide +kernel⟩
def dt_Judge_takeTest : List (Nat × Instr × Nat) := [(0, .aload_n 0, 1), (1, .invokevirtual 42, 3), (4, .istore_n 2, 1), (5, .iload_n 2, 1), (6, .bipush 68, 2), (8, .if_icmp .eq 29, 3), (11, .iload_n 2, 1), (12, .bipush 87, 2), (14, .if_icmp .eq 23, 3), (17, .iload_n 2, 1), (18, .bipush 83, 2), (20, .if_icmp .eq 17, 3), (23, .iload_n 2, 1), (24, .bipush 84, 2), (26, .if_icmp .eq 11, 3), (29, .iload_n 2, 1), (30, .bipush 81, 2), (32, .if_icmp .eq 5, 3), (35, .iconst 0, 1), (36, .ireturn, 1), (37, .aload_n 0, 1), (38, .iload_n 2, 1), (39, .invokevirtual 49, 3), (42, .pop, 1), (43, .aload_n 0, 1), (44, .getfield 12, 3), (47, .getfield 58, 3), (50, .iload_n 1, 1), (51, .iload_n 2, 1), (52, .iastore, 1), (53, .iload_n 2, 1), (54, .bipush 81, 2), (56, .if_icmp .ne 31, 3), (59, .aload_n 0, 1), (60, .getfield 12, 3), (63, .getfield 61, 3), (66, .iload_n 1, 1), (67, .aload_n 0, 1), (68, .invokevirtual 64, 3), (71, .iastore, 1), (72, .aload_n 0, 1), (73, .getfield 12, 3), (76, .getfield 61, 3), (79, .iload_n 1, 1), (80, .iaload, 1), (81, .iconst (-1), 1), (82, .if_icmp .ne 5, 3), (85, .iconst 0, 1), (86, .ireturn, 1), (87, .aload_n 0, 1), (88, .invokevirtual 42, 3), (91, .istore_n 3, 1), (92, .aload_n 0, 1), (93, .getfield 12, 3), (96, .getfield 67, 3), (99, .iload_n 1, 1), (100, .iload_n 3, 1), (101, .iastore, 1), (102, .aload_n 0, 1), (103, .bipush 60, 2), (105, .invokevirtual 49, 3), (108, .ifCond .ne 23, 3), (111, .aload_n 0, 1), (112, .bipush 61, 2), (114, .invokevirtual 49, 3), (117, .ifCond .ne 14, 3), (120, .aload_n 0, 1), (121, .bipush 62, 2), (123, .invokevirtual 49, 3), (126, .ifCond .ne 5, 3), (129, .iconst 0, 1), (130, .ireturn, 1), (131, .aload_n 0, 1), (132, .getfield 12, 3), (135, .getfield 70, 3), (138, .iload_n 1, 1), (139, .aload_n 0, 1), (140, .invokevirtual 64, 3), (143, .iastore, 1), (144, .aload_n 0, 1), (145, .getfield 12, 3), (148, .getfield 70, 3), (151, .iload_n 1, 1), (152, .iaload, 1), (153, .iconst (-1), 1), (154, .if_icmp .eq 7, 3), (157, .iconst 1, 1), (158, .goto 4, 3), (161, .iconst 0, 1), (162, .ireturn, 1)]
theorem dk_Judge_takeTest (i : Nat) {pc : Nat} {ins : Instr} {len : Nat} (h : dt_Judge_takeTest[i]? = some (pc, ins, len)) : decode m_Judge_takeTest.2.1 pc = .ok (ins, len) := p_dk (b := m_Judge_takeTest.2.1) (t := dt_Judge_takeTest) (by decide +kernel) i h
def B_Judge_takeTest_131  (v0 : Nat) (v1 : Int) (s0 : p_Hp) : Option (Int × p_Hp) :=
  p_gd (p_is s0 v0 1) <|
  p_gd (p_is s0 (p_R s0 v0 0) 6) <|
  p_bd (F_Judge_takeNumber v0 s0) fun r7 s3 =>
  p_gd (p_is s3 (p_R s0 (p_R s0 v0 0) 6) 100) <|
  p_gd ((0 : Int) ≤ v1 ∧ v1 < (p_L s3 (p_R s0 (p_R s0 v0 0) 6) : Int)) <|
  p_bi (p_wZ s3 (p_R s0 (p_R s0 v0 0) 6) (v1 : Int).toNat r7) fun s10 =>
  p_gd (p_is s10 (p_R s10 v0 0) 6) <|
  p_gd (p_is s10 (p_R s10 (p_R s10 v0 0) 6) 100) <|
  p_gd ((0 : Int) ≤ v1 ∧ v1 < (p_L s10 (p_R s10 (p_R s10 v0 0) 6) : Int)) <|
  if (p_Z s10 (p_R s10 (p_R s10 v0 0) 6) (v1 : Int).toNat) = (-1) then
    some (0, s10)
  else
    some (1, s10)
def B_Judge_takeTest_87  (v0 : Nat) (v1 : Int) (s0 : p_Hp) : Option (Int × p_Hp) :=
  p_gd (p_is s0 v0 1) <|
  p_bd (F_Judge_next v0 s0) fun r6 s2 =>
  p_gd (p_is s2 (p_R s2 v0 0) 6) <|
  p_gd (p_is s2 (p_R s2 (p_R s2 v0 0) 5) 100) <|
  p_gd ((0 : Int) ≤ v1 ∧ v1 < (p_L s2 (p_R s2 (p_R s2 v0 0) 5) : Int)) <|
  p_bi (p_wZ s2 (p_R s2 (p_R s2 v0 0) 5) (v1 : Int).toNat r6) fun s10 =>
  p_bd (F_Judge_take v0 60 s10) fun r16 s12 =>
  if r16 ≠ 0 then
    B_Judge_takeTest_131 v0 v1 s12
  else
    p_bd (F_Judge_take v0 61 s12) fun r22 s18 =>
    if r22 ≠ 0 then
      B_Judge_takeTest_131 v0 v1 s18
    else
      p_bd (F_Judge_take v0 62 s18) fun r28 s24 =>
      if r28 ≠ 0 then
        B_Judge_takeTest_131 v0 v1 s24
      else
        some (0, s24)
def B_Judge_takeTest_37  (v0 : Nat) (v1 : Int) (v2 : Int) (s0 : p_Hp) : Option (Int × p_Hp) :=
  p_gd (p_is s0 v0 1) <|
  p_bd (F_Judge_take v0 v2 s0) fun r6 s2 =>
  p_gd (p_is s2 (p_R s2 v0 0) 6) <|
  p_gd (p_is s2 (p_R s2 (p_R s2 v0 0) 3) 100) <|
  p_gd ((0 : Int) ≤ v1 ∧ v1 < (p_L s2 (p_R s2 (p_R s2 v0 0) 3) : Int)) <|
  p_bi (p_wZ s2 (p_R s2 (p_R s2 v0 0) 3) (v1 : Int).toNat v2) fun s10 =>
  if v2 ≠ 81 then
    B_Judge_takeTest_87 v0 v1 s10
  else
    p_gd (p_is s10 (p_R s10 v0 0) 6) <|
    p_bd (F_Judge_takeNumber v0 s10) fun r18 s14 =>
    p_gd (p_is s14 (p_R s10 (p_R s10 v0 0) 4) 100) <|
    p_gd ((0 : Int) ≤ v1 ∧ v1 < (p_L s14 (p_R s10 (p_R s10 v0 0) 4) : Int)) <|
    p_bi (p_wZ s14 (p_R s10 (p_R s10 v0 0) 4) (v1 : Int).toNat r18) fun s21 =>
    p_gd (p_is s21 (p_R s21 v0 0) 6) <|
    p_gd (p_is s21 (p_R s21 (p_R s21 v0 0) 4) 100) <|
    p_gd ((0 : Int) ≤ v1 ∧ v1 < (p_L s21 (p_R s21 (p_R s21 v0 0) 4) : Int)) <|
    if (p_Z s21 (p_R s21 (p_R s21 v0 0) 4) (v1 : Int).toNat) ≠ (-1) then
      B_Judge_takeTest_87 v0 v1 s21
    else
      some (0, s21)
def F_Judge_takeTest (v0 : Nat) (v1 : Int) (s0 : p_Hp) : Option (Int × p_Hp) :=
  p_gd (p_is s0 v0 1) <|
  p_bd (F_Judge_next v0 s0) fun r6 s2 =>
  if r6 = 68 then
    B_Judge_takeTest_37 v0 v1 r6 s2
  else
    if r6 = 87 then
      B_Judge_takeTest_37 v0 v1 r6 s2
    else
      if r6 = 83 then
        B_Judge_takeTest_37 v0 v1 r6 s2
      else
        if r6 = 84 then
          B_Judge_takeTest_37 v0 v1 r6 s2
        else
          if r6 = 81 then
            B_Judge_takeTest_37 v0 v1 r6 s2
          else
            some (0, s2)
set_option maxRecDepth 100000 in
set_option maxHeartbeats 4000000 in
theorem tB_Judge_takeTest_131 (K : p_K) (l : Launch)  (v0 : Nat) (v1 : Int) (s0 : p_Hp) (r : (Int × p_Hp)) (h : B_Judge_takeTest_131 v0 v1 s0 = some r) : p_Go K l m_Judge_takeTest 131 [(0, p_r v0), (1, p_i v1)] [] s0 (some (p_i r.1), r.2) := by
  unfold B_Judge_takeTest_131 at h
  refine g_aload_n (i := 0) (j := 0) (dk_Judge_takeTest 72 rfl) rfl rfl ?_
  obtain ⟨c1, h⟩ := p_gdE h
  refine g_getR fl_Judge_12 (Or.inl ⟨_, rfl⟩) (dk_Judge_takeTest 73 rfl) c1 ?_
  obtain ⟨c2, h⟩ := p_gdE h
  refine g_getR fl_Judge_70 (Or.inr ⟨_, rfl⟩) (dk_Judge_takeTest 74 rfl) c2 ?_
  refine g_iload_n (i := 1) (j := 1) (dk_Judge_takeTest 75 rfl) rfl rfl ?_
  refine g_aload_n (i := 0) (j := 0) (dk_Judge_takeTest 76 rfl) rfl rfl ?_
  obtain ⟨r7, s3, q4, h⟩ := p_bdE h
  have t5 := tF_Judge_takeNumber K l v0 s0 _ q4
  refine g_callV (a := v0) (ci := 1) (q0 := (RX1, TX1, 4)) (As := []) (rest := [p_i v1, p_r (p_R s0 (p_R s0 v0 0) 6)]) [p_i r7, p_i v1, p_r (p_R s0 (p_R s0 v0 0) 6)] mt_Judge_takeNumber rfl rfl tw_3_215 ts_8 tw_3_213 ⟨Nat.le_of_ble_eq_true rfl, Nat.le_of_ble_eq_true rfl⟩ rfl (Nat.le_of_ble_eq_true rfl) (dk_Judge_takeTest 77 rfl) rfl c1 rfl t5 ?_
  have hs6 : p_x s0 s3 := t5.1
  show p_Go K l m_Judge_takeTest 143 [(0, p_r v0), (1, p_i v1)] [p_i r7, p_i v1, p_r (p_R s0 (p_R s0 v0 0) 6)] s3 _
  obtain ⟨c8, h⟩ := p_gdE h
  obtain ⟨c9, h⟩ := p_gdE h
  refine g_iastore (dk_Judge_takeTest 78 rfl) c8 c9.1 c9.2 ?_
  refine p_ltS (P := fun q => p_Go K l m_Judge_takeTest 144 [(0, p_r v0), (1, p_i v1)] [] q _) (p_xZ _ _ _ _) ?_ h
  intro s10 hs11 h
  refine g_aload_n (i := 0) (j := 0) (dk_Judge_takeTest 79 rfl) rfl rfl ?_
  refine g_getR fl_Judge_12 (Or.inl ⟨_, rfl⟩) (dk_Judge_takeTest 80 rfl) (c1.up (hs6.trans hs11)) ?_
  obtain ⟨c12, h⟩ := p_gdE h
  refine g_getR fl_Judge_70 (Or.inr ⟨_, rfl⟩) (dk_Judge_takeTest 81 rfl) c12 ?_
  refine g_iload_n (i := 1) (j := 1) (dk_Judge_takeTest 82 rfl) rfl rfl ?_
  obtain ⟨c13, h⟩ := p_gdE h
  obtain ⟨c14, h⟩ := p_gdE h
  refine g_iaload (dk_Judge_takeTest 83 rfl) c13 c14.1 c14.2 ?_
  refine g_iconst (dk_Judge_takeTest 84 rfl) (by decide) ?_
  refine g_icmp_eq 161 (dk_Judge_takeTest 85 rfl) (by decide) (fun b15 => ?_) (fun b15 => ?_)
  · have h := p_ifT b15 h
    refine g_iconst (dk_Judge_takeTest 88 rfl) (by decide) ?_
    cases h
    exact g_ret rfl rfl (dk_Judge_takeTest 89 rfl) (fun _ => ⟨_, rfl, Or.inl rfl⟩)
  · have h := p_ifF b15 h
    refine g_iconst (dk_Judge_takeTest 86 rfl) (by decide) ?_
    refine g_goto 162 (dk_Judge_takeTest 87 rfl) (by decide) ?_
    cases h
    exact g_ret rfl rfl (dk_Judge_takeTest 89 rfl) (fun _ => ⟨_, rfl, Or.inr rfl⟩)
set_option maxRecDepth 100000 in
set_option maxHeartbeats 4000000 in
theorem tB_Judge_takeTest_87 (K : p_K) (l : Launch)  (v0 : Nat) (v1 : Int) (s0 : p_Hp) (r : (Int × p_Hp)) (h : B_Judge_takeTest_87 v0 v1 s0 = some r) : p_Go K l m_Judge_takeTest 87 [(0, p_r v0), (1, p_i v1)] [] s0 (some (p_i r.1), r.2) := by
  unfold B_Judge_takeTest_87 at h
  refine g_aload_n (i := 0) (j := 0) (dk_Judge_takeTest 49 rfl) rfl rfl ?_
  obtain ⟨c1, h⟩ := p_gdE h
  obtain ⟨r6, s2, q3, h⟩ := p_bdE h
  have t4 := tF_Judge_next K l v0 s0 _ q3
  refine g_callV (a := v0) (ci := 1) (q0 := (RX1, TX1, 4)) (As := []) (rest := []) [p_i r6] mt_Judge_next rfl rfl tw_3_199 ts_4 tw_3_197 ⟨Nat.le_of_ble_eq_true rfl, Nat.le_of_ble_eq_true rfl⟩ rfl (Nat.le_of_ble_eq_true rfl) (dk_Judge_takeTest 50 rfl) rfl c1 rfl t4 ?_
  have hs5 : p_x s0 s2 := t4.1
  show p_Go K l m_Judge_takeTest 91 [(0, p_r v0), (1, p_i v1)] [p_i r6] s2 _
  refine g_istore_n (i := 3) [(3, p_i r6), (0, p_r v0), (1, p_i v1)] (dk_Judge_takeTest 51 rfl) rfl (by decide) rfl ?_
  refine g_aload_n (i := 0) (j := 1) (dk_Judge_takeTest 52 rfl) rfl rfl ?_
  refine g_getR fl_Judge_12 (Or.inl ⟨_, rfl⟩) (dk_Judge_takeTest 53 rfl) (c1.up hs5) ?_
  obtain ⟨c7, h⟩ := p_gdE h
  refine g_getR fl_Judge_67 (Or.inr ⟨_, rfl⟩) (dk_Judge_takeTest 54 rfl) c7 ?_
  refine g_iload_n (i := 1) (j := 2) (dk_Judge_takeTest 55 rfl) rfl rfl ?_
  refine g_iload_n (i := 3) (j := 0) (dk_Judge_takeTest 56 rfl) rfl rfl ?_
  obtain ⟨c8, h⟩ := p_gdE h
  obtain ⟨c9, h⟩ := p_gdE h
  refine g_iastore (dk_Judge_takeTest 57 rfl) c8 c9.1 c9.2 ?_
  refine p_ltS (P := fun q => p_Go K l m_Judge_takeTest 102 [(3, p_i r6), (0, p_r v0), (1, p_i v1)] [] q _) (p_xZ _ _ _ _) ?_ h
  intro s10 hs11 h
  refine g_aload_n (i := 0) (j := 1) (dk_Judge_takeTest 58 rfl) rfl rfl ?_
  refine g_bipush (dk_Judge_takeTest 59 rfl) (by decide +kernel) (by decide) ?_
  obtain ⟨r16, s12, q13, h⟩ := p_bdE h
  have t14 := tF_Judge_take K l v0 60 s10 _ q13
  refine g_callV (a := v0) (ci := 1) (q0 := (RX1, TX1, 4)) (As := [p_i 60]) (rest := []) [p_i r16] mt_Judge_take rfl rfl tw_3_211 ts_7 tw_3_209 ⟨Nat.le_of_ble_eq_true rfl, Nat.le_of_ble_eq_true rfl⟩ rfl (Nat.le_of_ble_eq_true rfl) (dk_Judge_takeTest 60 rfl) rfl (c1.up (hs5.trans hs11)) rfl t14 ?_
  have hs15 : p_x s10 s12 := t14.1
  show p_Go K l m_Judge_takeTest 108 [(3, p_i r6), (0, p_r v0), (1, p_i v1)] [p_i r16] s12 _
  refine g_if_ne 131 (dk_Judge_takeTest 61 rfl) (by decide) (fun b17 => ?_) (fun b17 => ?_)
  · have h := p_ifT b17 h
    refine g_sub [(0, p_r v0), (1, p_i v1)] [1, 2] rfl ?_
    exact tB_Judge_takeTest_131 K l v0 v1 s12 _ h
  · have h := p_ifF b17 h
    refine g_aload_n (i := 0) (j := 1) (dk_Judge_takeTest 62 rfl) rfl rfl ?_
    refine g_bipush (dk_Judge_takeTest 63 rfl) (by decide +kernel) (by decide) ?_
    obtain ⟨r22, s18, q19, h⟩ := p_bdE h
    have t20 := tF_Judge_take K l v0 61 s12 _ q19
    refine g_callV (a := v0) (ci := 1) (q0 := (RX1, TX1, 4)) (As := [p_i 61]) (rest := []) [p_i r22] mt_Judge_take rfl rfl tw_3_211 ts_7 tw_3_209 ⟨Nat.le_of_ble_eq_true rfl, Nat.le_of_ble_eq_true rfl⟩ rfl (Nat.le_of_ble_eq_true rfl) (dk_Judge_takeTest 64 rfl) rfl (c1.up (hs5.trans (hs11.trans hs15))) rfl t20 ?_
    have hs21 : p_x s12 s18 := t20.1
    show p_Go K l m_Judge_takeTest 117 [(3, p_i r6), (0, p_r v0), (1, p_i v1)] [p_i r22] s18 _
    refine g_if_ne 131 (dk_Judge_takeTest 65 rfl) (by decide) (fun b23 => ?_) (fun b23 => ?_)
    · have h := p_ifT b23 h
      refine g_sub [(0, p_r v0), (1, p_i v1)] [1, 2] rfl ?_
      exact tB_Judge_takeTest_131 K l v0 v1 s18 _ h
    · have h := p_ifF b23 h
      refine g_aload_n (i := 0) (j := 1) (dk_Judge_takeTest 66 rfl) rfl rfl ?_
      refine g_bipush (dk_Judge_takeTest 67 rfl) (by decide +kernel) (by decide) ?_
      obtain ⟨r28, s24, q25, h⟩ := p_bdE h
      have t26 := tF_Judge_take K l v0 62 s18 _ q25
      refine g_callV (a := v0) (ci := 1) (q0 := (RX1, TX1, 4)) (As := [p_i 62]) (rest := []) [p_i r28] mt_Judge_take rfl rfl tw_3_211 ts_7 tw_3_209 ⟨Nat.le_of_ble_eq_true rfl, Nat.le_of_ble_eq_true rfl⟩ rfl (Nat.le_of_ble_eq_true rfl) (dk_Judge_takeTest 68 rfl) rfl (c1.up (hs5.trans (hs11.trans (hs15.trans hs21)))) rfl t26 ?_
      have hs27 : p_x s18 s24 := t26.1
      show p_Go K l m_Judge_takeTest 126 [(3, p_i r6), (0, p_r v0), (1, p_i v1)] [p_i r28] s24 _
      refine g_if_ne 131 (dk_Judge_takeTest 69 rfl) (by decide) (fun b29 => ?_) (fun b29 => ?_)
      · have h := p_ifT b29 h
        refine g_sub [(0, p_r v0), (1, p_i v1)] [1, 2] rfl ?_
        exact tB_Judge_takeTest_131 K l v0 v1 s24 _ h
      · have h := p_ifF b29 h
        refine g_iconst (dk_Judge_takeTest 70 rfl) (by decide) ?_
        cases h
        exact g_ret rfl rfl (dk_Judge_takeTest 71 rfl) (fun _ => ⟨_, rfl, Or.inl rfl⟩)
set_option maxRecDepth 100000 in
set_option maxHeartbeats 4000000 in
theorem tB_Judge_takeTest_37 (K : p_K) (l : Launch)  (v0 : Nat) (v1 : Int) (v2 : Int) (s0 : p_Hp) (r : (Int × p_Hp)) (h : B_Judge_takeTest_37 v0 v1 v2 s0 = some r) : p_Go K l m_Judge_takeTest 37 [(0, p_r v0), (1, p_i v1), (2, p_i v2)] [] s0 (some (p_i r.1), r.2) := by
  unfold B_Judge_takeTest_37 at h
  refine g_aload_n (i := 0) (j := 0) (dk_Judge_takeTest 20 rfl) rfl rfl ?_
  refine g_iload_n (i := 2) (j := 2) (dk_Judge_takeTest 21 rfl) rfl rfl ?_
  obtain ⟨c1, h⟩ := p_gdE h
  obtain ⟨r6, s2, q3, h⟩ := p_bdE h
  have t4 := tF_Judge_take K l v0 v2 s0 _ q3
  refine g_callV (a := v0) (ci := 1) (q0 := (RX1, TX1, 4)) (As := [p_i v2]) (rest := []) [p_i r6] mt_Judge_take rfl rfl tw_3_211 ts_7 tw_3_209 ⟨Nat.le_of_ble_eq_true rfl, Nat.le_of_ble_eq_true rfl⟩ rfl (Nat.le_of_ble_eq_true rfl) (dk_Judge_takeTest 22 rfl) rfl c1 rfl t4 ?_
  have hs5 : p_x s0 s2 := t4.1
  show p_Go K l m_Judge_takeTest 42 [(0, p_r v0), (1, p_i v1), (2, p_i v2)] [p_i r6] s2 _
  refine g_pop (dk_Judge_takeTest 23 rfl) rfl ?_
  refine g_aload_n (i := 0) (j := 0) (dk_Judge_takeTest 24 rfl) rfl rfl ?_
  refine g_getR fl_Judge_12 (Or.inl ⟨_, rfl⟩) (dk_Judge_takeTest 25 rfl) (c1.up hs5) ?_
  obtain ⟨c7, h⟩ := p_gdE h
  refine g_getR fl_Judge_58 (Or.inr ⟨_, rfl⟩) (dk_Judge_takeTest 26 rfl) c7 ?_
  refine g_iload_n (i := 1) (j := 1) (dk_Judge_takeTest 27 rfl) rfl rfl ?_
  refine g_iload_n (i := 2) (j := 2) (dk_Judge_takeTest 28 rfl) rfl rfl ?_
  obtain ⟨c8, h⟩ := p_gdE h
  obtain ⟨c9, h⟩ := p_gdE h
  refine g_iastore (dk_Judge_takeTest 29 rfl) c8 c9.1 c9.2 ?_
  refine p_ltS (P := fun q => p_Go K l m_Judge_takeTest 53 [(0, p_r v0), (1, p_i v1), (2, p_i v2)] [] q _) (p_xZ _ _ _ _) ?_ h
  intro s10 hs11 h
  refine g_iload_n (i := 2) (j := 2) (dk_Judge_takeTest 30 rfl) rfl rfl ?_
  refine g_bipush (dk_Judge_takeTest 31 rfl) (by decide +kernel) (by decide) ?_
  refine g_icmp_ne 87 (dk_Judge_takeTest 32 rfl) (by decide) (fun b12 => ?_) (fun b12 => ?_)
  · have h := p_ifT b12 h
    refine g_sub [(0, p_r v0), (1, p_i v1)] [0, 1] rfl ?_
    exact tB_Judge_takeTest_87 K l v0 v1 s10 _ h
  · have h := p_ifF b12 h
    refine g_aload_n (i := 0) (j := 0) (dk_Judge_takeTest 33 rfl) rfl rfl ?_
    refine g_getR fl_Judge_12 (Or.inl ⟨_, rfl⟩) (dk_Judge_takeTest 34 rfl) (c1.up (hs5.trans hs11)) ?_
    obtain ⟨c13, h⟩ := p_gdE h
    refine g_getR fl_Judge_61 (Or.inr ⟨_, rfl⟩) (dk_Judge_takeTest 35 rfl) c13 ?_
    refine g_iload_n (i := 1) (j := 1) (dk_Judge_takeTest 36 rfl) rfl rfl ?_
    refine g_aload_n (i := 0) (j := 0) (dk_Judge_takeTest 37 rfl) rfl rfl ?_
    obtain ⟨r18, s14, q15, h⟩ := p_bdE h
    have t16 := tF_Judge_takeNumber K l v0 s10 _ q15
    refine g_callV (a := v0) (ci := 1) (q0 := (RX1, TX1, 4)) (As := []) (rest := [p_i v1, p_r (p_R s10 (p_R s10 v0 0) 4)]) [p_i r18, p_i v1, p_r (p_R s10 (p_R s10 v0 0) 4)] mt_Judge_takeNumber rfl rfl tw_3_215 ts_8 tw_3_213 ⟨Nat.le_of_ble_eq_true rfl, Nat.le_of_ble_eq_true rfl⟩ rfl (Nat.le_of_ble_eq_true rfl) (dk_Judge_takeTest 38 rfl) rfl (c1.up (hs5.trans hs11)) rfl t16 ?_
    have hs17 : p_x s10 s14 := t16.1
    show p_Go K l m_Judge_takeTest 71 [(0, p_r v0), (1, p_i v1), (2, p_i v2)] [p_i r18, p_i v1, p_r (p_R s10 (p_R s10 v0 0) 4)] s14 _
    obtain ⟨c19, h⟩ := p_gdE h
    obtain ⟨c20, h⟩ := p_gdE h
    refine g_iastore (dk_Judge_takeTest 39 rfl) c19 c20.1 c20.2 ?_
    refine p_ltS (P := fun q => p_Go K l m_Judge_takeTest 72 [(0, p_r v0), (1, p_i v1), (2, p_i v2)] [] q _) (p_xZ _ _ _ _) ?_ h
    intro s21 hs22 h
    refine g_aload_n (i := 0) (j := 0) (dk_Judge_takeTest 40 rfl) rfl rfl ?_
    refine g_getR fl_Judge_12 (Or.inl ⟨_, rfl⟩) (dk_Judge_takeTest 41 rfl) (c1.up (hs5.trans (hs11.trans (hs17.trans hs22)))) ?_
    obtain ⟨c23, h⟩ := p_gdE h
    refine g_getR fl_Judge_61 (Or.inr ⟨_, rfl⟩) (dk_Judge_takeTest 42 rfl) c23 ?_
    refine g_iload_n (i := 1) (j := 1) (dk_Judge_takeTest 43 rfl) rfl rfl ?_
    obtain ⟨c24, h⟩ := p_gdE h
    obtain ⟨c25, h⟩ := p_gdE h
    refine g_iaload (dk_Judge_takeTest 44 rfl) c24 c25.1 c25.2 ?_
    refine g_iconst (dk_Judge_takeTest 45 rfl) (by decide) ?_
    refine g_icmp_ne 87 (dk_Judge_takeTest 46 rfl) (by decide) (fun b26 => ?_) (fun b26 => ?_)
    · have h := p_ifT b26 h
      refine g_sub [(0, p_r v0), (1, p_i v1)] [0, 1] rfl ?_
      exact tB_Judge_takeTest_87 K l v0 v1 s21 _ h
    · have h := p_ifF b26 h
      refine g_iconst (dk_Judge_takeTest 47 rfl) (by decide) ?_
      cases h
      exact g_ret rfl rfl (dk_Judge_takeTest 48 rfl) (fun _ => ⟨_, rfl, Or.inl rfl⟩)
set_option maxRecDepth 100000 in
set_option maxHeartbeats 4000000 in
theorem tF_Judge_takeTest (K : p_K) (l : Launch) (v0 : Nat) (v1 : Int) (s0 : p_Hp) (r : (Int × p_Hp)) (h : F_Judge_takeTest v0 v1 s0 = some r) : p_Ct K l m_Judge_takeTest [p_r v0, p_i v1] s0 (some (p_i r.1), r.2) := by
  refine p_Ct.of (by decide +kernel) (Nat.le_of_ble_eq_true rfl) ?_
  unfold F_Judge_takeTest at h
  show p_Go K l m_Judge_takeTest 0 [(0, p_r v0), (1, p_i v1)] [] s0 _
  refine g_aload_n (i := 0) (j := 0) (dk_Judge_takeTest 0 rfl) rfl rfl ?_
  obtain ⟨c1, h⟩ := p_gdE h
  obtain ⟨r6, s2, q3, h⟩ := p_bdE h
  have t4 := tF_Judge_next K l v0 s0 _ q3
  refine g_callV (a := v0) (ci := 1) (q0 := (RX1, TX1, 4)) (As := []) (rest := []) [p_i r6] mt_Judge_next rfl rfl tw_3_199 ts_4 tw_3_197 ⟨Nat.le_of_ble_eq_true rfl, Nat.le_of_ble_eq_true rfl⟩ rfl (Nat.le_of_ble_eq_true rfl) (dk_Judge_takeTest 1 rfl) rfl c1 rfl t4 ?_
  have hs5 : p_x s0 s2 := t4.1
  show p_Go K l m_Judge_takeTest 4 [(0, p_r v0), (1, p_i v1)] [p_i r6] s2 _
  refine g_istore_n (i := 2) [(2, p_i r6), (0, p_r v0), (1, p_i v1)] (dk_Judge_takeTest 2 rfl) rfl (by decide) rfl ?_
  refine g_iload_n (i := 2) (j := 0) (dk_Judge_takeTest 3 rfl) rfl rfl ?_
  refine g_bipush (dk_Judge_takeTest 4 rfl) (by decide +kernel) (by decide) ?_
  refine g_icmp_eq 37 (dk_Judge_takeTest 5 rfl) (by decide) (fun b7 => ?_) (fun b7 => ?_)
  · have h := p_ifT b7 h
    refine g_sub [(0, p_r v0), (1, p_i v1), (2, p_i r6)] [1, 2, 0] rfl ?_
    exact tB_Judge_takeTest_37 K l v0 v1 r6 s2 _ h
  · have h := p_ifF b7 h
    refine g_iload_n (i := 2) (j := 0) (dk_Judge_takeTest 6 rfl) rfl rfl ?_
    refine g_bipush (dk_Judge_takeTest 7 rfl) (by decide +kernel) (by decide) ?_
    refine g_icmp_eq 37 (dk_Judge_takeTest 8 rfl) (by decide) (fun b8 => ?_) (fun b8 => ?_)
    · have h := p_ifT b8 h
      refine g_sub [(0, p_r v0), (1, p_i v1), (2, p_i r6)] [1, 2, 0] rfl ?_
      exact tB_Judge_takeTest_37 K l v0 v1 r6 s2 _ h
    · have h := p_ifF b8 h
      refine g_iload_n (i := 2) (j := 0) (dk_Judge_takeTest 9 rfl) rfl rfl ?_
      refine g_bipush (dk_Judge_takeTest 10 rfl) (by decide +kernel) (by decide) ?_
      refine g_icmp_eq 37 (dk_Judge_takeTest 11 rfl) (by decide) (fun b9 => ?_) (fun b9 => ?_)
      · have h := p_ifT b9 h
        refine g_sub [(0, p_r v0), (1, p_i v1), (2, p_i r6)] [1, 2, 0] rfl ?_
        exact tB_Judge_takeTest_37 K l v0 v1 r6 s2 _ h
      · have h := p_ifF b9 h
        refine g_iload_n (i := 2) (j := 0) (dk_Judge_takeTest 12 rfl) rfl rfl ?_
        refine g_bipush (dk_Judge_takeTest 13 rfl) (by decide +kernel) (by decide) ?_
        refine g_icmp_eq 37 (dk_Judge_takeTest 14 rfl) (by decide) (fun b10 => ?_) (fun b10 => ?_)
        · have h := p_ifT b10 h
          refine g_sub [(0, p_r v0), (1, p_i v1), (2, p_i r6)] [1, 2, 0] rfl ?_
          exact tB_Judge_takeTest_37 K l v0 v1 r6 s2 _ h
        · have h := p_ifF b10 h
          refine g_iload_n (i := 2) (j := 0) (dk_Judge_takeTest 15 rfl) rfl rfl ?_
          refine g_bipush (dk_Judge_takeTest 16 rfl) (by decide +kernel) (by decide) ?_
          refine g_icmp_eq 37 (dk_Judge_takeTest 17 rfl) (by decide) (fun b11 => ?_) (fun b11 => ?_)
          · have h := p_ifT b11 h
            refine g_sub [(0, p_r v0), (1, p_i v1), (2, p_i r6)] [1, 2, 0] rfl ?_
            exact tB_Judge_takeTest_37 K l v0 v1 r6 s2 _ h
          · have h := p_ifF b11 h
            refine g_iconst (dk_Judge_takeTest 18 rfl) (by decide) ?_
            cases h
            exact g_ret rfl rfl (dk_Judge_takeTest 19 rfl) (fun _ => ⟨_, rfl, Or.inl rfl⟩)
def m_Judge_takeTests : p_Me := (⟨"SortWorks$Judge", "takeTests", "(I)Z"⟩, prog_3_method_4_code, 3, (some .boolean), 3, 67)
theorem mt_Judge_takeTests : p_Mt m_Judge_takeTests 1 := ⟨p_mem (p_tb3 (List.mem_of_getElem? (i := 204) rfl)) rfl, tw_1_11, by decide +kernel, by decide +kernel, by decide +kernel⟩
def dt_Judge_takeTests : List (Nat × Instr × Nat) := [(0, .iconst 0, 1), (1, .istore_n 2, 1), (2, .iload_n 2, 1), (3, .iconst 4, 1), (4, .if_icmp .ge 46, 3), (7, .aload_n 0, 1), (8, .iconst 4, 1), (9, .iload_n 1, 1), (10, .imul, 1), (11, .iload_n 2, 1), (12, .iadd, 1), (13, .invokevirtual 55, 3), (16, .ifCond .ne 5, 3), (19, .iconst 0, 1), (20, .ireturn, 1), (21, .aload_n 0, 1), (22, .getfield 12, 3), (25, .getfield 39, 3), (28, .iload_n 1, 1), (29, .iload_n 2, 1), (30, .iconst 1, 1), (31, .iadd, 1), (32, .iastore, 1), (33, .aload_n 0, 1), (34, .bipush 44, 2), (36, .invokevirtual 49, 3), (39, .ifCond .ne 5, 3), (42, .iconst 1, 1), (43, .ireturn, 1), (44, .iinc 2 1, 3), (47, .goto (-45), 3), (50, .iconst 0, 1), (51, .ireturn, 1)]
theorem dk_Judge_takeTests (i : Nat) {pc : Nat} {ins : Instr} {len : Nat} (h : dt_Judge_takeTests[i]? = some (pc, ins, len)) : decode m_Judge_takeTests.2.1 pc = .ok (ins, len) := p_dk (b := m_Judge_takeTests.2.1) (t := dt_Judge_takeTests) (by decide +kernel) i h
def L_Judge_takeTests_2 (k2 : Nat → Int → Int → p_Hp → Option (Int × p_Hp)) (v0 : Nat) (v1 : Int) (v2 : Int) (s0 : p_Hp) : Option (Int × p_Hp) :=
  if 4 ≤ v2 then
    some (0, s0)
  else
    p_gd (p_is s0 v0 1) <|
    p_bd (F_Judge_takeTest v0 (p_w ((p_w (4 * v1)) + v2)) s0) fun r7 s3 =>
    if r7 ≠ 0 then
      p_gd (p_is s3 (p_R s3 v0 0) 6) <|
      p_gd (p_is s3 (p_R s3 (p_R s3 v0 0) 2) 100) <|
      p_gd ((0 : Int) ≤ v1 ∧ v1 < (p_L s3 (p_R s3 (p_R s3 v0 0) 2) : Int)) <|
      p_bi (p_wZ s3 (p_R s3 (p_R s3 v0 0) 2) (v1 : Int).toNat (p_w (v2 + 1))) fun s12 =>
      p_bd (F_Judge_take v0 44 s12) fun r18 s14 =>
      if r18 ≠ 0 then
        p_bi (p_w (v2 + 1)) fun x20 =>
        k2 v0 v1 x20 s14
      else
        some (1, s14)
    else
      some (0, s3)
def O_Judge_takeTests_2  : Nat → Nat → Int → Int → p_Hp → Option (Int × p_Hp)
  | 0 => fun _ _ _ _ => none
  | n + 1 => L_Judge_takeTests_2 (O_Judge_takeTests_2 n)
def F_Judge_takeTests (v0 : Nat) (v1 : Int) (s0 : p_Hp) : Option (Int × p_Hp) :=
  O_Judge_takeTests_2 3000 v0 v1 0 s0
set_option maxRecDepth 100000 in
set_option maxHeartbeats 4000000 in
theorem tL_Judge_takeTests_2 (K : p_K) (l : Launch) (k2 : Nat → Int → Int → p_Hp → Option (Int × p_Hp)) (hk2 : ∀ (v0 : Nat) (v1 : Int) (v2 : Int)  (s0 : p_Hp) (r : (Int × p_Hp)), k2 v0 v1 v2 s0 = some r → p_Go K l m_Judge_takeTests 2 [(0, p_r v0), (1, p_i v1), (2, p_i v2)] [] s0 (some (p_i r.1), r.2)) (v0 : Nat) (v1 : Int) (v2 : Int) (s0 : p_Hp) (r : (Int × p_Hp)) (h : L_Judge_takeTests_2 k2 v0 v1 v2 s0 = some r) : p_Go K l m_Judge_takeTests 2 [(0, p_r v0), (1, p_i v1), (2, p_i v2)] [] s0 (some (p_i r.1), r.2) := by
  unfold L_Judge_takeTests_2 at h
  refine g_iload_n (i := 2) (j := 2) (dk_Judge_takeTests 2 rfl) rfl rfl ?_
  refine g_iconst (dk_Judge_takeTests 3 rfl) (by decide) ?_
  refine g_icmp_ge 50 (dk_Judge_takeTests 4 rfl) (by decide) (fun b1 => ?_) (fun b1 => ?_)
  · have h := p_ifT b1 h
    refine g_iconst (dk_Judge_takeTests 31 rfl) (by decide) ?_
    cases h
    exact g_ret rfl rfl (dk_Judge_takeTests 32 rfl) (fun _ => ⟨_, rfl, Or.inl rfl⟩)
  · have h := p_ifF b1 h
    refine g_aload_n (i := 0) (j := 0) (dk_Judge_takeTests 5 rfl) rfl rfl ?_
    refine g_iconst (dk_Judge_takeTests 6 rfl) (by decide) ?_
    refine g_iload_n (i := 1) (j := 1) (dk_Judge_takeTests 7 rfl) rfl rfl ?_
    refine g_imul (dk_Judge_takeTests 8 rfl) ?_
    refine g_iload_n (i := 2) (j := 2) (dk_Judge_takeTests 9 rfl) rfl rfl ?_
    refine g_iadd (dk_Judge_takeTests 10 rfl) ?_
    obtain ⟨c2, h⟩ := p_gdE h
    obtain ⟨r7, s3, q4, h⟩ := p_bdE h
    have t5 := tF_Judge_takeTest K l v0 (p_w ((p_w (4 * v1)) + v2)) s0 _ q4
    refine g_callV (a := v0) (ci := 1) (q0 := (RX1, TX1, 4)) (As := [p_i (p_w ((p_w (4 * v1)) + v2))]) (rest := []) [p_i r7] mt_Judge_takeTest rfl rfl tw_3_207 ts_6 tw_3_205 ⟨Nat.le_of_ble_eq_true rfl, Nat.le_of_ble_eq_true rfl⟩ rfl (Nat.le_of_ble_eq_true rfl) (dk_Judge_takeTests 11 rfl) rfl c2 rfl t5 ?_
    have hs6 : p_x s0 s3 := t5.1
    show p_Go K l m_Judge_takeTests 16 [(0, p_r v0), (1, p_i v1), (2, p_i v2)] [p_i r7] s3 _
    refine g_if_ne 21 (dk_Judge_takeTests 12 rfl) (by decide) (fun b8 => ?_) (fun b8 => ?_)
    · have h := p_ifT b8 h
      refine g_aload_n (i := 0) (j := 0) (dk_Judge_takeTests 15 rfl) rfl rfl ?_
      refine g_getR fl_Judge_12 (Or.inl ⟨_, rfl⟩) (dk_Judge_takeTests 16 rfl) (c2.up hs6) ?_
      obtain ⟨c9, h⟩ := p_gdE h
      refine g_getR fl_Judge_39 (Or.inr ⟨_, rfl⟩) (dk_Judge_takeTests 17 rfl) c9 ?_
      refine g_iload_n (i := 1) (j := 1) (dk_Judge_takeTests 18 rfl) rfl rfl ?_
      refine g_iload_n (i := 2) (j := 2) (dk_Judge_takeTests 19 rfl) rfl rfl ?_
      refine g_iconst (dk_Judge_takeTests 20 rfl) (by decide) ?_
      refine g_iadd (dk_Judge_takeTests 21 rfl) ?_
      obtain ⟨c10, h⟩ := p_gdE h
      obtain ⟨c11, h⟩ := p_gdE h
      refine g_iastore (dk_Judge_takeTests 22 rfl) c10 c11.1 c11.2 ?_
      refine p_ltS (P := fun q => p_Go K l m_Judge_takeTests 33 [(0, p_r v0), (1, p_i v1), (2, p_i v2)] [] q _) (p_xZ _ _ _ _) ?_ h
      intro s12 hs13 h
      refine g_aload_n (i := 0) (j := 0) (dk_Judge_takeTests 23 rfl) rfl rfl ?_
      refine g_bipush (dk_Judge_takeTests 24 rfl) (by decide +kernel) (by decide) ?_
      obtain ⟨r18, s14, q15, h⟩ := p_bdE h
      have t16 := tF_Judge_take K l v0 44 s12 _ q15
      refine g_callV (a := v0) (ci := 1) (q0 := (RX1, TX1, 4)) (As := [p_i 44]) (rest := []) [p_i r18] mt_Judge_take rfl rfl tw_3_211 ts_7 tw_3_209 ⟨Nat.le_of_ble_eq_true rfl, Nat.le_of_ble_eq_true rfl⟩ rfl (Nat.le_of_ble_eq_true rfl) (dk_Judge_takeTests 25 rfl) rfl (c2.up (hs6.trans hs13)) rfl t16 ?_
      have hs17 : p_x s12 s14 := t16.1
      show p_Go K l m_Judge_takeTests 39 [(0, p_r v0), (1, p_i v1), (2, p_i v2)] [p_i r18] s14 _
      refine g_if_ne 44 (dk_Judge_takeTests 26 rfl) (by decide) (fun b19 => ?_) (fun b19 => ?_)
      · have h := p_ifT b19 h
        refine g_iinc (j := 2) [(2, p_i (p_w (v2 + 1))), (0, p_r v0), (1, p_i v1)] (dk_Judge_takeTests 29 rfl) rfl (by decide) rfl ?_
        refine p_ltG (P := fun q => p_Go K l m_Judge_takeTests 47 [(2, p_i q), (0, p_r v0), (1, p_i v1)] [] s14 _) ?_ h
        intro x20 h
        refine g_goto 2 (dk_Judge_takeTests 30 rfl) (by decide) ?_
        refine g_sub [(0, p_r v0), (1, p_i v1), (2, p_i x20)] [1, 2, 0] rfl ?_
        exact hk2 v0 v1 x20 s14 _ h
      · have h := p_ifF b19 h
        refine g_iconst (dk_Judge_takeTests 27 rfl) (by decide) ?_
        cases h
        exact g_ret rfl rfl (dk_Judge_takeTests 28 rfl) (fun _ => ⟨_, rfl, Or.inr rfl⟩)
    · have h := p_ifF b8 h
      refine g_iconst (dk_Judge_takeTests 13 rfl) (by decide) ?_
      cases h
      exact g_ret rfl rfl (dk_Judge_takeTests 14 rfl) (fun _ => ⟨_, rfl, Or.inl rfl⟩)
set_option maxRecDepth 100000 in
set_option maxHeartbeats 4000000 in
theorem tO_Judge_takeTests_2 (K : p_K) (l : Launch)  : ∀ (n : Nat) (v0 : Nat) (v1 : Int) (v2 : Int) (s0 : p_Hp) (r : (Int × p_Hp)), O_Judge_takeTests_2 n v0 v1 v2 s0 = some r → p_Go K l m_Judge_takeTests 2 [(0, p_r v0), (1, p_i v1), (2, p_i v2)] [] s0 (some (p_i r.1), r.2) := by
  intro n
  induction n with
  | zero => intro v0 v1 v2 s0 r h; cases (show (none : Option (Int × p_Hp)) = some r from h)
  | succ n ih => intro v0 v1 v2 s0 r h; exact tL_Judge_takeTests_2 K l _ ih v0 v1 v2 s0 r h
set_option maxRecDepth 100000 in
set_option maxHeartbeats 4000000 in
theorem tF_Judge_takeTests (K : p_K) (l : Launch) (v0 : Nat) (v1 : Int) (s0 : p_Hp) (r : (Int × p_Hp)) (h : F_Judge_takeTests v0 v1 s0 = some r) : p_Ct K l m_Judge_takeTests [p_r v0, p_i v1] s0 (some (p_i r.1), r.2) := by
  refine p_Ct.of (by decide +kernel) (Nat.le_of_ble_eq_true rfl) ?_
  unfold F_Judge_takeTests at h
  show p_Go K l m_Judge_takeTests 0 [(0, p_r v0), (1, p_i v1)] [] s0 _
  refine g_iconst (dk_Judge_takeTests 0 rfl) (by decide) ?_
  refine g_istore_n (i := 2) [(2, p_i 0), (0, p_r v0), (1, p_i v1)] (dk_Judge_takeTests 1 rfl) rfl (by decide) rfl ?_
  refine g_sub [(0, p_r v0), (1, p_i v1), (2, p_i 0)] [1, 2, 0] rfl ?_
  exact tO_Judge_takeTests_2 K l 3000 v0 v1 0 s0 _ h
def m_Judge_takeTold : p_Me := (⟨"SortWorks$Judge", "takeTold", "(I)Z"⟩, prog_3_method_6_code, 5, (some .boolean), 2, 44)
theorem mt_Judge_takeTold : p_Mt m_Judge_takeTold 1 := ⟨p_mem (p_tb3 (List.mem_of_getElem? (i := 220) rfl)) rfl, tw_1_11, by decide +kernel, by decide +kernel, by decide +kernel⟩
def dt_Judge_takeTold : List (Nat × Instr × Nat) := [(0, .aload_n 0, 1), (1, .getfield 26, 3), (4, .istore_n 2, 1), (5, .aload_n 0, 1), (6, .invokevirtual 64, 3), (9, .istore_n 3, 1), (10, .iload_n 3, 1), (11, .iconst (-1), 1), (12, .if_icmp .ne 5, 3), (15, .iconst 0, 1), (16, .ireturn, 1), (17, .aload_n 0, 1), (18, .getfield 26, 3), (21, .iload_n 2, 1), (22, .isub, 1), (23, .iconst 4, 1), (24, .if_icmp .eq 14, 3), (27, .aload_n 0, 1), (28, .getfield 26, 3), (31, .aload_n 0, 1), (32, .getfield 22, 3), (35, .if_icmp .ge 7, 3), (38, .iconst 1, 1), (39, .goto 4, 3), (42, .iconst 0, 1), (43, .istore 4, 2), (45, .iload_n 3, 1), (46, .bipush 40, 2), (48, .if_icmp .lt 15, 3), (51, .iload 4, 2), (53, .ifCond .eq 10, 3), (56, .aload_n 0, 1), (57, .iload_n 2, 1), (58, .putfield 26, 3), (61, .iconst 0, 1), (62, .ireturn, 1), (63, .aload_n 0, 1), (64, .getfield 12, 3), (67, .getfield 73, 3), (70, .iload_n 1, 1), (71, .iload_n 3, 1), (72, .iastore, 1), (73, .iconst 1, 1), (74, .ireturn, 1)]
theorem dk_Judge_takeTold (i : Nat) {pc : Nat} {ins : Instr} {len : Nat} (h : dt_Judge_takeTold[i]? = some (pc, ins, len)) : decode m_Judge_takeTold.2.1 pc = .ok (ins, len) := p_dk (b := m_Judge_takeTold.2.1) (t := dt_Judge_takeTold) (by decide +kernel) i h
def B_Judge_takeTold_63  (v0 : Nat) (v1 : Int) (v3 : Int) (s0 : p_Hp) : Option (Int × p_Hp) :=
  p_gd (p_is s0 v0 1) <|
  p_gd (p_is s0 (p_R s0 v0 0) 6) <|
  p_gd (p_is s0 (p_R s0 (p_R s0 v0 0) 1) 100) <|
  p_gd ((0 : Int) ≤ v1 ∧ v1 < (p_L s0 (p_R s0 (p_R s0 v0 0) 1) : Int)) <|
  p_bi (p_wZ s0 (p_R s0 (p_R s0 v0 0) 1) (v1 : Int).toNat v3) fun s5 =>
  some (1, s5)
def B_Judge_takeTold_43  (v0 : Nat) (v1 : Int) (v2 : Int) (v3 : Int) (w0 : Int) (s0 : p_Hp) : Option (Int × p_Hp) :=
  if v3 < 40 then
    B_Judge_takeTold_63 v0 v1 v3 s0
  else
    if w0 = 0 then
      B_Judge_takeTold_63 v0 v1 v3 s0
    else
      p_gd (p_is s0 v0 1) <|
      p_bi (p_wZ s0 v0 3 v2) fun s4 =>
      some (0, s4)
def B_Judge_takeTold_38  (v0 : Nat) (v1 : Int) (v2 : Int) (v3 : Int) (s0 : p_Hp) : Option (Int × p_Hp) :=
  B_Judge_takeTold_43 v0 v1 v2 v3 1 s0
def F_Judge_takeTold (v0 : Nat) (v1 : Int) (s0 : p_Hp) : Option (Int × p_Hp) :=
  p_gd (p_is s0 v0 1) <|
  p_bi ((p_Z s0 v0 3)) fun x2 =>
  p_bd (F_Judge_takeNumber v0 s0) fun r7 s3 =>
  if r7 ≠ (-1) then
    if (p_w ((p_Z s3 v0 3) - x2)) = 4 then
      B_Judge_takeTold_38 v0 v1 x2 r7 s3
    else
      if (p_Z s3 v0 2) ≤ (p_Z s3 v0 3) then
        B_Judge_takeTold_43 v0 v1 x2 r7 0 s3
      else
        B_Judge_takeTold_38 v0 v1 x2 r7 s3
  else
    some (0, s3)
set_option maxRecDepth 100000 in
set_option maxHeartbeats 4000000 in
theorem tB_Judge_takeTold_63 (K : p_K) (l : Launch)  (v0 : Nat) (v1 : Int) (v3 : Int) (s0 : p_Hp) (r : (Int × p_Hp)) (h : B_Judge_takeTold_63 v0 v1 v3 s0 = some r) : p_Go K l m_Judge_takeTold 63 [(0, p_r v0), (1, p_i v1), (3, p_i v3)] [] s0 (some (p_i r.1), r.2) := by
  unfold B_Judge_takeTold_63 at h
  refine g_aload_n (i := 0) (j := 0) (dk_Judge_takeTold 36 rfl) rfl rfl ?_
  obtain ⟨c1, h⟩ := p_gdE h
  refine g_getR fl_Judge_12 (Or.inl ⟨_, rfl⟩) (dk_Judge_takeTold 37 rfl) c1 ?_
  obtain ⟨c2, h⟩ := p_gdE h
  refine g_getR fl_Judge_73 (Or.inr ⟨_, rfl⟩) (dk_Judge_takeTold 38 rfl) c2 ?_
  refine g_iload_n (i := 1) (j := 1) (dk_Judge_takeTold 39 rfl) rfl rfl ?_
  refine g_iload_n (i := 3) (j := 2) (dk_Judge_takeTold 40 rfl) rfl rfl ?_
  obtain ⟨c3, h⟩ := p_gdE h
  obtain ⟨c4, h⟩ := p_gdE h
  refine g_iastore (dk_Judge_takeTold 41 rfl) c3 c4.1 c4.2 ?_
  refine p_ltS (P := fun q => p_Go K l m_Judge_takeTold 73 [(0, p_r v0), (1, p_i v1), (3, p_i v3)] [] q _) (p_xZ _ _ _ _) ?_ h
  intro s5 hs6 h
  refine g_iconst (dk_Judge_takeTold 42 rfl) (by decide) ?_
  cases h
  exact g_ret rfl rfl (dk_Judge_takeTold 43 rfl) (fun _ => ⟨_, rfl, Or.inr rfl⟩)
set_option maxRecDepth 100000 in
set_option maxHeartbeats 4000000 in
theorem tB_Judge_takeTold_43 (K : p_K) (l : Launch)  (v0 : Nat) (v1 : Int) (v2 : Int) (v3 : Int) (w0 : Int) (s0 : p_Hp) (r : (Int × p_Hp)) (h : B_Judge_takeTold_43 v0 v1 v2 v3 w0 s0 = some r) : p_Go K l m_Judge_takeTold 43 [(0, p_r v0), (1, p_i v1), (2, p_i v2), (3, p_i v3)] [p_i w0] s0 (some (p_i r.1), r.2) := by
  unfold B_Judge_takeTold_43 at h
  refine g_istore [(4, p_i w0), (0, p_r v0), (1, p_i v1), (2, p_i v2), (3, p_i v3)] (dk_Judge_takeTold 25 rfl) (by decide) rfl ?_
  refine g_iload_n (i := 3) (j := 4) (dk_Judge_takeTold 26 rfl) rfl rfl ?_
  refine g_bipush (dk_Judge_takeTold 27 rfl) (by decide +kernel) (by decide) ?_
  refine g_icmp_lt 63 (dk_Judge_takeTold 28 rfl) (by decide) (fun b1 => ?_) (fun b1 => ?_)
  · have h := p_ifT b1 h
    refine g_sub [(0, p_r v0), (1, p_i v1), (3, p_i v3)] [1, 2, 4] rfl ?_
    exact tB_Judge_takeTold_63 K l v0 v1 v3 s0 _ h
  · have h := p_ifF b1 h
    refine g_iload (j := 0) (dk_Judge_takeTold 29 rfl) rfl ?_
    refine g_if_eq 63 (dk_Judge_takeTold 30 rfl) (by decide) (fun b2 => ?_) (fun b2 => ?_)
    · have h := p_ifT b2 h
      refine g_sub [(0, p_r v0), (1, p_i v1), (3, p_i v3)] [1, 2, 4] rfl ?_
      exact tB_Judge_takeTold_63 K l v0 v1 v3 s0 _ h
    · have h := p_ifF b2 h
      refine g_aload_n (i := 0) (j := 1) (dk_Judge_takeTold 31 rfl) rfl rfl ?_
      refine g_iload_n (i := 2) (j := 3) (dk_Judge_takeTold 32 rfl) rfl rfl ?_
      obtain ⟨c3, h⟩ := p_gdE h
      refine g_putI fl_Judge_26 (Or.inl rfl) (dk_Judge_takeTold 33 rfl) c3 ?_
      refine p_ltS (P := fun q => p_Go K l m_Judge_takeTold 61 [(4, p_i w0), (0, p_r v0), (1, p_i v1), (2, p_i v2), (3, p_i v3)] [] q _) (p_xZ _ _ _ _) ?_ h
      intro s4 hs5 h
      refine g_iconst (dk_Judge_takeTold 34 rfl) (by decide) ?_
      cases h
      exact g_ret rfl rfl (dk_Judge_takeTold 35 rfl) (fun _ => ⟨_, rfl, Or.inl rfl⟩)
set_option maxRecDepth 100000 in
set_option maxHeartbeats 4000000 in
theorem tB_Judge_takeTold_38 (K : p_K) (l : Launch)  (v0 : Nat) (v1 : Int) (v2 : Int) (v3 : Int) (s0 : p_Hp) (r : (Int × p_Hp)) (h : B_Judge_takeTold_38 v0 v1 v2 v3 s0 = some r) : p_Go K l m_Judge_takeTold 38 [(0, p_r v0), (1, p_i v1), (2, p_i v2), (3, p_i v3)] [] s0 (some (p_i r.1), r.2) := by
  unfold B_Judge_takeTold_38 at h
  refine g_iconst (dk_Judge_takeTold 22 rfl) (by decide) ?_
  refine g_goto 43 (dk_Judge_takeTold 23 rfl) (by decide) ?_
  exact tB_Judge_takeTold_43 K l v0 v1 v2 v3 1 s0 _ h
set_option maxRecDepth 100000 in
set_option maxHeartbeats 4000000 in
theorem tF_Judge_takeTold (K : p_K) (l : Launch) (v0 : Nat) (v1 : Int) (s0 : p_Hp) (r : (Int × p_Hp)) (h : F_Judge_takeTold v0 v1 s0 = some r) : p_Ct K l m_Judge_takeTold [p_r v0, p_i v1] s0 (some (p_i r.1), r.2) := by
  refine p_Ct.of (by decide +kernel) (Nat.le_of_ble_eq_true rfl) ?_
  unfold F_Judge_takeTold at h
  show p_Go K l m_Judge_takeTold 0 [(0, p_r v0), (1, p_i v1)] [] s0 _
  refine g_aload_n (i := 0) (j := 0) (dk_Judge_takeTold 0 rfl) rfl rfl ?_
  obtain ⟨c1, h⟩ := p_gdE h
  refine g_getI fl_Judge_26 (Or.inl rfl) (dk_Judge_takeTold 1 rfl) c1 ?_
  refine g_istore_n (i := 2) [(2, p_i (p_Z s0 v0 3)), (0, p_r v0), (1, p_i v1)] (dk_Judge_takeTold 2 rfl) rfl (by decide) rfl ?_
  refine p_ltG (P := fun q => p_Go K l m_Judge_takeTold 5 [(2, p_i q), (0, p_r v0), (1, p_i v1)] [] s0 _) ?_ h
  intro x2 h
  refine g_aload_n (i := 0) (j := 1) (dk_Judge_takeTold 3 rfl) rfl rfl ?_
  obtain ⟨r7, s3, q4, h⟩ := p_bdE h
  have t5 := tF_Judge_takeNumber K l v0 s0 _ q4
  refine g_callV (a := v0) (ci := 1) (q0 := (RX1, TX1, 4)) (As := []) (rest := []) [p_i r7] mt_Judge_takeNumber rfl rfl tw_3_215 ts_8 tw_3_213 ⟨Nat.le_of_ble_eq_true rfl, Nat.le_of_ble_eq_true rfl⟩ rfl (Nat.le_of_ble_eq_true rfl) (dk_Judge_takeTold 4 rfl) rfl c1 rfl t5 ?_
  have hs6 : p_x s0 s3 := t5.1
  show p_Go K l m_Judge_takeTold 9 [(2, p_i x2), (0, p_r v0), (1, p_i v1)] [p_i r7] s3 _
  refine g_istore_n (i := 3) [(3, p_i r7), (2, p_i x2), (0, p_r v0), (1, p_i v1)] (dk_Judge_takeTold 5 rfl) rfl (by decide) rfl ?_
  refine g_iload_n (i := 3) (j := 0) (dk_Judge_takeTold 6 rfl) rfl rfl ?_
  refine g_iconst (dk_Judge_takeTold 7 rfl) (by decide) ?_
  refine g_icmp_ne 17 (dk_Judge_takeTold 8 rfl) (by decide) (fun b8 => ?_) (fun b8 => ?_)
  · have h := p_ifT b8 h
    refine g_aload_n (i := 0) (j := 2) (dk_Judge_takeTold 11 rfl) rfl rfl ?_
    refine g_getI fl_Judge_26 (Or.inl rfl) (dk_Judge_takeTold 12 rfl) (c1.up hs6) ?_
    refine g_iload_n (i := 2) (j := 1) (dk_Judge_takeTold 13 rfl) rfl rfl ?_
    refine g_isub (dk_Judge_takeTold 14 rfl) ?_
    refine g_iconst (dk_Judge_takeTold 15 rfl) (by decide) ?_
    refine g_icmp_eq 38 (dk_Judge_takeTold 16 rfl) (by decide) (fun b9 => ?_) (fun b9 => ?_)
    · have h := p_ifT b9 h
      refine g_sub [(0, p_r v0), (1, p_i v1), (2, p_i x2), (3, p_i r7)] [2, 3, 1, 0] rfl ?_
      exact tB_Judge_takeTold_38 K l v0 v1 x2 r7 s3 _ h
    · have h := p_ifF b9 h
      refine g_aload_n (i := 0) (j := 2) (dk_Judge_takeTold 17 rfl) rfl rfl ?_
      refine g_getI fl_Judge_26 (Or.inl rfl) (dk_Judge_takeTold 18 rfl) (c1.up hs6) ?_
      refine g_aload_n (i := 0) (j := 2) (dk_Judge_takeTold 19 rfl) rfl rfl ?_
      refine g_getI fl_Judge_22 (Or.inl rfl) (dk_Judge_takeTold 20 rfl) (c1.up hs6) ?_
      refine g_icmp_ge 42 (dk_Judge_takeTold 21 rfl) (by decide) (fun b10 => ?_) (fun b10 => ?_)
      · have h := p_ifT b10 h
        refine g_iconst (dk_Judge_takeTold 24 rfl) (by decide) ?_
        refine g_sub [(0, p_r v0), (1, p_i v1), (2, p_i x2), (3, p_i r7)] [2, 3, 1, 0] rfl ?_
        exact tB_Judge_takeTold_43 K l v0 v1 x2 r7 0 s3 _ h
      · have h := p_ifF b10 h
        refine g_sub [(0, p_r v0), (1, p_i v1), (2, p_i x2), (3, p_i r7)] [2, 3, 1, 0] rfl ?_
        exact tB_Judge_takeTold_38 K l v0 v1 x2 r7 s3 _ h
  · have h := p_ifF b8 h
    refine g_iconst (dk_Judge_takeTold 9 rfl) (by decide) ?_
    cases h
    exact g_ret rfl rfl (dk_Judge_takeTold 10 rfl) (fun _ => ⟨_, rfl, Or.inl rfl⟩)
def m_Judge_takeRule : p_Me := (⟨"SortWorks$Judge", "takeRule", "(I)Z"⟩, prog_3_method_3_code, 2, (some .boolean), 4, 89)
theorem mt_Judge_takeRule : p_Mt m_Judge_takeRule 1 := ⟨p_mem (p_tb3 (List.mem_of_getElem? (i := 196) rfl)) rfl, tw_1_11, by decide +kernel, by decide +kernel, by decide +kernel⟩
def dt_Judge_takeRule : List (Nat × Instr × Nat) := [(0, .aload_n 0, 1), (1, .getfield 12, 3), (4, .getfield 39, 3), (7, .iload_n 1, 1), (8, .iconst 0, 1), (9, .iastore, 1), (10, .aload_n 0, 1), (11, .invokevirtual 42, 3), (14, .bipush 58, 2), (16, .if_icmp .eq 13, 3), (19, .aload_n 0, 1), (20, .iload_n 1, 1), (21, .invokevirtual 46, 3), (24, .ifCond .ne 5, 3), (27, .iconst 0, 1), (28, .ireturn, 1), (29, .aload_n 0, 1), (30, .bipush 58, 2), (32, .invokevirtual 49, 3), (35, .ifCond .eq 24, 3), (38, .aload_n 0, 1), (39, .iload_n 1, 1), (40, .invokevirtual 52, 3), (43, .ifCond .eq 16, 3), (46, .aload_n 0, 1), (47, .bipush 59, 2), (49, .invokevirtual 49, 3), (52, .ifCond .eq 7, 3), (55, .iconst 1, 1), (56, .goto 4, 3), (59, .iconst 0, 1), (60, .ireturn, 1)]
theorem dk_Judge_takeRule (i : Nat) {pc : Nat} {ins : Instr} {len : Nat} (h : dt_Judge_takeRule[i]? = some (pc, ins, len)) : decode m_Judge_takeRule.2.1 pc = .ok (ins, len) := p_dk (b := m_Judge_takeRule.2.1) (t := dt_Judge_takeRule) (by decide +kernel) i h
def B_Judge_takeRule_29  (v0 : Nat) (v1 : Int) (s0 : p_Hp) : Option (Int × p_Hp) :=
  p_gd (p_is s0 v0 1) <|
  p_bd (F_Judge_take v0 58 s0) fun r6 s2 =>
  if r6 = 0 then
    some (0, s2)
  else
    p_bd (F_Judge_takeTold v0 v1 s2) fun r12 s8 =>
    if r12 = 0 then
      some (0, s8)
    else
      p_bd (F_Judge_take v0 59 s8) fun r18 s14 =>
      if r18 = 0 then
        some (0, s14)
      else
        some (1, s14)
def F_Judge_takeRule (v0 : Nat) (v1 : Int) (s0 : p_Hp) : Option (Int × p_Hp) :=
  p_gd (p_is s0 v0 1) <|
  p_gd (p_is s0 (p_R s0 v0 0) 6) <|
  p_gd (p_is s0 (p_R s0 (p_R s0 v0 0) 2) 100) <|
  p_gd ((0 : Int) ≤ v1 ∧ v1 < (p_L s0 (p_R s0 (p_R s0 v0 0) 2) : Int)) <|
  p_bi (p_wZ s0 (p_R s0 (p_R s0 v0 0) 2) (v1 : Int).toNat 0) fun s5 =>
  p_bd (F_Judge_next v0 s5) fun r11 s7 =>
  if r11 = 58 then
    B_Judge_takeRule_29 v0 v1 s7
  else
    p_bd (F_Judge_takeTests v0 v1 s7) fun r17 s13 =>
    if r17 ≠ 0 then
      B_Judge_takeRule_29 v0 v1 s13
    else
      some (0, s13)
set_option maxRecDepth 100000 in
set_option maxHeartbeats 4000000 in
theorem tB_Judge_takeRule_29 (K : p_K) (l : Launch)  (v0 : Nat) (v1 : Int) (s0 : p_Hp) (r : (Int × p_Hp)) (h : B_Judge_takeRule_29 v0 v1 s0 = some r) : p_Go K l m_Judge_takeRule 29 [(0, p_r v0), (1, p_i v1)] [] s0 (some (p_i r.1), r.2) := by
  unfold B_Judge_takeRule_29 at h
  refine g_aload_n (i := 0) (j := 0) (dk_Judge_takeRule 16 rfl) rfl rfl ?_
  refine g_bipush (dk_Judge_takeRule 17 rfl) (by decide +kernel) (by decide) ?_
  obtain ⟨c1, h⟩ := p_gdE h
  obtain ⟨r6, s2, q3, h⟩ := p_bdE h
  have t4 := tF_Judge_take K l v0 58 s0 _ q3
  refine g_callV (a := v0) (ci := 1) (q0 := (RX1, TX1, 4)) (As := [p_i 58]) (rest := []) [p_i r6] mt_Judge_take rfl rfl tw_3_211 ts_7 tw_3_209 ⟨Nat.le_of_ble_eq_true rfl, Nat.le_of_ble_eq_true rfl⟩ rfl (Nat.le_of_ble_eq_true rfl) (dk_Judge_takeRule 18 rfl) rfl c1 rfl t4 ?_
  have hs5 : p_x s0 s2 := t4.1
  show p_Go K l m_Judge_takeRule 35 [(0, p_r v0), (1, p_i v1)] [p_i r6] s2 _
  refine g_if_eq 59 (dk_Judge_takeRule 19 rfl) (by decide) (fun b7 => ?_) (fun b7 => ?_)
  · have h := p_ifT b7 h
    refine g_iconst (dk_Judge_takeRule 30 rfl) (by decide) ?_
    cases h
    exact g_ret rfl rfl (dk_Judge_takeRule 31 rfl) (fun _ => ⟨_, rfl, Or.inl rfl⟩)
  · have h := p_ifF b7 h
    refine g_aload_n (i := 0) (j := 0) (dk_Judge_takeRule 20 rfl) rfl rfl ?_
    refine g_iload_n (i := 1) (j := 1) (dk_Judge_takeRule 21 rfl) rfl rfl ?_
    obtain ⟨r12, s8, q9, h⟩ := p_bdE h
    have t10 := tF_Judge_takeTold K l v0 v1 s2 _ q9
    refine g_callV (a := v0) (ci := 1) (q0 := (RX1, TX1, 4)) (As := [p_i v1]) (rest := []) [p_i r12] mt_Judge_takeTold rfl rfl tw_3_219 ts_9 tw_3_217 ⟨Nat.le_of_ble_eq_true rfl, Nat.le_of_ble_eq_true rfl⟩ rfl (Nat.le_of_ble_eq_true rfl) (dk_Judge_takeRule 22 rfl) rfl (c1.up hs5) rfl t10 ?_
    have hs11 : p_x s2 s8 := t10.1
    show p_Go K l m_Judge_takeRule 43 [(0, p_r v0), (1, p_i v1)] [p_i r12] s8 _
    refine g_if_eq 59 (dk_Judge_takeRule 23 rfl) (by decide) (fun b13 => ?_) (fun b13 => ?_)
    · have h := p_ifT b13 h
      refine g_iconst (dk_Judge_takeRule 30 rfl) (by decide) ?_
      cases h
      exact g_ret rfl rfl (dk_Judge_takeRule 31 rfl) (fun _ => ⟨_, rfl, Or.inl rfl⟩)
    · have h := p_ifF b13 h
      refine g_aload_n (i := 0) (j := 0) (dk_Judge_takeRule 24 rfl) rfl rfl ?_
      refine g_bipush (dk_Judge_takeRule 25 rfl) (by decide +kernel) (by decide) ?_
      obtain ⟨r18, s14, q15, h⟩ := p_bdE h
      have t16 := tF_Judge_take K l v0 59 s8 _ q15
      refine g_callV (a := v0) (ci := 1) (q0 := (RX1, TX1, 4)) (As := [p_i 59]) (rest := []) [p_i r18] mt_Judge_take rfl rfl tw_3_211 ts_7 tw_3_209 ⟨Nat.le_of_ble_eq_true rfl, Nat.le_of_ble_eq_true rfl⟩ rfl (Nat.le_of_ble_eq_true rfl) (dk_Judge_takeRule 26 rfl) rfl (c1.up (hs5.trans hs11)) rfl t16 ?_
      have hs17 : p_x s8 s14 := t16.1
      show p_Go K l m_Judge_takeRule 52 [(0, p_r v0), (1, p_i v1)] [p_i r18] s14 _
      refine g_if_eq 59 (dk_Judge_takeRule 27 rfl) (by decide) (fun b19 => ?_) (fun b19 => ?_)
      · have h := p_ifT b19 h
        refine g_iconst (dk_Judge_takeRule 30 rfl) (by decide) ?_
        cases h
        exact g_ret rfl rfl (dk_Judge_takeRule 31 rfl) (fun _ => ⟨_, rfl, Or.inl rfl⟩)
      · have h := p_ifF b19 h
        refine g_iconst (dk_Judge_takeRule 28 rfl) (by decide) ?_
        refine g_goto 60 (dk_Judge_takeRule 29 rfl) (by decide) ?_
        cases h
        exact g_ret rfl rfl (dk_Judge_takeRule 31 rfl) (fun _ => ⟨_, rfl, Or.inr rfl⟩)
set_option maxRecDepth 100000 in
set_option maxHeartbeats 4000000 in
theorem tF_Judge_takeRule (K : p_K) (l : Launch) (v0 : Nat) (v1 : Int) (s0 : p_Hp) (r : (Int × p_Hp)) (h : F_Judge_takeRule v0 v1 s0 = some r) : p_Ct K l m_Judge_takeRule [p_r v0, p_i v1] s0 (some (p_i r.1), r.2) := by
  refine p_Ct.of (by decide +kernel) (Nat.le_of_ble_eq_true rfl) ?_
  unfold F_Judge_takeRule at h
  show p_Go K l m_Judge_takeRule 0 [(0, p_r v0), (1, p_i v1)] [] s0 _
  refine g_aload_n (i := 0) (j := 0) (dk_Judge_takeRule 0 rfl) rfl rfl ?_
  obtain ⟨c1, h⟩ := p_gdE h
  refine g_getR fl_Judge_12 (Or.inl ⟨_, rfl⟩) (dk_Judge_takeRule 1 rfl) c1 ?_
  obtain ⟨c2, h⟩ := p_gdE h
  refine g_getR fl_Judge_39 (Or.inr ⟨_, rfl⟩) (dk_Judge_takeRule 2 rfl) c2 ?_
  refine g_iload_n (i := 1) (j := 1) (dk_Judge_takeRule 3 rfl) rfl rfl ?_
  refine g_iconst (dk_Judge_takeRule 4 rfl) (by decide) ?_
  obtain ⟨c3, h⟩ := p_gdE h
  obtain ⟨c4, h⟩ := p_gdE h
  refine g_iastore (dk_Judge_takeRule 5 rfl) c3 c4.1 c4.2 ?_
  refine p_ltS (P := fun q => p_Go K l m_Judge_takeRule 10 [(0, p_r v0), (1, p_i v1)] [] q _) (p_xZ _ _ _ _) ?_ h
  intro s5 hs6 h
  refine g_aload_n (i := 0) (j := 0) (dk_Judge_takeRule 6 rfl) rfl rfl ?_
  obtain ⟨r11, s7, q8, h⟩ := p_bdE h
  have t9 := tF_Judge_next K l v0 s5 _ q8
  refine g_callV (a := v0) (ci := 1) (q0 := (RX1, TX1, 4)) (As := []) (rest := []) [p_i r11] mt_Judge_next rfl rfl tw_3_199 ts_4 tw_3_197 ⟨Nat.le_of_ble_eq_true rfl, Nat.le_of_ble_eq_true rfl⟩ rfl (Nat.le_of_ble_eq_true rfl) (dk_Judge_takeRule 7 rfl) rfl (c1.up hs6) rfl t9 ?_
  have hs10 : p_x s5 s7 := t9.1
  show p_Go K l m_Judge_takeRule 14 [(0, p_r v0), (1, p_i v1)] [p_i r11] s7 _
  refine g_bipush (dk_Judge_takeRule 8 rfl) (by decide +kernel) (by decide) ?_
  refine g_icmp_eq 29 (dk_Judge_takeRule 9 rfl) (by decide) (fun b12 => ?_) (fun b12 => ?_)
  · have h := p_ifT b12 h
    exact tB_Judge_takeRule_29 K l v0 v1 s7 _ h
  · have h := p_ifF b12 h
    refine g_aload_n (i := 0) (j := 0) (dk_Judge_takeRule 10 rfl) rfl rfl ?_
    refine g_iload_n (i := 1) (j := 1) (dk_Judge_takeRule 11 rfl) rfl rfl ?_
    obtain ⟨r17, s13, q14, h⟩ := p_bdE h
    have t15 := tF_Judge_takeTests K l v0 v1 s7 _ q14
    refine g_callV (a := v0) (ci := 1) (q0 := (RX1, TX1, 4)) (As := [p_i v1]) (rest := []) [p_i r17] mt_Judge_takeTests rfl rfl tw_3_203 ts_5 tw_3_201 ⟨Nat.le_of_ble_eq_true rfl, Nat.le_of_ble_eq_true rfl⟩ rfl (Nat.le_of_ble_eq_true rfl) (dk_Judge_takeRule 12 rfl) rfl (c1.up (hs6.trans hs10)) rfl t15 ?_
    have hs16 : p_x s7 s13 := t15.1
    show p_Go K l m_Judge_takeRule 24 [(0, p_r v0), (1, p_i v1)] [p_i r17] s13 _
    refine g_if_ne 29 (dk_Judge_takeRule 13 rfl) (by decide) (fun b18 => ?_) (fun b18 => ?_)
    · have h := p_ifT b18 h
      exact tB_Judge_takeRule_29 K l v0 v1 s13 _ h
    · have h := p_ifF b18 h
      refine g_iconst (dk_Judge_takeRule 14 rfl) (by decide) ?_
      cases h
      exact g_ret rfl rfl (dk_Judge_takeRule 15 rfl) (fun _ => ⟨_, rfl, Or.inl rfl⟩)
def m_Judge_wrongPlace : p_Me := (⟨"SortWorks$Judge", "wrongPlace", "([II)I"⟩, prog_3_method_2_code, 4, (some .int), 5, 110)
theorem mt_Judge_wrongPlace : p_Mt m_Judge_wrongPlace 2 := ⟨p_mem (p_tb3 (List.mem_of_getElem? (i := 192) rfl)) rfl, tw_1_11, by decide +kernel, by decide +kernel, by decide +kernel⟩
def dt_Judge_wrongPlace : List (Nat × Instr × Nat) := [(0, .aload_n 0, 1), (1, .aload_n 1, 1), (2, .putfield 18, 3), (5, .aload_n 0, 1), (6, .iload_n 2, 1), (7, .putfield 22, 3), (10, .aload_n 0, 1), (11, .iconst 0, 1), (12, .putfield 26, 3), (15, .aload_n 0, 1), (16, .getfield 12, 3), (19, .iconst 0, 1), (20, .putfield 29, 3), (23, .iconst 0, 1), (24, .istore_n 3, 1), (25, .iload_n 3, 1), (26, .bipush 12, 2), (28, .if_icmp .ge 45, 3), (31, .aload_n 0, 1), (32, .iload_n 3, 1), (33, .invokevirtual 32, 3), (36, .ifCond .ne 8, 3), (39, .aload_n 0, 1), (40, .getfield 26, 3), (43, .ireturn, 1), (44, .aload_n 0, 1), (45, .getfield 12, 3), (48, .iload_n 3, 1), (49, .iconst 1, 1), (50, .iadd, 1), (51, .putfield 36, 3), (54, .aload_n 0, 1), (55, .getfield 26, 3), (58, .aload_n 0, 1), (59, .getfield 22, 3), (62, .if_icmp .ne 5, 3), (65, .iconst (-1), 1), (66, .ireturn, 1), (67, .iinc 3 1, 3), (70, .goto (-45), 3), (73, .aload_n 0, 1), (74, .getfield 26, 3), (77, .ireturn, 1)]
theorem dk_Judge_wrongPlace (i : Nat) {pc : Nat} {ins : Instr} {len : Nat} (h : dt_Judge_wrongPlace[i]? = some (pc, ins, len)) : decode m_Judge_wrongPlace.2.1 pc = .ok (ins, len) := p_dk (b := m_Judge_wrongPlace.2.1) (t := dt_Judge_wrongPlace) (by decide +kernel) i h
def L_Judge_wrongPlace_25 (k25 : Nat → Int → p_Hp → Option (Int × p_Hp)) (v0 : Nat) (v3 : Int) (s0 : p_Hp) : Option (Int × p_Hp) :=
  if 12 ≤ v3 then
    p_gd (p_is s0 v0 1) <|
    some ((p_Z s0 v0 3), s0)
  else
    p_gd (p_is s0 v0 1) <|
    p_bd (F_Judge_takeRule v0 v3 s0) fun r8 s4 =>
    if r8 ≠ 0 then
      p_gd (p_is s4 (p_R s4 v0 0) 6) <|
      p_bi (p_wZ s4 (p_R s4 v0 0) 0 (p_w (v3 + 1))) fun s11 =>
      if (p_Z s11 v0 3) ≠ (p_Z s11 v0 2) then
        p_bi (p_w (v3 + 1)) fun x14 =>
        k25 v0 x14 s11
      else
        some ((-1), s11)
    else
      some ((p_Z s4 v0 3), s4)
def O_Judge_wrongPlace_25  : Nat → Nat → Int → p_Hp → Option (Int × p_Hp)
  | 0 => fun _ _ _ => none
  | n + 1 => L_Judge_wrongPlace_25 (O_Judge_wrongPlace_25 n)
def F_Judge_wrongPlace (v0 : Nat) (v1 : Nat) (v2 : Int) (s0 : p_Hp) : Option (Int × p_Hp) :=
  p_gd (p_is s0 v0 1) <|
  p_bi (p_wR s0 v0 1 v1) fun s2 =>
  p_bi (p_wZ s2 v0 2 v2) fun s4 =>
  p_bi (p_wZ s4 v0 3 0) fun s6 =>
  p_gd (p_is s6 (p_R s6 v0 0) 6) <|
  p_bi (p_wZ s6 (p_R s6 v0 0) 8 0) fun s9 =>
  O_Judge_wrongPlace_25 3000 v0 0 s9
set_option maxRecDepth 100000 in
set_option maxHeartbeats 4000000 in
theorem tL_Judge_wrongPlace_25 (K : p_K) (l : Launch) (k25 : Nat → Int → p_Hp → Option (Int × p_Hp)) (hk25 : ∀ (v0 : Nat) (v3 : Int)  (s0 : p_Hp) (r : (Int × p_Hp)), k25 v0 v3 s0 = some r → p_Go K l m_Judge_wrongPlace 25 [(0, p_r v0), (3, p_i v3)] [] s0 (some (p_i r.1), r.2)) (v0 : Nat) (v3 : Int) (s0 : p_Hp) (r : (Int × p_Hp)) (h : L_Judge_wrongPlace_25 k25 v0 v3 s0 = some r) : p_Go K l m_Judge_wrongPlace 25 [(0, p_r v0), (3, p_i v3)] [] s0 (some (p_i r.1), r.2) := by
  unfold L_Judge_wrongPlace_25 at h
  refine g_iload_n (i := 3) (j := 1) (dk_Judge_wrongPlace 15 rfl) rfl rfl ?_
  refine g_bipush (dk_Judge_wrongPlace 16 rfl) (by decide +kernel) (by decide) ?_
  refine g_icmp_ge 73 (dk_Judge_wrongPlace 17 rfl) (by decide) (fun b1 => ?_) (fun b1 => ?_)
  · have h := p_ifT b1 h
    refine g_aload_n (i := 0) (j := 0) (dk_Judge_wrongPlace 40 rfl) rfl rfl ?_
    obtain ⟨c2, h⟩ := p_gdE h
    refine g_getI fl_Judge_26 (Or.inl rfl) (dk_Judge_wrongPlace 41 rfl) c2 ?_
    cases h
    exact g_ret rfl rfl (dk_Judge_wrongPlace 42 rfl) (fun os => ⟨_, rfl, p_okh os⟩)
  · have h := p_ifF b1 h
    refine g_aload_n (i := 0) (j := 0) (dk_Judge_wrongPlace 18 rfl) rfl rfl ?_
    refine g_iload_n (i := 3) (j := 1) (dk_Judge_wrongPlace 19 rfl) rfl rfl ?_
    obtain ⟨c3, h⟩ := p_gdE h
    obtain ⟨r8, s4, q5, h⟩ := p_bdE h
    have t6 := tF_Judge_takeRule K l v0 v3 s0 _ q5
    refine g_callV (a := v0) (ci := 1) (q0 := (RX1, TX1, 4)) (As := [p_i v3]) (rest := []) [p_i r8] mt_Judge_takeRule rfl rfl tw_3_195 ts_3 tw_3_193 ⟨Nat.le_of_ble_eq_true rfl, Nat.le_of_ble_eq_true rfl⟩ rfl (Nat.le_of_ble_eq_true rfl) (dk_Judge_wrongPlace 20 rfl) rfl c3 rfl t6 ?_
    have hs7 : p_x s0 s4 := t6.1
    show p_Go K l m_Judge_wrongPlace 36 [(0, p_r v0), (3, p_i v3)] [p_i r8] s4 _
    refine g_if_ne 44 (dk_Judge_wrongPlace 21 rfl) (by decide) (fun b9 => ?_) (fun b9 => ?_)
    · have h := p_ifT b9 h
      refine g_aload_n (i := 0) (j := 0) (dk_Judge_wrongPlace 25 rfl) rfl rfl ?_
      refine g_getR fl_Judge_12 (Or.inl ⟨_, rfl⟩) (dk_Judge_wrongPlace 26 rfl) (c3.up hs7) ?_
      refine g_iload_n (i := 3) (j := 1) (dk_Judge_wrongPlace 27 rfl) rfl rfl ?_
      refine g_iconst (dk_Judge_wrongPlace 28 rfl) (by decide) ?_
      refine g_iadd (dk_Judge_wrongPlace 29 rfl) ?_
      obtain ⟨c10, h⟩ := p_gdE h
      refine g_putI fl_Judge_36 (Or.inl rfl) (dk_Judge_wrongPlace 30 rfl) c10 ?_
      refine p_ltS (P := fun q => p_Go K l m_Judge_wrongPlace 54 [(0, p_r v0), (3, p_i v3)] [] q _) (p_xZ _ _ _ _) ?_ h
      intro s11 hs12 h
      refine g_aload_n (i := 0) (j := 0) (dk_Judge_wrongPlace 31 rfl) rfl rfl ?_
      refine g_getI fl_Judge_26 (Or.inl rfl) (dk_Judge_wrongPlace 32 rfl) (c3.up (hs7.trans hs12)) ?_
      refine g_aload_n (i := 0) (j := 0) (dk_Judge_wrongPlace 33 rfl) rfl rfl ?_
      refine g_getI fl_Judge_22 (Or.inl rfl) (dk_Judge_wrongPlace 34 rfl) (c3.up (hs7.trans hs12)) ?_
      refine g_icmp_ne 67 (dk_Judge_wrongPlace 35 rfl) (by decide) (fun b13 => ?_) (fun b13 => ?_)
      · have h := p_ifT b13 h
        refine g_iinc (j := 1) [(3, p_i (p_w (v3 + 1))), (0, p_r v0)] (dk_Judge_wrongPlace 38 rfl) rfl (by decide) rfl ?_
        refine p_ltG (P := fun q => p_Go K l m_Judge_wrongPlace 70 [(3, p_i q), (0, p_r v0)] [] s11 _) ?_ h
        intro x14 h
        refine g_goto 25 (dk_Judge_wrongPlace 39 rfl) (by decide) ?_
        refine g_sub [(0, p_r v0), (3, p_i x14)] [1, 0] rfl ?_
        exact hk25 v0 x14 s11 _ h
      · have h := p_ifF b13 h
        refine g_iconst (dk_Judge_wrongPlace 36 rfl) (by decide) ?_
        cases h
        exact g_ret rfl rfl (dk_Judge_wrongPlace 37 rfl) (fun os => ⟨_, rfl, p_okh os⟩)
    · have h := p_ifF b9 h
      refine g_aload_n (i := 0) (j := 0) (dk_Judge_wrongPlace 22 rfl) rfl rfl ?_
      refine g_getI fl_Judge_26 (Or.inl rfl) (dk_Judge_wrongPlace 23 rfl) (c3.up hs7) ?_
      cases h
      exact g_ret rfl rfl (dk_Judge_wrongPlace 24 rfl) (fun os => ⟨_, rfl, p_okh os⟩)
set_option maxRecDepth 100000 in
set_option maxHeartbeats 4000000 in
theorem tO_Judge_wrongPlace_25 (K : p_K) (l : Launch)  : ∀ (n : Nat) (v0 : Nat) (v3 : Int) (s0 : p_Hp) (r : (Int × p_Hp)), O_Judge_wrongPlace_25 n v0 v3 s0 = some r → p_Go K l m_Judge_wrongPlace 25 [(0, p_r v0), (3, p_i v3)] [] s0 (some (p_i r.1), r.2) := by
  intro n
  induction n with
  | zero => intro v0 v3 s0 r h; cases (show (none : Option (Int × p_Hp)) = some r from h)
  | succ n ih => intro v0 v3 s0 r h; exact tL_Judge_wrongPlace_25 K l _ ih v0 v3 s0 r h
set_option maxRecDepth 100000 in
set_option maxHeartbeats 4000000 in
theorem tF_Judge_wrongPlace (K : p_K) (l : Launch) (v0 : Nat) (v1 : Nat) (v2 : Int) (s0 : p_Hp) (r : (Int × p_Hp)) (h : F_Judge_wrongPlace v0 v1 v2 s0 = some r) : p_Ct K l m_Judge_wrongPlace [p_r v0, p_r v1, p_i v2] s0 (some (p_i r.1), r.2) := by
  refine p_Ct.of (by decide +kernel) (Nat.le_of_ble_eq_true rfl) ?_
  unfold F_Judge_wrongPlace at h
  show p_Go K l m_Judge_wrongPlace 0 [(0, p_r v0), (1, p_r v1), (2, p_i v2)] [] s0 _
  refine g_aload_n (i := 0) (j := 0) (dk_Judge_wrongPlace 0 rfl) rfl rfl ?_
  refine g_aload_n (i := 1) (j := 1) (dk_Judge_wrongPlace 1 rfl) rfl rfl ?_
  obtain ⟨c1, h⟩ := p_gdE h
  refine g_putR fl_Judge_18 (Or.inr ⟨_, rfl⟩) (Or.inl rfl) (dk_Judge_wrongPlace 2 rfl) c1 ?_
  refine p_ltS (P := fun q => p_Go K l m_Judge_wrongPlace 5 [(0, p_r v0), (1, p_r v1), (2, p_i v2)] [] q _) (p_xR _ _ _ _) ?_ h
  intro s2 hs3 h
  refine g_aload_n (i := 0) (j := 0) (dk_Judge_wrongPlace 3 rfl) rfl rfl ?_
  refine g_iload_n (i := 2) (j := 2) (dk_Judge_wrongPlace 4 rfl) rfl rfl ?_
  refine g_putI fl_Judge_22 (Or.inl rfl) (dk_Judge_wrongPlace 5 rfl) (c1.up hs3) ?_
  refine p_ltS (P := fun q => p_Go K l m_Judge_wrongPlace 10 [(0, p_r v0), (1, p_r v1), (2, p_i v2)] [] q _) (p_xZ _ _ _ _) ?_ h
  intro s4 hs5 h
  refine g_aload_n (i := 0) (j := 0) (dk_Judge_wrongPlace 6 rfl) rfl rfl ?_
  refine g_iconst (dk_Judge_wrongPlace 7 rfl) (by decide) ?_
  refine g_putI fl_Judge_26 (Or.inl rfl) (dk_Judge_wrongPlace 8 rfl) (c1.up (hs3.trans hs5)) ?_
  refine p_ltS (P := fun q => p_Go K l m_Judge_wrongPlace 15 [(0, p_r v0), (1, p_r v1), (2, p_i v2)] [] q _) (p_xZ _ _ _ _) ?_ h
  intro s6 hs7 h
  refine g_aload_n (i := 0) (j := 0) (dk_Judge_wrongPlace 9 rfl) rfl rfl ?_
  refine g_getR fl_Judge_12 (Or.inl ⟨_, rfl⟩) (dk_Judge_wrongPlace 10 rfl) (c1.up (hs3.trans (hs5.trans hs7))) ?_
  refine g_iconst (dk_Judge_wrongPlace 11 rfl) (by decide) ?_
  obtain ⟨c8, h⟩ := p_gdE h
  refine g_putI fl_Judge_29 (Or.inl rfl) (dk_Judge_wrongPlace 12 rfl) c8 ?_
  refine p_ltS (P := fun q => p_Go K l m_Judge_wrongPlace 23 [(0, p_r v0), (1, p_r v1), (2, p_i v2)] [] q _) (p_xZ _ _ _ _) ?_ h
  intro s9 hs10 h
  refine g_iconst (dk_Judge_wrongPlace 13 rfl) (by decide) ?_
  refine g_istore_n (i := 3) [(3, p_i 0), (0, p_r v0), (1, p_r v1), (2, p_i v2)] (dk_Judge_wrongPlace 14 rfl) rfl (by decide) rfl ?_
  refine g_sub [(0, p_r v0), (3, p_i 0)] [1, 0] rfl ?_
  exact tO_Judge_wrongPlace_25 K l 3000 v0 0 s9 _ h
def m_SW_load : p_Me := (⟨"SortWorks", "load", "()I"⟩, prog_1_method_14_code, 2, (some .int), 6, 133)
theorem mt_SW_load : p_Mt m_SW_load 0 := ⟨p_mem (p_tb3 (List.mem_of_getElem? (i := 188) rfl)) rfl, tw_1_1, by decide +kernel, by decide +kernel, by decide +kernel⟩
def dt_SW_load : List (Nat × Instr × Nat) := [(0, .aload_n 0, 1), (1, .getfield 39, 3), (4, .aload_n 0, 1), (5, .getfield 43, 3), (8, .aload_n 0, 1), (9, .getfield 146, 3), (12, .invokevirtual 149, 3), (15, .istore_n 1, 1), (16, .aload_n 0, 1), (17, .iconst 0, 1), (18, .putfield 146, 3), (21, .iload_n 1, 1), (22, .iconst (-1), 1), (23, .if_icmp .eq 12, 3), (26, .aload_n 0, 1), (27, .bipush (-100), 2), (29, .iload_n 1, 1), (30, .isub, 1), (31, .invokevirtual 61, 3), (34, .ireturn, 1), (35, .aload_n 0, 1), (36, .getfield 18, 3), (39, .aload_n 0, 1), (40, .getfield 39, 3), (43, .getfield 153, 3), (46, .invokevirtual 157, 3), (49, .aload_n 0, 1), (50, .aload_n 0, 1), (51, .getfield 18, 3), (54, .getfield 161, 3), (57, .getfield 162, 3), (60, .invokevirtual 95, 3), (63, .ireturn, 1)]
theorem dk_SW_load (i : Nat) {pc : Nat} {ins : Instr} {len : Nat} (h : dt_SW_load[i]? = some (pc, ins, len)) : decode m_SW_load.2.1 pc = .ok (ins, len) := p_dk (b := m_SW_load.2.1) (t := dt_SW_load) (by decide +kernel) i h
def F_SW_load (v0 : Nat) (s0 : p_Hp) : Option (Int × p_Hp) :=
  p_gd (p_is s0 v0 10) <|
  p_gd (p_is s0 (p_R s0 v0 4) 1) <|
  p_bd (F_Judge_wrongPlace (p_R s0 v0 4) (p_R s0 v0 5) (p_Z s0 v0 6) s0) fun r7 s3 =>
  p_bi (p_wZ s3 v0 6 0) fun s8 =>
  if r7 = (-1) then
    p_gd (p_is s8 (p_R s8 v0 4) 1) <|
    p_gd (p_is s8 (p_R s8 v0 1) 9) <|
    p_bv (F_Works_ruleBy (p_R s8 v0 1) (p_R s8 (p_R s8 v0 4) 0) s8) fun s13 =>
    p_gd (p_is s13 (p_R s13 v0 1) 9) <|
    p_gd (p_is s13 (p_R s13 (p_R s13 v0 1) 3) 6) <|
    p_bd (F_SW_built v0 (p_Z s13 (p_R s13 (p_R s13 v0 1) 3) 0) s13) fun r23 s19 =>
    some (r23, s19)
  else
    p_bd (F_SW_refuse v0 (p_w ((-100) - r7)) s8) fun r28 s24 =>
    some (r28, s24)
set_option maxRecDepth 100000 in
set_option maxHeartbeats 4000000 in
theorem tF_SW_load (K : p_K) (l : Launch) (v0 : Nat) (s0 : p_Hp) (r : (Int × p_Hp)) (h : F_SW_load v0 s0 = some r) : p_Ct K l m_SW_load [p_r v0] s0 (some (p_i r.1), r.2) := by
  refine p_Ct.of (by decide +kernel) (Nat.le_of_ble_eq_true rfl) ?_
  unfold F_SW_load at h
  show p_Go K l m_SW_load 0 [(0, p_r v0)] [] s0 _
  refine g_aload_n (i := 0) (j := 0) (dk_SW_load 0 rfl) rfl rfl ?_
  obtain ⟨c1, h⟩ := p_gdE h
  refine g_getR fl_SW_39 (Or.inl ⟨_, rfl⟩) (dk_SW_load 1 rfl) c1 ?_
  refine g_aload_n (i := 0) (j := 0) (dk_SW_load 2 rfl) rfl rfl ?_
  refine g_getR fl_SW_43 (Or.inr ⟨_, rfl⟩) (dk_SW_load 3 rfl) c1 ?_
  refine g_aload_n (i := 0) (j := 0) (dk_SW_load 4 rfl) rfl rfl ?_
  refine g_getI fl_SW_146 (Or.inl rfl) (dk_SW_load 5 rfl) c1 ?_
  obtain ⟨c2, h⟩ := p_gdE h
  obtain ⟨r7, s3, q4, h⟩ := p_bdE h
  have t5 := tF_Judge_wrongPlace K l (p_R s0 v0 4) (p_R s0 v0 5) (p_Z s0 v0 6) s0 _ q4
  refine g_callV (a := (p_R s0 v0 4)) (ci := 1) (q0 := (RX1, TX1, 4)) (As := [p_r (p_R s0 v0 5), p_i (p_Z s0 v0 6)]) (rest := []) [p_i r7] mt_Judge_wrongPlace rfl rfl tw_3_190 tw_3_191 tw_3_189 ⟨Nat.le_of_ble_eq_true rfl, Nat.le_of_ble_eq_true rfl⟩ rfl (Nat.le_of_ble_eq_true rfl) (dk_SW_load 6 rfl) rfl c2 rfl t5 ?_
  have hs6 : p_x s0 s3 := t5.1
  show p_Go K l m_SW_load 15 [(0, p_r v0)] [p_i r7] s3 _
  refine g_istore_n (i := 1) [(1, p_i r7), (0, p_r v0)] (dk_SW_load 7 rfl) rfl (by decide) rfl ?_
  refine g_aload_n (i := 0) (j := 1) (dk_SW_load 8 rfl) rfl rfl ?_
  refine g_iconst (dk_SW_load 9 rfl) (by decide) ?_
  refine g_putI fl_SW_146 (Or.inl rfl) (dk_SW_load 10 rfl) (c1.up hs6) ?_
  refine p_ltS (P := fun q => p_Go K l m_SW_load 21 [(1, p_i r7), (0, p_r v0)] [] q _) (p_xZ _ _ _ _) ?_ h
  intro s8 hs9 h
  refine g_iload_n (i := 1) (j := 0) (dk_SW_load 11 rfl) rfl rfl ?_
  refine g_iconst (dk_SW_load 12 rfl) (by decide) ?_
  refine g_icmp_eq 35 (dk_SW_load 13 rfl) (by decide) (fun b10 => ?_) (fun b10 => ?_)
  · have h := p_ifT b10 h
    refine g_aload_n (i := 0) (j := 1) (dk_SW_load 20 rfl) rfl rfl ?_
    refine g_getR fl_SW_18 (Or.inl ⟨_, rfl⟩) (dk_SW_load 21 rfl) (c1.up (hs6.trans hs9)) ?_
    refine g_aload_n (i := 0) (j := 1) (dk_SW_load 22 rfl) rfl rfl ?_
    refine g_getR fl_SW_39 (Or.inl ⟨_, rfl⟩) (dk_SW_load 23 rfl) (c1.up (hs6.trans hs9)) ?_
    obtain ⟨c11, h⟩ := p_gdE h
    refine g_getR fl_SW_153 (Or.inl ⟨_, rfl⟩) (dk_SW_load 24 rfl) c11 ?_
    obtain ⟨c12, h⟩ := p_gdE h
    obtain ⟨s13, q14, h⟩ := p_bvE h
    have t15 := tF_Works_ruleBy K l (p_R s8 v0 1) (p_R s8 (p_R s8 v0 4) 0) s8 _ q14
    refine g_callV (a := (p_R s8 v0 1)) (ci := 9) (q0 := (RX9, TX9, 15)) (As := [p_r (p_R s8 (p_R s8 v0 4) 0)]) (rest := []) [] mt_Works_ruleBy rfl rfl tw_3_171 tw_3_172 tw_3_221 ⟨Nat.le_of_ble_eq_true rfl, Nat.le_of_ble_eq_true rfl⟩ rfl (Nat.le_of_ble_eq_true rfl) (dk_SW_load 25 rfl) rfl c12 rfl t15 ?_
    have hs16 : p_x s8 s13 := t15.1
    show p_Go K l m_SW_load 49 [(1, p_i r7), (0, p_r v0)] [] s13 _
    refine g_aload_n (i := 0) (j := 1) (dk_SW_load 26 rfl) rfl rfl ?_
    refine g_aload_n (i := 0) (j := 1) (dk_SW_load 27 rfl) rfl rfl ?_
    refine g_getR fl_SW_18 (Or.inl ⟨_, rfl⟩) (dk_SW_load 28 rfl) (c1.up (hs6.trans (hs9.trans hs16))) ?_
    obtain ⟨c17, h⟩ := p_gdE h
    refine g_getR fl_SW_161 (Or.inl ⟨_, rfl⟩) (dk_SW_load 29 rfl) c17 ?_
    obtain ⟨c18, h⟩ := p_gdE h
    refine g_getI fl_SW_162 (Or.inl rfl) (dk_SW_load 30 rfl) c18 ?_
    obtain ⟨r23, s19, q20, h⟩ := p_bdE h
    have t21 := tF_SW_built K l v0 (p_Z s13 (p_R s13 (p_R s13 v0 1) 3) 0) s13 _ q20
    refine g_callV (a := v0) (ci := 10) (q0 := (RX10, TX10, 9)) (As := [p_i (p_Z s13 (p_R s13 (p_R s13 v0 1) 3) 0)]) (rest := []) [p_i r23] mt_SW_built rfl rfl tw_3_93 ts_2 tw_3_91 ⟨Nat.le_of_ble_eq_true rfl, Nat.le_of_ble_eq_true rfl⟩ rfl (Nat.le_of_ble_eq_true rfl) (dk_SW_load 31 rfl) rfl (c1.up (hs6.trans (hs9.trans hs16))) rfl t21 ?_
    have hs22 : p_x s13 s19 := t21.1
    show p_Go K l m_SW_load 63 [(1, p_i r7), (0, p_r v0)] [p_i r23] s19 _
    cases h
    exact g_ret rfl rfl (dk_SW_load 32 rfl) (fun os => ⟨_, rfl, p_okh os⟩)
  · have h := p_ifF b10 h
    refine g_aload_n (i := 0) (j := 1) (dk_SW_load 14 rfl) rfl rfl ?_
    refine g_bipush (dk_SW_load 15 rfl) (by decide +kernel) (by decide) ?_
    refine g_iload_n (i := 1) (j := 0) (dk_SW_load 16 rfl) rfl rfl ?_
    refine g_isub (dk_SW_load 17 rfl) ?_
    obtain ⟨r28, s24, q25, h⟩ := p_bdE h
    have t26 := tF_SW_refuse K l v0 (p_w ((-100) - r7)) s8 _ q25
    refine g_callV (a := v0) (ci := 10) (q0 := (RX10, TX10, 9)) (As := [p_i (p_w ((-100) - r7))]) (rest := []) [p_i r28] mt_SW_refuse rfl rfl tw_3_66 ts_0 tw_3_64 ⟨Nat.le_of_ble_eq_true rfl, Nat.le_of_ble_eq_true rfl⟩ rfl (Nat.le_of_ble_eq_true rfl) (dk_SW_load 18 rfl) rfl (c1.up (hs6.trans hs9)) rfl t26 ?_
    have hs27 : p_x s8 s24 := t26.1
    show p_Go K l m_SW_load 34 [(1, p_i r7), (0, p_r v0)] [p_i r28] s24 _
    cases h
    exact g_ret rfl rfl (dk_SW_load 19 rfl) (fun os => ⟨_, rfl, p_okh os⟩)
def m_SW_plan : p_Me := (⟨"SortWorks", "plan", "(IIIII)I"⟩, prog_1_method_15_code, 8, (some .int), 2, 42)
theorem mt_SW_plan : p_Mt m_SW_plan 5 := ⟨p_mem (p_tb3 (List.mem_of_getElem? (i := 225) rfl)) rfl, tw_1_1, by decide +kernel, by decide +kernel, by decide +kernel⟩
def dt_SW_plan : List (Nat × Instr × Nat) := [(0, .iload_n 1, 1), (1, .iconst 1, 1), (2, .if_icmp .lt 19, 3), (5, .iload_n 1, 1), (6, .iconst 4, 1), (7, .if_icmp .gt 14, 3), (10, .iload_n 2, 1), (11, .ifCond .lt 10, 3), (14, .iload_n 2, 1), (15, .sipush 9999, 3), (18, .if_icmp .le 10, 3), (21, .aload_n 0, 1), (22, .bipush (-2), 2), (24, .invokevirtual 61, 3), (27, .ireturn, 1), (28, .aload_n 0, 1), (29, .getfield 18, 3), (32, .getfield 167, 3), (35, .bipush 16, 2), (37, .if_icmp .lt 10, 3), (40, .aload_n 0, 1), (41, .bipush (-4), 2), (43, .invokevirtual 61, 3), (46, .ireturn, 1), (47, .aload_n 0, 1), (48, .getfield 18, 3), (51, .dup, 1), (52, .getfield 167, 3), (55, .dup_x1, 1), (56, .iconst 1, 1), (57, .iadd, 1), (58, .putfield 167, 3), (61, .istore 6, 2), (63, .aload_n 0, 1), (64, .getfield 18, 3), (67, .getfield 170, 3), (70, .iload 6, 2), (72, .aaload, 1), (73, .astore 7, 2), (75, .aload 7, 2), (77, .iconst 0, 1), (78, .iload_n 2, 1), (79, .iastore, 1), (80, .aload 7, 2), (82, .iconst 1, 1), (83, .iload_n 3, 1), (84, .iastore, 1), (85, .aload 7, 2), (87, .iconst 2, 1), (88, .iload 4, 2), (90, .iastore, 1), (91, .aload 7, 2), (93, .iconst 3, 1), (94, .iload 5, 2), (96, .iastore, 1), (97, .aload_n 0, 1), (98, .getfield 18, 3), (101, .getfield 174, 3), (104, .iload 6, 2), (106, .iload_n 1, 1), (107, .iastore, 1), (108, .aload_n 0, 1), (109, .iload 6, 2), (111, .invokevirtual 95, 3), (114, .ireturn, 1)]
theorem dk_SW_plan (i : Nat) {pc : Nat} {ins : Instr} {len : Nat} (h : dt_SW_plan[i]? = some (pc, ins, len)) : decode m_SW_plan.2.1 pc = .ok (ins, len) := p_dk (b := m_SW_plan.2.1) (t := dt_SW_plan) (by decide +kernel) i h
def B_SW_plan_21  (v0 : Nat) (s0 : p_Hp) : Option (Int × p_Hp) :=
  p_gd (p_is s0 v0 10) <|
  p_bd (F_SW_refuse v0 (-2) s0) fun r6 s2 =>
  some (r6, s2)
def F_SW_plan (v0 : Nat) (v1 : Int) (v2 : Int) (v3 : Int) (v4 : Int) (v5 : Int) (s0 : p_Hp) : Option (Int × p_Hp) :=
  if v1 < 1 then
    B_SW_plan_21 v0 s0
  else
    if 4 < v1 then
      B_SW_plan_21 v0 s0
    else
      if v2 < 0 then
        B_SW_plan_21 v0 s0
      else
        if v2 ≤ 9999 then
          p_gd (p_is s0 v0 10) <|
          p_gd (p_is s0 (p_R s0 v0 1) 9) <|
          if (p_Z s0 (p_R s0 v0 1) 6) < 16 then
            p_bi (p_wZ s0 (p_R s0 v0 1) 6 (p_w ((p_Z s0 (p_R s0 v0 1) 6) + 1))) fun s8 =>
            p_bi ((p_Z s0 (p_R s0 v0 1) 6)) fun x10 =>
            p_gd (p_is s8 (p_R s8 v0 1) 9) <|
            p_gd (p_is s8 (p_R s8 (p_R s8 v0 1) 4) 103) <|
            p_gd ((0 : Int) ≤ x10 ∧ x10 < (p_L s8 (p_R s8 (p_R s8 v0 1) 4) : Int)) <|
            p_bi ((p_R s8 (p_R s8 (p_R s8 v0 1) 4) (x10 : Int).toNat)) fun x14 =>
            p_gd (p_is s8 x14 100) <|
            p_gd ((0 : Int) ≤ 0 ∧ 0 < (p_L s8 x14 : Int)) <|
            p_bi (p_wZ s8 x14 (0 : Int).toNat v2) fun s17 =>
            p_gd ((0 : Int) ≤ 1 ∧ 1 < (p_L s17 x14 : Int)) <|
            p_bi (p_wZ s17 x14 (1 : Int).toNat v3) fun s20 =>
            p_gd ((0 : Int) ≤ 2 ∧ 2 < (p_L s20 x14 : Int)) <|
            p_bi (p_wZ s20 x14 (2 : Int).toNat v4) fun s23 =>
            p_gd ((0 : Int) ≤ 3 ∧ 3 < (p_L s23 x14 : Int)) <|
            p_bi (p_wZ s23 x14 (3 : Int).toNat v5) fun s26 =>
            p_gd (p_is s26 (p_R s26 v0 1) 9) <|
            p_gd (p_is s26 (p_R s26 (p_R s26 v0 1) 5) 100) <|
            p_gd ((0 : Int) ≤ x10 ∧ x10 < (p_L s26 (p_R s26 (p_R s26 v0 1) 5) : Int)) <|
            p_bi (p_wZ s26 (p_R s26 (p_R s26 v0 1) 5) (x10 : Int).toNat v1) fun s31 =>
            p_bd (F_SW_built v0 x10 s31) fun r37 s33 =>
            some (r37, s33)
          else
            p_bd (F_SW_refuse v0 (-4) s0) fun r42 s38 =>
            some (r42, s38)
        else
          B_SW_plan_21 v0 s0
set_option maxRecDepth 100000 in
set_option maxHeartbeats 4000000 in
theorem tB_SW_plan_21 (K : p_K) (l : Launch)  (v0 : Nat) (s0 : p_Hp) (r : (Int × p_Hp)) (h : B_SW_plan_21 v0 s0 = some r) : p_Go K l m_SW_plan 21 [(0, p_r v0)] [] s0 (some (p_i r.1), r.2) := by
  unfold B_SW_plan_21 at h
  refine g_aload_n (i := 0) (j := 0) (dk_SW_plan 11 rfl) rfl rfl ?_
  refine g_bipush (dk_SW_plan 12 rfl) (by decide +kernel) (by decide) ?_
  obtain ⟨c1, h⟩ := p_gdE h
  obtain ⟨r6, s2, q3, h⟩ := p_bdE h
  have t4 := tF_SW_refuse K l v0 (-2) s0 _ q3
  refine g_callV (a := v0) (ci := 10) (q0 := (RX10, TX10, 9)) (As := [p_i (-2)]) (rest := []) [p_i r6] mt_SW_refuse rfl rfl tw_3_66 ts_0 tw_3_64 ⟨Nat.le_of_ble_eq_true rfl, Nat.le_of_ble_eq_true rfl⟩ rfl (Nat.le_of_ble_eq_true rfl) (dk_SW_plan 13 rfl) rfl c1 rfl t4 ?_
  have hs5 : p_x s0 s2 := t4.1
  show p_Go K l m_SW_plan 27 [(0, p_r v0)] [p_i r6] s2 _
  cases h
  exact g_ret rfl rfl (dk_SW_plan 14 rfl) (fun os => ⟨_, rfl, p_okh os⟩)
set_option maxRecDepth 100000 in
set_option maxHeartbeats 4000000 in
theorem tF_SW_plan (K : p_K) (l : Launch) (v0 : Nat) (v1 : Int) (v2 : Int) (v3 : Int) (v4 : Int) (v5 : Int) (s0 : p_Hp) (r : (Int × p_Hp)) (h : F_SW_plan v0 v1 v2 v3 v4 v5 s0 = some r) : p_Ct K l m_SW_plan [p_r v0, p_i v1, p_i v2, p_i v3, p_i v4, p_i v5] s0 (some (p_i r.1), r.2) := by
  refine p_Ct.of (by decide +kernel) (Nat.le_of_ble_eq_true rfl) ?_
  unfold F_SW_plan at h
  show p_Go K l m_SW_plan 0 [(0, p_r v0), (1, p_i v1), (2, p_i v2), (3, p_i v3), (4, p_i v4), (5, p_i v5)] [] s0 _
  refine g_iload_n (i := 1) (j := 1) (dk_SW_plan 0 rfl) rfl rfl ?_
  refine g_iconst (dk_SW_plan 1 rfl) (by decide) ?_
  refine g_icmp_lt 21 (dk_SW_plan 2 rfl) (by decide) (fun b1 => ?_) (fun b1 => ?_)
  · have h := p_ifT b1 h
    refine g_sub [(0, p_r v0)] [0] rfl ?_
    exact tB_SW_plan_21 K l v0 s0 _ h
  · have h := p_ifF b1 h
    refine g_iload_n (i := 1) (j := 1) (dk_SW_plan 3 rfl) rfl rfl ?_
    refine g_iconst (dk_SW_plan 4 rfl) (by decide) ?_
    refine g_icmp_gt 21 (dk_SW_plan 5 rfl) (by decide) (fun b2 => ?_) (fun b2 => ?_)
    · have h := p_ifT b2 h
      refine g_sub [(0, p_r v0)] [0] rfl ?_
      exact tB_SW_plan_21 K l v0 s0 _ h
    · have h := p_ifF b2 h
      refine g_iload_n (i := 2) (j := 2) (dk_SW_plan 6 rfl) rfl rfl ?_
      refine g_if_lt 21 (dk_SW_plan 7 rfl) (by decide) (fun b3 => ?_) (fun b3 => ?_)
      · have h := p_ifT b3 h
        refine g_sub [(0, p_r v0)] [0] rfl ?_
        exact tB_SW_plan_21 K l v0 s0 _ h
      · have h := p_ifF b3 h
        refine g_iload_n (i := 2) (j := 2) (dk_SW_plan 8 rfl) rfl rfl ?_
        refine g_sipush (dk_SW_plan 9 rfl) (by decide +kernel) (by decide) ?_
        refine g_icmp_le 28 (dk_SW_plan 10 rfl) (by decide) (fun b4 => ?_) (fun b4 => ?_)
        · have h := p_ifT b4 h
          refine g_aload_n (i := 0) (j := 0) (dk_SW_plan 15 rfl) rfl rfl ?_
          obtain ⟨c5, h⟩ := p_gdE h
          refine g_getR fl_SW_18 (Or.inl ⟨_, rfl⟩) (dk_SW_plan 16 rfl) c5 ?_
          obtain ⟨c6, h⟩ := p_gdE h
          refine g_getI fl_SW_167 (Or.inl rfl) (dk_SW_plan 17 rfl) c6 ?_
          refine g_bipush (dk_SW_plan 18 rfl) (by decide +kernel) (by decide) ?_
          refine g_icmp_lt 47 (dk_SW_plan 19 rfl) (by decide) (fun b7 => ?_) (fun b7 => ?_)
          · have h := p_ifT b7 h
            refine g_aload_n (i := 0) (j := 0) (dk_SW_plan 24 rfl) rfl rfl ?_
            refine g_getR fl_SW_18 (Or.inl ⟨_, rfl⟩) (dk_SW_plan 25 rfl) c5 ?_
            refine g_dup (dk_SW_plan 26 rfl) rfl ?_
            refine g_getI fl_SW_167 (Or.inl rfl) (dk_SW_plan 27 rfl) c6 ?_
            refine g_dup_x1 (dk_SW_plan 28 rfl) rfl rfl ?_
            refine g_iconst (dk_SW_plan 29 rfl) (by decide) ?_
            refine g_iadd (dk_SW_plan 30 rfl) ?_
            refine g_putI fl_SW_167 (Or.inl rfl) (dk_SW_plan 31 rfl) c6 ?_
            refine p_ltS (P := fun q => p_Go K l m_SW_plan 61 [(0, p_r v0), (1, p_i v1), (2, p_i v2), (3, p_i v3), (4, p_i v4), (5, p_i v5)] [p_i (p_Z s0 (p_R s0 v0 1) 6)] q _) (p_xZ _ _ _ _) ?_ h
            intro s8 hs9 h
            refine g_istore [(6, p_i (p_Z s0 (p_R s0 v0 1) 6)), (0, p_r v0), (1, p_i v1), (2, p_i v2), (3, p_i v3), (4, p_i v4), (5, p_i v5)] (dk_SW_plan 32 rfl) (by decide) rfl ?_
            refine p_ltG (P := fun q => p_Go K l m_SW_plan 63 [(6, p_i q), (0, p_r v0), (1, p_i v1), (2, p_i v2), (3, p_i v3), (4, p_i v4), (5, p_i v5)] [] s8 _) ?_ h
            intro x10 h
            refine g_aload_n (i := 0) (j := 1) (dk_SW_plan 33 rfl) rfl rfl ?_
            refine g_getR fl_SW_18 (Or.inl ⟨_, rfl⟩) (dk_SW_plan 34 rfl) (c5.up hs9) ?_
            obtain ⟨c11, h⟩ := p_gdE h
            refine g_getR fl_SW_170 (Or.inr ⟨_, rfl⟩) (dk_SW_plan 35 rfl) c11 ?_
            refine g_iload (j := 0) (dk_SW_plan 36 rfl) rfl ?_
            obtain ⟨c12, h⟩ := p_gdE h
            obtain ⟨c13, h⟩ := p_gdE h
            refine g_aaload (i := 3) rfl (Or.inr ⟨_, rfl⟩) (dk_SW_plan 37 rfl) c12 c13.1 c13.2 ?_
            refine g_astore [(7, p_r (p_R s8 (p_R s8 (p_R s8 v0 1) 4) (x10 : Int).toNat)), (6, p_i x10), (0, p_r v0), (1, p_i v1), (2, p_i v2), (3, p_i v3), (4, p_i v4), (5, p_i v5)] (dk_SW_plan 38 rfl) (by decide) rfl ?_
            refine p_ltG (P := fun q => p_Go K l m_SW_plan 75 [(7, p_r q), (6, p_i x10), (0, p_r v0), (1, p_i v1), (2, p_i v2), (3, p_i v3), (4, p_i v4), (5, p_i v5)] [] s8 _) ?_ h
            intro x14 h
            refine g_aload (j := 0) (dk_SW_plan 39 rfl) rfl ?_
            refine g_iconst (dk_SW_plan 40 rfl) (by decide) ?_
            refine g_iload_n (i := 2) (j := 4) (dk_SW_plan 41 rfl) rfl rfl ?_
            obtain ⟨c15, h⟩ := p_gdE h
            obtain ⟨c16, h⟩ := p_gdE h
            refine g_iastore (dk_SW_plan 42 rfl) c15 c16.1 c16.2 ?_
            refine p_ltS (P := fun q => p_Go K l m_SW_plan 80 [(7, p_r x14), (6, p_i x10), (0, p_r v0), (1, p_i v1), (2, p_i v2), (3, p_i v3), (4, p_i v4), (5, p_i v5)] [] q _) (p_xZ _ _ _ _) ?_ h
            intro s17 hs18 h
            refine g_aload (j := 0) (dk_SW_plan 43 rfl) rfl ?_
            refine g_iconst (dk_SW_plan 44 rfl) (by decide) ?_
            refine g_iload_n (i := 3) (j := 5) (dk_SW_plan 45 rfl) rfl rfl ?_
            obtain ⟨c19, h⟩ := p_gdE h
            refine g_iastore (dk_SW_plan 46 rfl) (c15.up hs18) c19.1 c19.2 ?_
            refine p_ltS (P := fun q => p_Go K l m_SW_plan 85 [(7, p_r x14), (6, p_i x10), (0, p_r v0), (1, p_i v1), (2, p_i v2), (3, p_i v3), (4, p_i v4), (5, p_i v5)] [] q _) (p_xZ _ _ _ _) ?_ h
            intro s20 hs21 h
            refine g_aload (j := 0) (dk_SW_plan 47 rfl) rfl ?_
            refine g_iconst (dk_SW_plan 48 rfl) (by decide) ?_
            refine g_iload (j := 6) (dk_SW_plan 49 rfl) rfl ?_
            obtain ⟨c22, h⟩ := p_gdE h
            refine g_iastore (dk_SW_plan 50 rfl) (c15.up (hs18.trans hs21)) c22.1 c22.2 ?_
            refine p_ltS (P := fun q => p_Go K l m_SW_plan 91 [(7, p_r x14), (6, p_i x10), (0, p_r v0), (1, p_i v1), (2, p_i v2), (3, p_i v3), (4, p_i v4), (5, p_i v5)] [] q _) (p_xZ _ _ _ _) ?_ h
            intro s23 hs24 h
            refine g_aload (j := 0) (dk_SW_plan 51 rfl) rfl ?_
            refine g_iconst (dk_SW_plan 52 rfl) (by decide) ?_
            refine g_iload (j := 7) (dk_SW_plan 53 rfl) rfl ?_
            obtain ⟨c25, h⟩ := p_gdE h
            refine g_iastore (dk_SW_plan 54 rfl) (c15.up (hs18.trans (hs21.trans hs24))) c25.1 c25.2 ?_
            refine p_ltS (P := fun q => p_Go K l m_SW_plan 97 [(7, p_r x14), (6, p_i x10), (0, p_r v0), (1, p_i v1), (2, p_i v2), (3, p_i v3), (4, p_i v4), (5, p_i v5)] [] q _) (p_xZ _ _ _ _) ?_ h
            intro s26 hs27 h
            refine g_aload_n (i := 0) (j := 2) (dk_SW_plan 55 rfl) rfl rfl ?_
            refine g_getR fl_SW_18 (Or.inl ⟨_, rfl⟩) (dk_SW_plan 56 rfl) (c5.up (hs9.trans (hs18.trans (hs21.trans (hs24.trans hs27))))) ?_
            obtain ⟨c28, h⟩ := p_gdE h
            refine g_getR fl_SW_174 (Or.inr ⟨_, rfl⟩) (dk_SW_plan 57 rfl) c28 ?_
            refine g_iload (j := 1) (dk_SW_plan 58 rfl) rfl ?_
            refine g_iload_n (i := 1) (j := 3) (dk_SW_plan 59 rfl) rfl rfl ?_
            obtain ⟨c29, h⟩ := p_gdE h
            obtain ⟨c30, h⟩ := p_gdE h
            refine g_iastore (dk_SW_plan 60 rfl) c29 c30.1 c30.2 ?_
            refine p_ltS (P := fun q => p_Go K l m_SW_plan 108 [(7, p_r x14), (6, p_i x10), (0, p_r v0), (1, p_i v1), (2, p_i v2), (3, p_i v3), (4, p_i v4), (5, p_i v5)] [] q _) (p_xZ _ _ _ _) ?_ h
            intro s31 hs32 h
            refine g_aload_n (i := 0) (j := 2) (dk_SW_plan 61 rfl) rfl rfl ?_
            refine g_iload (j := 1) (dk_SW_plan 62 rfl) rfl ?_
            obtain ⟨r37, s33, q34, h⟩ := p_bdE h
            have t35 := tF_SW_built K l v0 x10 s31 _ q34
            refine g_callV (a := v0) (ci := 10) (q0 := (RX10, TX10, 9)) (As := [p_i x10]) (rest := []) [p_i r37] mt_SW_built rfl rfl tw_3_93 ts_2 tw_3_91 ⟨Nat.le_of_ble_eq_true rfl, Nat.le_of_ble_eq_true rfl⟩ rfl (Nat.le_of_ble_eq_true rfl) (dk_SW_plan 63 rfl) rfl (c5.up (hs9.trans (hs18.trans (hs21.trans (hs24.trans (hs27.trans hs32)))))) rfl t35 ?_
            have hs36 : p_x s31 s33 := t35.1
            show p_Go K l m_SW_plan 114 [(7, p_r x14), (6, p_i x10), (0, p_r v0), (1, p_i v1), (2, p_i v2), (3, p_i v3), (4, p_i v4), (5, p_i v5)] [p_i r37] s33 _
            cases h
            exact g_ret rfl rfl (dk_SW_plan 64 rfl) (fun os => ⟨_, rfl, p_okh os⟩)
          · have h := p_ifF b7 h
            refine g_aload_n (i := 0) (j := 0) (dk_SW_plan 20 rfl) rfl rfl ?_
            refine g_bipush (dk_SW_plan 21 rfl) (by decide +kernel) (by decide) ?_
            obtain ⟨r42, s38, q39, h⟩ := p_bdE h
            have t40 := tF_SW_refuse K l v0 (-4) s0 _ q39
            refine g_callV (a := v0) (ci := 10) (q0 := (RX10, TX10, 9)) (As := [p_i (-4)]) (rest := []) [p_i r42] mt_SW_refuse rfl rfl tw_3_66 ts_0 tw_3_64 ⟨Nat.le_of_ble_eq_true rfl, Nat.le_of_ble_eq_true rfl⟩ rfl (Nat.le_of_ble_eq_true rfl) (dk_SW_plan 22 rfl) rfl c5 rfl t40 ?_
            have hs41 : p_x s0 s38 := t40.1
            show p_Go K l m_SW_plan 46 [(0, p_r v0), (1, p_i v1), (2, p_i v2), (3, p_i v3), (4, p_i v4), (5, p_i v5)] [p_i r42] s38 _
            cases h
            exact g_ret rfl rfl (dk_SW_plan 23 rfl) (fun os => ⟨_, rfl, p_okh os⟩)
        · have h := p_ifF b4 h
          refine g_sub [(0, p_r v0)] [0] rfl ?_
          exact tB_SW_plan_21 K l v0 s0 _ h
def m_Numbers_insideOf : p_Me := (⟨"SortWorks$Numbers", "insideOf", "(I)I"⟩, prog_5_method_5_code, 1, (some .int), 0, 0)
theorem mt_Numbers_insideOf : p_Mt m_Numbers_insideOf 1 := ⟨p_mem (p_tb4 (List.mem_of_getElem? (i := 12) rfl)) rfl, tw_1_8, by decide +kernel, by decide +kernel, by decide +kernel⟩
def dt_Numbers_insideOf : List (Nat × Instr × Nat) := [(0, .bipush (-10), 2), (2, .iload_n 0, 1), (3, .isub, 1), (4, .ireturn, 1)]
theorem dk_Numbers_insideOf (i : Nat) {pc : Nat} {ins : Instr} {len : Nat} (h : dt_Numbers_insideOf[i]? = some (pc, ins, len)) : decode m_Numbers_insideOf.2.1 pc = .ok (ins, len) := p_dk (b := m_Numbers_insideOf.2.1) (t := dt_Numbers_insideOf) (by decide +kernel) i h
def F_Numbers_insideOf (v0 : Int) (s0 : p_Hp) : Option (Int × p_Hp) :=
  some ((p_w ((-10) - v0)), s0)
set_option maxRecDepth 100000 in
set_option maxHeartbeats 4000000 in
theorem tF_Numbers_insideOf (K : p_K) (l : Launch) (v0 : Int) (s0 : p_Hp) (r : (Int × p_Hp)) (h : F_Numbers_insideOf v0 s0 = some r) : p_Ct K l m_Numbers_insideOf [p_i v0] s0 (some (p_i r.1), r.2) := by
  refine p_Ct.of (by decide +kernel) (Nat.le_of_ble_eq_true rfl) ?_
  unfold F_Numbers_insideOf at h
  show p_Go K l m_Numbers_insideOf 0 [(0, p_i v0)] [] s0 _
  refine g_bipush (dk_Numbers_insideOf 0 rfl) (by decide +kernel) (by decide) ?_
  refine g_iload_n (i := 0) (j := 0) (dk_Numbers_insideOf 1 rfl) rfl rfl ?_
  refine g_isub (dk_Numbers_insideOf 2 rfl) ?_
  cases h
  exact g_ret rfl rfl (dk_Numbers_insideOf 3 rfl) (fun os => ⟨_, rfl, p_okh os⟩)
def m_Numbers_giveTo : p_Me := (⟨"SortWorks$Numbers", "giveTo", "(I)I"⟩, prog_5_method_2_code, 2, (some .int), 1, 20)
theorem mt_Numbers_giveTo : p_Mt m_Numbers_giveTo 1 := ⟨p_mem (p_tb4 (List.mem_of_getElem? (i := 9) rfl)) rfl, tw_1_8, by decide +kernel, by decide +kernel, by decide +kernel⟩
def dt_Numbers_giveTo : List (Nat × Instr × Nat) := [(0, .aload_n 0, 1), (1, .dup, 1), (2, .getfield 15, 3), (5, .iconst 1, 1), (6, .iadd, 1), (7, .putfield 15, 3), (10, .aload_n 0, 1), (11, .getfield 9, 3), (14, .aload_n 0, 1), (15, .getfield 15, 3), (18, .iload_n 1, 1), (19, .invokestatic 19, 3), (22, .iastore, 1), (23, .aload_n 0, 1), (24, .getfield 15, 3), (27, .ireturn, 1)]
theorem dk_Numbers_giveTo (i : Nat) {pc : Nat} {ins : Instr} {len : Nat} (h : dt_Numbers_giveTo[i]? = some (pc, ins, len)) : decode m_Numbers_giveTo.2.1 pc = .ok (ins, len) := p_dk (b := m_Numbers_giveTo.2.1) (t := dt_Numbers_giveTo) (by decide +kernel) i h
def F_Numbers_giveTo (v0 : Nat) (v1 : Int) (s0 : p_Hp) : Option (Int × p_Hp) :=
  p_gd (p_is s0 v0 3) <|
  p_bi (p_wZ s0 v0 1 (p_w ((p_Z s0 v0 1) + 1))) fun s2 =>
  p_bd (F_Numbers_insideOf v1 s2) fun r8 s4 =>
  p_gd (p_is s4 (p_R s2 v0 0) 100) <|
  p_gd ((0 : Int) ≤ (p_Z s2 v0 1) ∧ (p_Z s2 v0 1) < (p_L s4 (p_R s2 v0 0) : Int)) <|
  p_bi (p_wZ s4 (p_R s2 v0 0) ((p_Z s2 v0 1) : Int).toNat r8) fun s11 =>
  some ((p_Z s11 v0 1), s11)
set_option maxRecDepth 100000 in
set_option maxHeartbeats 4000000 in
theorem tF_Numbers_giveTo (K : p_K) (l : Launch) (v0 : Nat) (v1 : Int) (s0 : p_Hp) (r : (Int × p_Hp)) (h : F_Numbers_giveTo v0 v1 s0 = some r) : p_Ct K l m_Numbers_giveTo [p_r v0, p_i v1] s0 (some (p_i r.1), r.2) := by
  refine p_Ct.of (by decide +kernel) (Nat.le_of_ble_eq_true rfl) ?_
  unfold F_Numbers_giveTo at h
  show p_Go K l m_Numbers_giveTo 0 [(0, p_r v0), (1, p_i v1)] [] s0 _
  refine g_aload_n (i := 0) (j := 0) (dk_Numbers_giveTo 0 rfl) rfl rfl ?_
  refine g_dup (dk_Numbers_giveTo 1 rfl) rfl ?_
  obtain ⟨c1, h⟩ := p_gdE h
  refine g_getI fl_Numbers_15 (Or.inl rfl) (dk_Numbers_giveTo 2 rfl) c1 ?_
  refine g_iconst (dk_Numbers_giveTo 3 rfl) (by decide) ?_
  refine g_iadd (dk_Numbers_giveTo 4 rfl) ?_
  refine g_putI fl_Numbers_15 (Or.inl rfl) (dk_Numbers_giveTo 5 rfl) c1 ?_
  refine p_ltS (P := fun q => p_Go K l m_Numbers_giveTo 10 [(0, p_r v0), (1, p_i v1)] [] q _) (p_xZ _ _ _ _) ?_ h
  intro s2 hs3 h
  refine g_aload_n (i := 0) (j := 0) (dk_Numbers_giveTo 6 rfl) rfl rfl ?_
  refine g_getR fl_Numbers_9 (Or.inr ⟨_, rfl⟩) (dk_Numbers_giveTo 7 rfl) (c1.up hs3) ?_
  refine g_aload_n (i := 0) (j := 0) (dk_Numbers_giveTo 8 rfl) rfl rfl ?_
  refine g_getI fl_Numbers_15 (Or.inl rfl) (dk_Numbers_giveTo 9 rfl) (c1.up hs3) ?_
  refine g_iload_n (i := 1) (j := 1) (dk_Numbers_giveTo 10 rfl) rfl rfl ?_
  obtain ⟨r8, s4, q5, h⟩ := p_bdE h
  have t6 := tF_Numbers_insideOf K l v1 s2 _ q5
  refine g_callS (av := [p_i v1]) (rest := [p_i (p_Z s2 v0 1), p_r (p_R s2 v0 0)]) [p_i r8, p_i (p_Z s2 v0 1), p_r (p_R s2 v0 0)] mt_Numbers_insideOf tw_4_11 tw_4_10 ⟨Nat.le_of_ble_eq_true rfl, Nat.le_of_ble_eq_true rfl⟩ rfl (Nat.le_of_ble_eq_true rfl) (dk_Numbers_giveTo 11 rfl) rfl rfl t6 ?_
  have hs7 : p_x s2 s4 := t6.1
  show p_Go K l m_Numbers_giveTo 22 [(0, p_r v0), (1, p_i v1)] [p_i r8, p_i (p_Z s2 v0 1), p_r (p_R s2 v0 0)] s4 _
  obtain ⟨c9, h⟩ := p_gdE h
  obtain ⟨c10, h⟩ := p_gdE h
  refine g_iastore (dk_Numbers_giveTo 12 rfl) c9 c10.1 c10.2 ?_
  refine p_ltS (P := fun q => p_Go K l m_Numbers_giveTo 23 [(0, p_r v0), (1, p_i v1)] [] q _) (p_xZ _ _ _ _) ?_ h
  intro s11 hs12 h
  refine g_aload_n (i := 0) (j := 0) (dk_Numbers_giveTo 13 rfl) rfl rfl ?_
  refine g_getI fl_Numbers_15 (Or.inl rfl) (dk_Numbers_giveTo 14 rfl) (c1.up (hs3.trans (hs7.trans hs12))) ?_
  cases h
  exact g_ret rfl rfl (dk_Numbers_giveTo 15 rfl) (fun os => ⟨_, rfl, p_okh os⟩)
def m_State_freeParcel : p_Me := (⟨"SortWorks$State", "freeParcel", "()LSortWorks$Parcel;"⟩, prog_9_method_5_code, 2, (some (.object "SortWorks$Parcel")), 0, 0)
theorem mt_State_freeParcel : p_Mt m_State_freeParcel 0 := ⟨p_mem (p_tb4 (List.mem_of_getElem? (i := 5) rfl)) rfl, tw_1_3, by decide +kernel, by decide +kernel, by decide +kernel⟩
def dt_State_freeParcel : List (Nat × Instr × Nat) := [(0, .iconst 1, 1), (1, .istore_n 1, 1), (2, .iload_n 1, 1), (3, .bipush 30, 2), (5, .if_icmp .gt 28, 3), (8, .aload_n 0, 1), (9, .getfield 19, 3), (12, .iload_n 1, 1), (13, .aaload, 1), (14, .getfield 74, 3), (17, .ifCond .ne 10, 3), (20, .aload_n 0, 1), (21, .getfield 19, 3), (24, .iload_n 1, 1), (25, .aaload, 1), (26, .areturn, 1), (27, .iinc 1 1, 3), (30, .goto (-28), 3), (33, .aconst_null, 1), (34, .areturn, 1)]
theorem dk_State_freeParcel (i : Nat) {pc : Nat} {ins : Instr} {len : Nat} (h : dt_State_freeParcel[i]? = some (pc, ins, len)) : decode m_State_freeParcel.2.1 pc = .ok (ins, len) := p_dk (b := m_State_freeParcel.2.1) (t := dt_State_freeParcel) (by decide +kernel) i h
def L_State_freeParcel_2 (k2 : Nat → Int → p_Hp → Option (Nat × p_Hp)) (v0 : Nat) (v1 : Int) (s0 : p_Hp) : Option (Nat × p_Hp) :=
  if 30 < v1 then
    some (0, s0)
  else
    p_gd (p_is s0 v0 7) <|
    p_gd (p_is s0 (p_R s0 v0 5) 106) <|
    p_gd ((0 : Int) ≤ v1 ∧ v1 < (p_L s0 (p_R s0 v0 5) : Int)) <|
    p_gd (p_is s0 (p_R s0 (p_R s0 v0 5) (v1 : Int).toNat) 4) <|
    if (p_Z s0 (p_R s0 (p_R s0 v0 5) (v1 : Int).toNat) 1) ≠ 0 then
      p_bi (p_w (v1 + 1)) fun x7 =>
      k2 v0 x7 s0
    else
      p_gd ((0 : Int) ≤ v1 ∧ v1 < (p_L s0 (p_R s0 v0 5) : Int)) <|
      some ((p_R s0 (p_R s0 v0 5) (v1 : Int).toNat), s0)
def O_State_freeParcel_2  : Nat → Nat → Int → p_Hp → Option (Nat × p_Hp)
  | 0 => fun _ _ _ => none
  | n + 1 => L_State_freeParcel_2 (O_State_freeParcel_2 n)
def F_State_freeParcel (v0 : Nat) (s0 : p_Hp) : Option (Nat × p_Hp) :=
  O_State_freeParcel_2 3000 v0 1 s0
set_option maxRecDepth 100000 in
set_option maxHeartbeats 4000000 in
theorem tL_State_freeParcel_2 (K : p_K) (l : Launch) (k2 : Nat → Int → p_Hp → Option (Nat × p_Hp)) (hk2 : ∀ (v0 : Nat) (v1 : Int)  (s0 : p_Hp) (r : (Nat × p_Hp)), k2 v0 v1 s0 = some r → p_Go K l m_State_freeParcel 2 [(0, p_r v0), (1, p_i v1)] [] s0 (some (p_r r.1), r.2)) (v0 : Nat) (v1 : Int) (s0 : p_Hp) (r : (Nat × p_Hp)) (h : L_State_freeParcel_2 k2 v0 v1 s0 = some r) : p_Go K l m_State_freeParcel 2 [(0, p_r v0), (1, p_i v1)] [] s0 (some (p_r r.1), r.2) := by
  unfold L_State_freeParcel_2 at h
  refine g_iload_n (i := 1) (j := 1) (dk_State_freeParcel 2 rfl) rfl rfl ?_
  refine g_bipush (dk_State_freeParcel 3 rfl) (by decide +kernel) (by decide) ?_
  refine g_icmp_gt 33 (dk_State_freeParcel 4 rfl) (by decide) (fun b1 => ?_) (fun b1 => ?_)
  · have h := p_ifT b1 h
    refine g_aconst_null (dk_State_freeParcel 18 rfl) ?_
    cases h
    exact g_ret rfl rfl (dk_State_freeParcel 19 rfl) (fun os => ⟨_, rfl⟩)
  · have h := p_ifF b1 h
    refine g_aload_n (i := 0) (j := 0) (dk_State_freeParcel 5 rfl) rfl rfl ?_
    obtain ⟨c2, h⟩ := p_gdE h
    refine g_getR fl_State_19 (Or.inr ⟨_, rfl⟩) (dk_State_freeParcel 6 rfl) c2 ?_
    refine g_iload_n (i := 1) (j := 1) (dk_State_freeParcel 7 rfl) rfl rfl ?_
    obtain ⟨c3, h⟩ := p_gdE h
    obtain ⟨c4, h⟩ := p_gdE h
    refine g_aaload (i := 6) rfl (Or.inl ⟨_, rfl⟩) (dk_State_freeParcel 8 rfl) c3 c4.1 c4.2 ?_
    obtain ⟨c5, h⟩ := p_gdE h
    refine g_getI fl_State_74 (Or.inl rfl) (dk_State_freeParcel 9 rfl) c5 ?_
    refine g_if_ne 27 (dk_State_freeParcel 10 rfl) (by decide) (fun b6 => ?_) (fun b6 => ?_)
    · have h := p_ifT b6 h
      refine g_iinc (j := 1) [(1, p_i (p_w (v1 + 1))), (0, p_r v0)] (dk_State_freeParcel 16 rfl) rfl (by decide) rfl ?_
      refine p_ltG (P := fun q => p_Go K l m_State_freeParcel 30 [(1, p_i q), (0, p_r v0)] [] s0 _) ?_ h
      intro x7 h
      refine g_goto 2 (dk_State_freeParcel 17 rfl) (by decide) ?_
      refine g_sub [(0, p_r v0), (1, p_i x7)] [1, 0] rfl ?_
      exact hk2 v0 x7 s0 _ h
    · have h := p_ifF b6 h
      refine g_aload_n (i := 0) (j := 0) (dk_State_freeParcel 11 rfl) rfl rfl ?_
      refine g_getR fl_State_19 (Or.inr ⟨_, rfl⟩) (dk_State_freeParcel 12 rfl) c2 ?_
      refine g_iload_n (i := 1) (j := 1) (dk_State_freeParcel 13 rfl) rfl rfl ?_
      obtain ⟨c8, h⟩ := p_gdE h
      refine g_aaload (i := 6) rfl (Or.inl ⟨_, rfl⟩) (dk_State_freeParcel 14 rfl) c3 c8.1 c8.2 ?_
      cases h
      exact g_ret rfl rfl (dk_State_freeParcel 15 rfl) (fun os => ⟨_, rfl⟩)
set_option maxRecDepth 100000 in
set_option maxHeartbeats 4000000 in
theorem tO_State_freeParcel_2 (K : p_K) (l : Launch)  : ∀ (n : Nat) (v0 : Nat) (v1 : Int) (s0 : p_Hp) (r : (Nat × p_Hp)), O_State_freeParcel_2 n v0 v1 s0 = some r → p_Go K l m_State_freeParcel 2 [(0, p_r v0), (1, p_i v1)] [] s0 (some (p_r r.1), r.2) := by
  intro n
  induction n with
  | zero => intro v0 v1 s0 r h; cases (show (none : Option (Nat × p_Hp)) = some r from h)
  | succ n ih => intro v0 v1 s0 r h; exact tL_State_freeParcel_2 K l _ ih v0 v1 s0 r h
set_option maxRecDepth 100000 in
set_option maxHeartbeats 4000000 in
theorem tF_State_freeParcel (K : p_K) (l : Launch) (v0 : Nat) (s0 : p_Hp) (r : (Nat × p_Hp)) (h : F_State_freeParcel v0 s0 = some r) : p_Ct K l m_State_freeParcel [p_r v0] s0 (some (p_r r.1), r.2) := by
  refine p_Ct.of (by decide +kernel) (Nat.le_of_ble_eq_true rfl) ?_
  unfold F_State_freeParcel at h
  show p_Go K l m_State_freeParcel 0 [(0, p_r v0)] [] s0 _
  refine g_iconst (dk_State_freeParcel 0 rfl) (by decide) ?_
  refine g_istore_n (i := 1) [(1, p_i 1), (0, p_r v0)] (dk_State_freeParcel 1 rfl) rfl (by decide) rfl ?_
  refine g_sub [(0, p_r v0), (1, p_i 1)] [1, 0] rfl ?_
  exact tO_State_freeParcel_2 K l 3000 v0 1 s0 _ h
def m_SW_newParcel : p_Me := (⟨"SortWorks", "newParcel", "()LSortWorks$Parcel;"⟩, prog_1_method_17_code, 2, (some (.object "SortWorks$Parcel")), 2, 41)
theorem mt_SW_newParcel : p_Mt m_SW_newParcel 0 := ⟨p_mem (p_tb4 (List.mem_of_getElem? (i := 1) rfl)) rfl, tw_1_1, by decide +kernel, by decide +kernel, by decide +kernel⟩
def dt_SW_newParcel : List (Nat × Instr × Nat) := [(0, .aload_n 0, 1), (1, .getfield 18, 3), (4, .getfield 77, 3), (7, .invokevirtual 194, 3), (10, .astore_n 1, 1), (11, .aload_n 1, 1), (12, .ifnull 16, 3), (15, .aload_n 0, 1), (16, .getfield 25, 3), (19, .getfield 197, 3), (22, .sipush 2000, 3), (25, .if_icmp .lt 5, 3), (28, .aconst_null, 1), (29, .areturn, 1), (30, .aload_n 1, 1), (31, .aload_n 0, 1), (32, .getfield 25, 3), (35, .aload_n 0, 1), (36, .getfield 18, 3), (39, .getfield 64, 3), (42, .invokevirtual 200, 3), (45, .putfield 191, 3), (48, .aload_n 1, 1), (49, .areturn, 1)]
theorem dk_SW_newParcel (i : Nat) {pc : Nat} {ins : Instr} {len : Nat} (h : dt_SW_newParcel[i]? = some (pc, ins, len)) : decode m_SW_newParcel.2.1 pc = .ok (ins, len) := p_dk (b := m_SW_newParcel.2.1) (t := dt_SW_newParcel) (by decide +kernel) i h
def F_SW_newParcel (v0 : Nat) (s0 : p_Hp) : Option (Nat × p_Hp) :=
  p_gd (p_is s0 v0 10) <|
  p_gd (p_is s0 (p_R s0 v0 1) 9) <|
  p_gd (p_is s0 (p_R s0 (p_R s0 v0 1) 1) 7) <|
  p_bd (F_State_freeParcel (p_R s0 (p_R s0 v0 1) 1) s0) fun r8 s4 =>
  if r8 = 0 then
    some (0, s4)
  else
    p_gd (p_is s4 (p_R s4 v0 2) 3) <|
    if (p_Z s4 (p_R s4 v0 2) 1) < 2000 then
      p_gd (p_is s4 (p_R s4 v0 1) 9) <|
      p_bd (F_Numbers_giveTo (p_R s4 v0 2) (p_Z s4 (p_R s4 v0 1) 0) s4) fun r17 s13 =>
      p_gd (p_is s13 r8 4) <|
      p_bi (p_wZ s13 r8 1 r17) fun s19 =>
      some (r8, s19)
    else
      some (0, s4)
set_option maxRecDepth 100000 in
set_option maxHeartbeats 4000000 in
theorem tF_SW_newParcel (K : p_K) (l : Launch) (v0 : Nat) (s0 : p_Hp) (r : (Nat × p_Hp)) (h : F_SW_newParcel v0 s0 = some r) : p_Ct K l m_SW_newParcel [p_r v0] s0 (some (p_r r.1), r.2) := by
  refine p_Ct.of (by decide +kernel) (Nat.le_of_ble_eq_true rfl) ?_
  unfold F_SW_newParcel at h
  show p_Go K l m_SW_newParcel 0 [(0, p_r v0)] [] s0 _
  refine g_aload_n (i := 0) (j := 0) (dk_SW_newParcel 0 rfl) rfl rfl ?_
  obtain ⟨c1, h⟩ := p_gdE h
  refine g_getR fl_SW_18 (Or.inl ⟨_, rfl⟩) (dk_SW_newParcel 1 rfl) c1 ?_
  obtain ⟨c2, h⟩ := p_gdE h
  refine g_getR fl_SW_77 (Or.inl ⟨_, rfl⟩) (dk_SW_newParcel 2 rfl) c2 ?_
  obtain ⟨c3, h⟩ := p_gdE h
  obtain ⟨r8, s4, q5, h⟩ := p_bdE h
  have t6 := tF_State_freeParcel K l (p_R s0 (p_R s0 v0 1) 1) s0 _ q5
  refine g_callV (a := (p_R s0 (p_R s0 v0 1) 1)) (ci := 7) (q0 := (RX7, TX7, 10)) (As := []) (rest := []) [p_r r8] mt_State_freeParcel rfl rfl tw_4_3 tw_4_4 tw_4_2 ⟨Nat.le_of_ble_eq_true rfl, Nat.le_of_ble_eq_true rfl⟩ rfl (Nat.le_of_ble_eq_true rfl) (dk_SW_newParcel 3 rfl) rfl c3 rfl t6 ?_
  have hs7 : p_x s0 s4 := t6.1
  show p_Go K l m_SW_newParcel 10 [(0, p_r v0)] [p_r r8] s4 _
  refine g_astore_n (i := 1) [(1, p_r r8), (0, p_r v0)] (dk_SW_newParcel 4 rfl) rfl (by decide) rfl ?_
  refine g_aload_n (i := 1) (j := 0) (dk_SW_newParcel 5 rfl) rfl rfl ?_
  refine g_ifnull 28 (dk_SW_newParcel 6 rfl) (by decide) (fun b9 => ?_) (fun b9 => ?_)
  · have h := p_ifT b9 h
    refine g_aconst_null (dk_SW_newParcel 12 rfl) ?_
    cases h
    exact g_ret rfl rfl (dk_SW_newParcel 13 rfl) (fun os => ⟨_, rfl⟩)
  · have h := p_ifF b9 h
    refine g_aload_n (i := 0) (j := 1) (dk_SW_newParcel 7 rfl) rfl rfl ?_
    refine g_getR fl_SW_25 (Or.inl ⟨_, rfl⟩) (dk_SW_newParcel 8 rfl) (c1.up hs7) ?_
    obtain ⟨c10, h⟩ := p_gdE h
    refine g_getI fl_SW_197 (Or.inl rfl) (dk_SW_newParcel 9 rfl) c10 ?_
    refine g_sipush (dk_SW_newParcel 10 rfl) (by decide +kernel) (by decide) ?_
    refine g_icmp_lt 30 (dk_SW_newParcel 11 rfl) (by decide) (fun b11 => ?_) (fun b11 => ?_)
    · have h := p_ifT b11 h
      refine g_aload_n (i := 1) (j := 0) (dk_SW_newParcel 14 rfl) rfl rfl ?_
      refine g_aload_n (i := 0) (j := 1) (dk_SW_newParcel 15 rfl) rfl rfl ?_
      refine g_getR fl_SW_25 (Or.inl ⟨_, rfl⟩) (dk_SW_newParcel 16 rfl) (c1.up hs7) ?_
      refine g_aload_n (i := 0) (j := 1) (dk_SW_newParcel 17 rfl) rfl rfl ?_
      refine g_getR fl_SW_18 (Or.inl ⟨_, rfl⟩) (dk_SW_newParcel 18 rfl) (c1.up hs7) ?_
      obtain ⟨c12, h⟩ := p_gdE h
      refine g_getI fl_SW_64 (Or.inl rfl) (dk_SW_newParcel 19 rfl) c12 ?_
      obtain ⟨r17, s13, q14, h⟩ := p_bdE h
      have t15 := tF_Numbers_giveTo K l (p_R s4 v0 2) (p_Z s4 (p_R s4 v0 1) 0) s4 _ q14
      refine g_callV (a := (p_R s4 v0 2)) (ci := 3) (q0 := (RX3, TX3, 2)) (As := [p_i (p_Z s4 (p_R s4 v0 1) 0)]) (rest := [p_r r8]) [p_i r17, p_r r8] mt_Numbers_giveTo rfl rfl tw_4_7 tw_4_8 tw_4_6 ⟨Nat.le_of_ble_eq_true rfl, Nat.le_of_ble_eq_true rfl⟩ rfl (Nat.le_of_ble_eq_true rfl) (dk_SW_newParcel 20 rfl) rfl c10 rfl t15 ?_
      have hs16 : p_x s4 s13 := t15.1
      show p_Go K l m_SW_newParcel 45 [(1, p_r r8), (0, p_r v0)] [p_i r17, p_r r8] s13 _
      obtain ⟨c18, h⟩ := p_gdE h
      refine g_putI fl_SW_191 (Or.inl rfl) (dk_SW_newParcel 21 rfl) c18 ?_
      refine p_ltS (P := fun q => p_Go K l m_SW_newParcel 48 [(1, p_r r8), (0, p_r v0)] [] q _) (p_xZ _ _ _ _) ?_ h
      intro s19 hs20 h
      refine g_aload_n (i := 1) (j := 0) (dk_SW_newParcel 22 rfl) rfl rfl ?_
      cases h
      exact g_ret rfl rfl (dk_SW_newParcel 23 rfl) (fun os => ⟨_, rfl⟩)
    · have h := p_ifF b11 h
      refine g_aconst_null (dk_SW_newParcel 12 rfl) ?_
      cases h
      exact g_ret rfl rfl (dk_SW_newParcel 13 rfl) (fun os => ⟨_, rfl⟩)
def m_Gear_isChute : p_Me := (⟨"SortWorks$Gear", "isChute", "()Z"⟩, prog_2_method_10_code, 1, (some .boolean), 0, 0)
theorem mt_Gear_isChute : p_Mt m_Gear_isChute 0 := ⟨p_mem (p_tb3 (List.mem_of_getElem? (i := 233) rfl)) rfl, tw_1_5, by decide +kernel, by decide +kernel, by decide +kernel⟩
def dt_Gear_isChute : List (Nat × Instr × Nat) := [(0, .aload_n 0, 1), (1, .getfield 35, 3), (4, .bipush 7, 2), (6, .if_icmp .eq 12, 3), (9, .aload_n 0, 1), (10, .getfield 35, 3), (13, .bipush 8, 2), (15, .if_icmp .ne 7, 3), (18, .iconst 1, 1), (19, .goto 4, 3), (22, .iconst 0, 1), (23, .ireturn, 1)]
theorem dk_Gear_isChute (i : Nat) {pc : Nat} {ins : Instr} {len : Nat} (h : dt_Gear_isChute[i]? = some (pc, ins, len)) : decode m_Gear_isChute.2.1 pc = .ok (ins, len) := p_dk (b := m_Gear_isChute.2.1) (t := dt_Gear_isChute) (by decide +kernel) i h
def B_Gear_isChute_18   (s0 : p_Hp) : Option (Int × p_Hp) :=
  some (1, s0)
def F_Gear_isChute (v0 : Nat) (s0 : p_Hp) : Option (Int × p_Hp) :=
  p_gd (p_is s0 v0 0) <|
  if (p_Z s0 v0 0) = 7 then
    B_Gear_isChute_18 s0
  else
    if (p_Z s0 v0 0) ≠ 8 then
      some (0, s0)
    else
      B_Gear_isChute_18 s0
set_option maxRecDepth 100000 in
set_option maxHeartbeats 4000000 in
theorem tB_Gear_isChute_18 (K : p_K) (l : Launch)   (s0 : p_Hp) (r : (Int × p_Hp)) (h : B_Gear_isChute_18  s0 = some r) : p_Go K l m_Gear_isChute 18 [] [] s0 (some (p_i r.1), r.2) := by
  unfold B_Gear_isChute_18 at h
  refine g_iconst (dk_Gear_isChute 8 rfl) (by decide) ?_
  refine g_goto 23 (dk_Gear_isChute 9 rfl) (by decide) ?_
  cases h
  exact g_ret rfl rfl (dk_Gear_isChute 11 rfl) (fun _ => ⟨_, rfl, Or.inr rfl⟩)
set_option maxRecDepth 100000 in
set_option maxHeartbeats 4000000 in
theorem tF_Gear_isChute (K : p_K) (l : Launch) (v0 : Nat) (s0 : p_Hp) (r : (Int × p_Hp)) (h : F_Gear_isChute v0 s0 = some r) : p_Ct K l m_Gear_isChute [p_r v0] s0 (some (p_i r.1), r.2) := by
  refine p_Ct.of (by decide +kernel) (Nat.le_of_ble_eq_true rfl) ?_
  unfold F_Gear_isChute at h
  show p_Go K l m_Gear_isChute 0 [(0, p_r v0)] [] s0 _
  refine g_aload_n (i := 0) (j := 0) (dk_Gear_isChute 0 rfl) rfl rfl ?_
  obtain ⟨c1, h⟩ := p_gdE h
  refine g_getI fl_Gear_35 (Or.inl rfl) (dk_Gear_isChute 1 rfl) c1 ?_
  refine g_bipush (dk_Gear_isChute 2 rfl) (by decide +kernel) (by decide) ?_
  refine g_icmp_eq 18 (dk_Gear_isChute 3 rfl) (by decide) (fun b2 => ?_) (fun b2 => ?_)
  · have h := p_ifT b2 h
    refine g_sub [] [] rfl ?_
    exact tB_Gear_isChute_18 K l s0 _ h
  · have h := p_ifF b2 h
    refine g_aload_n (i := 0) (j := 0) (dk_Gear_isChute 4 rfl) rfl rfl ?_
    refine g_getI fl_Gear_35 (Or.inl rfl) (dk_Gear_isChute 5 rfl) c1 ?_
    refine g_bipush (dk_Gear_isChute 6 rfl) (by decide +kernel) (by decide) ?_
    refine g_icmp_ne 22 (dk_Gear_isChute 7 rfl) (by decide) (fun b3 => ?_) (fun b3 => ?_)
    · have h := p_ifT b3 h
      refine g_iconst (dk_Gear_isChute 10 rfl) (by decide) ?_
      cases h
      exact g_ret rfl rfl (dk_Gear_isChute 11 rfl) (fun _ => ⟨_, rfl, Or.inl rfl⟩)
    · have h := p_ifF b3 h
      refine g_sub [] [] rfl ?_
      exact tB_Gear_isChute_18 K l s0 _ h
def m_Gear_isFreeAtStart : p_Me := (⟨"SortWorks$Gear", "isFreeAtStart", "()Z"⟩, prog_2_method_14_code, 1, (some .boolean), 0, 0)
theorem mt_Gear_isFreeAtStart : p_Mt m_Gear_isFreeAtStart 0 := ⟨p_mem (p_tb3 (List.mem_of_getElem? (i := 237) rfl)) rfl, tw_1_5, by decide +kernel, by decide +kernel, by decide +kernel⟩
def dt_Gear_isFreeAtStart : List (Nat × Instr × Nat) := [(0, .aload_n 0, 1), (1, .getfield 26, 3), (4, .iconst 0, 1), (5, .iaload, 1), (6, .ifCond .ne 7, 3), (9, .iconst 1, 1), (10, .goto 4, 3), (13, .iconst 0, 1), (14, .ireturn, 1)]
theorem dk_Gear_isFreeAtStart (i : Nat) {pc : Nat} {ins : Instr} {len : Nat} (h : dt_Gear_isFreeAtStart[i]? = some (pc, ins, len)) : decode m_Gear_isFreeAtStart.2.1 pc = .ok (ins, len) := p_dk (b := m_Gear_isFreeAtStart.2.1) (t := dt_Gear_isFreeAtStart) (by decide +kernel) i h
def F_Gear_isFreeAtStart (v0 : Nat) (s0 : p_Hp) : Option (Int × p_Hp) :=
  p_gd (p_is s0 v0 0) <|
  p_gd (p_is s0 (p_R s0 v0 17) 100) <|
  p_gd ((0 : Int) ≤ 0 ∧ 0 < (p_L s0 (p_R s0 v0 17) : Int)) <|
  if (p_Z s0 (p_R s0 v0 17) (0 : Int).toNat) ≠ 0 then
    some (0, s0)
  else
    some (1, s0)
set_option maxRecDepth 100000 in
set_option maxHeartbeats 4000000 in
theorem tF_Gear_isFreeAtStart (K : p_K) (l : Launch) (v0 : Nat) (s0 : p_Hp) (r : (Int × p_Hp)) (h : F_Gear_isFreeAtStart v0 s0 = some r) : p_Ct K l m_Gear_isFreeAtStart [p_r v0] s0 (some (p_i r.1), r.2) := by
  refine p_Ct.of (by decide +kernel) (Nat.le_of_ble_eq_true rfl) ?_
  unfold F_Gear_isFreeAtStart at h
  show p_Go K l m_Gear_isFreeAtStart 0 [(0, p_r v0)] [] s0 _
  refine g_aload_n (i := 0) (j := 0) (dk_Gear_isFreeAtStart 0 rfl) rfl rfl ?_
  obtain ⟨c1, h⟩ := p_gdE h
  refine g_getR fl_Gear_26 (Or.inr ⟨_, rfl⟩) (dk_Gear_isFreeAtStart 1 rfl) c1 ?_
  refine g_iconst (dk_Gear_isFreeAtStart 2 rfl) (by decide) ?_
  obtain ⟨c2, h⟩ := p_gdE h
  obtain ⟨c3, h⟩ := p_gdE h
  refine g_iaload (dk_Gear_isFreeAtStart 3 rfl) c2 c3.1 c3.2 ?_
  refine g_if_ne 13 (dk_Gear_isFreeAtStart 4 rfl) (by decide) (fun b4 => ?_) (fun b4 => ?_)
  · have h := p_ifT b4 h
    refine g_iconst (dk_Gear_isFreeAtStart 7 rfl) (by decide) ?_
    cases h
    exact g_ret rfl rfl (dk_Gear_isFreeAtStart 8 rfl) (fun _ => ⟨_, rfl, Or.inl rfl⟩)
  · have h := p_ifF b4 h
    refine g_iconst (dk_Gear_isFreeAtStart 5 rfl) (by decide) ?_
    refine g_goto 14 (dk_Gear_isFreeAtStart 6 rfl) (by decide) ?_
    cases h
    exact g_ret rfl rfl (dk_Gear_isFreeAtStart 8 rfl) (fun _ => ⟨_, rfl, Or.inr rfl⟩)
def m_State_setDown : p_Me := (⟨"SortWorks$State", "setDown", "(LSortWorks$Parcel;I)V"⟩, prog_9_method_11_code, 4, none, 0, 0)
theorem mt_State_setDown : p_Mt m_State_setDown 2 := ⟨p_mem (p_tb4 (List.mem_of_getElem? (i := 20) rfl)) rfl, tw_1_3, by decide +kernel, by decide +kernel, by decide +kernel⟩
def dt_State_setDown : List (Nat × Instr × Nat) := [(0, .aload_n 0, 1), (1, .getfield 13, 3), (4, .iload_n 2, 1), (5, .aaload, 1), (6, .astore_n 3, 1), (7, .aload_n 3, 1), (8, .getfield 79, 3), (11, .iconst 0, 1), (12, .aload_n 1, 1), (13, .getfield 119, 3), (16, .iastore, 1), (17, .aload_n 3, 1), (18, .dup, 1), (19, .getfield 122, 3), (22, .iconst 1, 1), (23, .iadd, 1), (24, .putfield 122, 3), (27, .aload_n 1, 1), (28, .iload_n 2, 1), (29, .putfield 77, 3), (32, .aload_n 1, 1), (33, .iconst 0, 1), (34, .putfield 82, 3), (37, .aload_n 1, 1), (38, .iconst 0, 1), (39, .putfield 123, 3), (42, .aload_n 1, 1), (43, .getfield 102, 3), (46, .bipush 16, 2), (48, .if_icmp .ge 13, 3), (51, .aload_n 1, 1), (52, .getfield 127, 3), (55, .aload_n 1, 1), (56, .getfield 102, 3), (59, .iload_n 2, 1), (60, .iastore, 1), (61, .aload_n 1, 1), (62, .dup, 1), (63, .getfield 102, 3), (66, .iconst 1, 1), (67, .iadd, 1), (68, .putfield 102, 3), (71, .return_, 1)]
theorem dk_State_setDown (i : Nat) {pc : Nat} {ins : Instr} {len : Nat} (h : dt_State_setDown[i]? = some (pc, ins, len)) : decode m_State_setDown.2.1 pc = .ok (ins, len) := p_dk (b := m_State_setDown.2.1) (t := dt_State_setDown) (by decide +kernel) i h
def B_State_setDown_61  (v1 : Nat) (s0 : p_Hp) : Option p_Hp :=
  p_gd (p_is s0 v1 4) <|
  p_bi (p_wZ s0 v1 9 (p_w ((p_Z s0 v1 9) + 1))) fun s2 =>
  some s2
def F_State_setDown (v0 : Nat) (v1 : Nat) (v2 : Int) (s0 : p_Hp) : Option p_Hp :=
  p_gd (p_is s0 v0 7) <|
  p_gd (p_is s0 (p_R s0 v0 4) 105) <|
  p_gd ((0 : Int) ≤ v2 ∧ v2 < (p_L s0 (p_R s0 v0 4) : Int)) <|
  p_bi ((p_R s0 (p_R s0 v0 4) (v2 : Int).toNat)) fun x4 =>
  p_gd (p_is s0 x4 0) <|
  p_gd (p_is s0 v1 4) <|
  p_gd (p_is s0 (p_R s0 x4 17) 100) <|
  p_gd ((0 : Int) ≤ 0 ∧ 0 < (p_L s0 (p_R s0 x4 17) : Int)) <|
  p_bi (p_wZ s0 (p_R s0 x4 17) (0 : Int).toNat (p_Z s0 v1 0)) fun s9 =>
  p_bi (p_wZ s9 x4 10 (p_w ((p_Z s9 x4 10) + 1))) fun s11 =>
  p_bi (p_wZ s11 v1 5 v2) fun s13 =>
  p_bi (p_wZ s13 v1 6 0) fun s15 =>
  p_bi (p_wZ s15 v1 7 0) fun s17 =>
  if 16 ≤ (p_Z s17 v1 9) then
    B_State_setDown_61 v1 s17
  else
    p_gd (p_is s17 (p_R s17 v1 10) 100) <|
    p_gd ((0 : Int) ≤ (p_Z s17 v1 9) ∧ (p_Z s17 v1 9) < (p_L s17 (p_R s17 v1 10) : Int)) <|
    p_bi (p_wZ s17 (p_R s17 v1 10) ((p_Z s17 v1 9) : Int).toNat v2) fun s22 =>
    B_State_setDown_61 v1 s22
set_option maxRecDepth 100000 in
set_option maxHeartbeats 4000000 in
theorem tB_State_setDown_61 (K : p_K) (l : Launch)  (v1 : Nat) (s0 : p_Hp) (r : p_Hp) (h : B_State_setDown_61 v1 s0 = some r) : p_Go K l m_State_setDown 61 [(1, p_r v1)] [] s0 (none, r) := by
  unfold B_State_setDown_61 at h
  refine g_aload_n (i := 1) (j := 0) (dk_State_setDown 36 rfl) rfl rfl ?_
  refine g_dup (dk_State_setDown 37 rfl) rfl ?_
  obtain ⟨c1, h⟩ := p_gdE h
  refine g_getI fl_State_102 (Or.inl rfl) (dk_State_setDown 38 rfl) c1 ?_
  refine g_iconst (dk_State_setDown 39 rfl) (by decide) ?_
  refine g_iadd (dk_State_setDown 40 rfl) ?_
  refine g_putI fl_State_102 (Or.inl rfl) (dk_State_setDown 41 rfl) c1 ?_
  refine p_ltS (P := fun q => p_Go K l m_State_setDown 71 [(1, p_r v1)] [] q _) (p_xZ _ _ _ _) ?_ h
  intro s2 hs3 h
  cases h
  exact g_ret rfl rfl (dk_State_setDown 42 rfl) (fun _ => rfl)
set_option maxRecDepth 100000 in
set_option maxHeartbeats 4000000 in
theorem tF_State_setDown (K : p_K) (l : Launch) (v0 : Nat) (v1 : Nat) (v2 : Int) (s0 : p_Hp) (r : p_Hp) (h : F_State_setDown v0 v1 v2 s0 = some r) : p_Ct K l m_State_setDown [p_r v0, p_r v1, p_i v2] s0 (none, r) := by
  refine p_Ct.of (by decide +kernel) (Nat.le_of_ble_eq_true rfl) ?_
  unfold F_State_setDown at h
  show p_Go K l m_State_setDown 0 [(0, p_r v0), (1, p_r v1), (2, p_i v2)] [] s0 _
  refine g_aload_n (i := 0) (j := 0) (dk_State_setDown 0 rfl) rfl rfl ?_
  obtain ⟨c1, h⟩ := p_gdE h
  refine g_getR fl_State_13 (Or.inr ⟨_, rfl⟩) (dk_State_setDown 1 rfl) c1 ?_
  refine g_iload_n (i := 2) (j := 2) (dk_State_setDown 2 rfl) rfl rfl ?_
  obtain ⟨c2, h⟩ := p_gdE h
  obtain ⟨c3, h⟩ := p_gdE h
  refine g_aaload (i := 5) rfl (Or.inl ⟨_, rfl⟩) (dk_State_setDown 3 rfl) c2 c3.1 c3.2 ?_
  refine g_astore_n (i := 3) [(3, p_r (p_R s0 (p_R s0 v0 4) (v2 : Int).toNat)), (0, p_r v0), (1, p_r v1), (2, p_i v2)] (dk_State_setDown 4 rfl) rfl (by decide) rfl ?_
  refine p_ltG (P := fun q => p_Go K l m_State_setDown 7 [(3, p_r q), (0, p_r v0), (1, p_r v1), (2, p_i v2)] [] s0 _) ?_ h
  intro x4 h
  refine g_aload_n (i := 3) (j := 0) (dk_State_setDown 5 rfl) rfl rfl ?_
  obtain ⟨c5, h⟩ := p_gdE h
  refine g_getR fl_State_79 (Or.inr ⟨_, rfl⟩) (dk_State_setDown 6 rfl) c5 ?_
  refine g_iconst (dk_State_setDown 7 rfl) (by decide) ?_
  refine g_aload_n (i := 1) (j := 2) (dk_State_setDown 8 rfl) rfl rfl ?_
  obtain ⟨c6, h⟩ := p_gdE h
  refine g_getI fl_State_119 (Or.inl rfl) (dk_State_setDown 9 rfl) c6 ?_
  obtain ⟨c7, h⟩ := p_gdE h
  obtain ⟨c8, h⟩ := p_gdE h
  refine g_iastore (dk_State_setDown 10 rfl) c7 c8.1 c8.2 ?_
  refine p_ltS (P := fun q => p_Go K l m_State_setDown 17 [(3, p_r x4), (0, p_r v0), (1, p_r v1), (2, p_i v2)] [] q _) (p_xZ _ _ _ _) ?_ h
  intro s9 hs10 h
  refine g_aload_n (i := 3) (j := 0) (dk_State_setDown 11 rfl) rfl rfl ?_
  refine g_dup (dk_State_setDown 12 rfl) rfl ?_
  refine g_getI fl_State_122 (Or.inl rfl) (dk_State_setDown 13 rfl) (c5.up hs10) ?_
  refine g_iconst (dk_State_setDown 14 rfl) (by decide) ?_
  refine g_iadd (dk_State_setDown 15 rfl) ?_
  refine g_putI fl_State_122 (Or.inl rfl) (dk_State_setDown 16 rfl) (c5.up hs10) ?_
  refine p_ltS (P := fun q => p_Go K l m_State_setDown 27 [(3, p_r x4), (0, p_r v0), (1, p_r v1), (2, p_i v2)] [] q _) (p_xZ _ _ _ _) ?_ h
  intro s11 hs12 h
  refine g_aload_n (i := 1) (j := 2) (dk_State_setDown 17 rfl) rfl rfl ?_
  refine g_iload_n (i := 2) (j := 3) (dk_State_setDown 18 rfl) rfl rfl ?_
  refine g_putI fl_State_77 (Or.inl rfl) (dk_State_setDown 19 rfl) (c6.up (hs10.trans hs12)) ?_
  refine p_ltS (P := fun q => p_Go K l m_State_setDown 32 [(3, p_r x4), (0, p_r v0), (1, p_r v1), (2, p_i v2)] [] q _) (p_xZ _ _ _ _) ?_ h
  intro s13 hs14 h
  refine g_aload_n (i := 1) (j := 2) (dk_State_setDown 20 rfl) rfl rfl ?_
  refine g_iconst (dk_State_setDown 21 rfl) (by decide) ?_
  refine g_putI fl_State_82 (Or.inl rfl) (dk_State_setDown 22 rfl) (c6.up (hs10.trans (hs12.trans hs14))) ?_
  refine p_ltS (P := fun q => p_Go K l m_State_setDown 37 [(3, p_r x4), (0, p_r v0), (1, p_r v1), (2, p_i v2)] [] q _) (p_xZ _ _ _ _) ?_ h
  intro s15 hs16 h
  refine g_aload_n (i := 1) (j := 2) (dk_State_setDown 23 rfl) rfl rfl ?_
  refine g_iconst (dk_State_setDown 24 rfl) (by decide) ?_
  refine g_putB fl_State_123 (Or.inl rfl) (dk_State_setDown 25 rfl) (c6.up (hs10.trans (hs12.trans (hs14.trans hs16)))) (Or.inl rfl) ?_
  refine p_ltS (P := fun q => p_Go K l m_State_setDown 42 [(3, p_r x4), (0, p_r v0), (1, p_r v1), (2, p_i v2)] [] q _) (p_xZ _ _ _ _) ?_ h
  intro s17 hs18 h
  refine g_aload_n (i := 1) (j := 2) (dk_State_setDown 26 rfl) rfl rfl ?_
  refine g_getI fl_State_102 (Or.inl rfl) (dk_State_setDown 27 rfl) (c6.up (hs10.trans (hs12.trans (hs14.trans (hs16.trans hs18))))) ?_
  refine g_bipush (dk_State_setDown 28 rfl) (by decide +kernel) (by decide) ?_
  refine g_icmp_ge 61 (dk_State_setDown 29 rfl) (by decide) (fun b19 => ?_) (fun b19 => ?_)
  · have h := p_ifT b19 h
    refine g_sub [(1, p_r v1)] [2] rfl ?_
    exact tB_State_setDown_61 K l v1 s17 _ h
  · have h := p_ifF b19 h
    refine g_aload_n (i := 1) (j := 2) (dk_State_setDown 30 rfl) rfl rfl ?_
    refine g_getR fl_State_127 (Or.inr ⟨_, rfl⟩) (dk_State_setDown 31 rfl) (c6.up (hs10.trans (hs12.trans (hs14.trans (hs16.trans hs18))))) ?_
    refine g_aload_n (i := 1) (j := 2) (dk_State_setDown 32 rfl) rfl rfl ?_
    refine g_getI fl_State_102 (Or.inl rfl) (dk_State_setDown 33 rfl) (c6.up (hs10.trans (hs12.trans (hs14.trans (hs16.trans hs18))))) ?_
    refine g_iload_n (i := 2) (j := 3) (dk_State_setDown 34 rfl) rfl rfl ?_
    obtain ⟨c20, h⟩ := p_gdE h
    obtain ⟨c21, h⟩ := p_gdE h
    refine g_iastore (dk_State_setDown 35 rfl) c20 c21.1 c21.2 ?_
    refine p_ltS (P := fun q => p_Go K l m_State_setDown 61 [(3, p_r x4), (0, p_r v0), (1, p_r v1), (2, p_i v2)] [] q _) (p_xZ _ _ _ _) ?_ h
    intro s22 hs23 h
    refine g_sub [(1, p_r v1)] [2] rfl ?_
    exact tB_State_setDown_61 K l v1 s22 _ h
def m_State_bringIn : p_Me := (⟨"SortWorks$State", "bringIn", "(LSortWorks$Parcel;III)V"⟩, prog_9_method_8_code, 5, none, 1, 23)
theorem mt_State_bringIn : p_Mt m_State_bringIn 4 := ⟨p_mem (p_tb4 (List.mem_of_getElem? (i := 16) rfl)) rfl, tw_1_3, by decide +kernel, by decide +kernel, by decide +kernel⟩
def dt_State_bringIn : List (Nat × Instr × Nat) := [(0, .aload_n 1, 1), (1, .iload_n 3, 1), (2, .putfield 93, 3), (5, .aload_n 1, 1), (6, .iload 4, 2), (8, .putfield 96, 3), (11, .aload_n 1, 1), (12, .bipush (-9), 2), (14, .putfield 99, 3), (17, .aload_n 1, 1), (18, .iconst 0, 1), (19, .putfield 102, 3), (22, .aload_n 1, 1), (23, .iconst (-1), 1), (24, .putfield 105, 3), (27, .aload_n 0, 1), (28, .dup, 1), (29, .getfield 50, 3), (32, .iconst 1, 1), (33, .iadd, 1), (34, .putfield 50, 3), (37, .aload_n 0, 1), (38, .dup, 1), (39, .getfield 53, 3), (42, .iconst 1, 1), (43, .iadd, 1), (44, .putfield 53, 3), (47, .aload_n 0, 1), (48, .aload_n 1, 1), (49, .iload_n 2, 1), (50, .invokevirtual 108, 3), (53, .return_, 1)]
theorem dk_State_bringIn (i : Nat) {pc : Nat} {ins : Instr} {len : Nat} (h : dt_State_bringIn[i]? = some (pc, ins, len)) : decode m_State_bringIn.2.1 pc = .ok (ins, len) := p_dk (b := m_State_bringIn.2.1) (t := dt_State_bringIn) (by decide +kernel) i h
def F_State_bringIn (v0 : Nat) (v1 : Nat) (v2 : Int) (v3 : Int) (v4 : Int) (s0 : p_Hp) : Option p_Hp :=
  p_gd (p_is s0 v1 4) <|
  p_bi (p_wZ s0 v1 2 v3) fun s2 =>
  p_bi (p_wZ s2 v1 3 v4) fun s4 =>
  p_bi (p_wZ s4 v1 4 (-9)) fun s6 =>
  p_bi (p_wZ s6 v1 9 0) fun s8 =>
  p_bi (p_wZ s8 v1 11 (-1)) fun s10 =>
  p_gd (p_is s10 v0 7) <|
  p_bi (p_wZ s10 v0 1 (p_w ((p_Z s10 v0 1) + 1))) fun s13 =>
  p_bi (p_wZ s13 v0 2 (p_w ((p_Z s13 v0 2) + 1))) fun s15 =>
  p_bv (F_State_setDown v0 v1 v2 s15) fun s17 =>
  some s17
set_option maxRecDepth 100000 in
set_option maxHeartbeats 4000000 in
theorem tF_State_bringIn (K : p_K) (l : Launch) (v0 : Nat) (v1 : Nat) (v2 : Int) (v3 : Int) (v4 : Int) (s0 : p_Hp) (r : p_Hp) (h : F_State_bringIn v0 v1 v2 v3 v4 s0 = some r) : p_Ct K l m_State_bringIn [p_r v0, p_r v1, p_i v2, p_i v3, p_i v4] s0 (none, r) := by
  refine p_Ct.of (by decide +kernel) (Nat.le_of_ble_eq_true rfl) ?_
  unfold F_State_bringIn at h
  show p_Go K l m_State_bringIn 0 [(0, p_r v0), (1, p_r v1), (2, p_i v2), (3, p_i v3), (4, p_i v4)] [] s0 _
  refine g_aload_n (i := 1) (j := 1) (dk_State_bringIn 0 rfl) rfl rfl ?_
  refine g_iload_n (i := 3) (j := 3) (dk_State_bringIn 1 rfl) rfl rfl ?_
  obtain ⟨c1, h⟩ := p_gdE h
  refine g_putI fl_State_93 (Or.inl rfl) (dk_State_bringIn 2 rfl) c1 ?_
  refine p_ltS (P := fun q => p_Go K l m_State_bringIn 5 [(0, p_r v0), (1, p_r v1), (2, p_i v2), (3, p_i v3), (4, p_i v4)] [] q _) (p_xZ _ _ _ _) ?_ h
  intro s2 hs3 h
  refine g_aload_n (i := 1) (j := 1) (dk_State_bringIn 3 rfl) rfl rfl ?_
  refine g_iload (j := 4) (dk_State_bringIn 4 rfl) rfl ?_
  refine g_putI fl_State_96 (Or.inl rfl) (dk_State_bringIn 5 rfl) (c1.up hs3) ?_
  refine p_ltS (P := fun q => p_Go K l m_State_bringIn 11 [(0, p_r v0), (1, p_r v1), (2, p_i v2), (3, p_i v3), (4, p_i v4)] [] q _) (p_xZ _ _ _ _) ?_ h
  intro s4 hs5 h
  refine g_aload_n (i := 1) (j := 1) (dk_State_bringIn 6 rfl) rfl rfl ?_
  refine g_bipush (dk_State_bringIn 7 rfl) (by decide +kernel) (by decide) ?_
  refine g_putI fl_State_99 (Or.inl rfl) (dk_State_bringIn 8 rfl) (c1.up (hs3.trans hs5)) ?_
  refine p_ltS (P := fun q => p_Go K l m_State_bringIn 17 [(0, p_r v0), (1, p_r v1), (2, p_i v2), (3, p_i v3), (4, p_i v4)] [] q _) (p_xZ _ _ _ _) ?_ h
  intro s6 hs7 h
  refine g_aload_n (i := 1) (j := 1) (dk_State_bringIn 9 rfl) rfl rfl ?_
  refine g_iconst (dk_State_bringIn 10 rfl) (by decide) ?_
  refine g_putI fl_State_102 (Or.inl rfl) (dk_State_bringIn 11 rfl) (c1.up (hs3.trans (hs5.trans hs7))) ?_
  refine p_ltS (P := fun q => p_Go K l m_State_bringIn 22 [(0, p_r v0), (1, p_r v1), (2, p_i v2), (3, p_i v3), (4, p_i v4)] [] q _) (p_xZ _ _ _ _) ?_ h
  intro s8 hs9 h
  refine g_aload_n (i := 1) (j := 1) (dk_State_bringIn 12 rfl) rfl rfl ?_
  refine g_iconst (dk_State_bringIn 13 rfl) (by decide) ?_
  refine g_putI fl_State_105 (Or.inl rfl) (dk_State_bringIn 14 rfl) (c1.up (hs3.trans (hs5.trans (hs7.trans hs9)))) ?_
  refine p_ltS (P := fun q => p_Go K l m_State_bringIn 27 [(0, p_r v0), (1, p_r v1), (2, p_i v2), (3, p_i v3), (4, p_i v4)] [] q _) (p_xZ _ _ _ _) ?_ h
  intro s10 hs11 h
  refine g_aload_n (i := 0) (j := 0) (dk_State_bringIn 15 rfl) rfl rfl ?_
  refine g_dup (dk_State_bringIn 16 rfl) rfl ?_
  obtain ⟨c12, h⟩ := p_gdE h
  refine g_getI fl_State_50 (Or.inl rfl) (dk_State_bringIn 17 rfl) c12 ?_
  refine g_iconst (dk_State_bringIn 18 rfl) (by decide) ?_
  refine g_iadd (dk_State_bringIn 19 rfl) ?_
  refine g_putI fl_State_50 (Or.inl rfl) (dk_State_bringIn 20 rfl) c12 ?_
  refine p_ltS (P := fun q => p_Go K l m_State_bringIn 37 [(0, p_r v0), (1, p_r v1), (2, p_i v2), (3, p_i v3), (4, p_i v4)] [] q _) (p_xZ _ _ _ _) ?_ h
  intro s13 hs14 h
  refine g_aload_n (i := 0) (j := 0) (dk_State_bringIn 21 rfl) rfl rfl ?_
  refine g_dup (dk_State_bringIn 22 rfl) rfl ?_
  refine g_getI fl_State_53 (Or.inl rfl) (dk_State_bringIn 23 rfl) (c12.up hs14) ?_
  refine g_iconst (dk_State_bringIn 24 rfl) (by decide) ?_
  refine g_iadd (dk_State_bringIn 25 rfl) ?_
  refine g_putI fl_State_53 (Or.inl rfl) (dk_State_bringIn 26 rfl) (c12.up hs14) ?_
  refine p_ltS (P := fun q => p_Go K l m_State_bringIn 47 [(0, p_r v0), (1, p_r v1), (2, p_i v2), (3, p_i v3), (4, p_i v4)] [] q _) (p_xZ _ _ _ _) ?_ h
  intro s15 hs16 h
  refine g_aload_n (i := 0) (j := 0) (dk_State_bringIn 27 rfl) rfl rfl ?_
  refine g_aload_n (i := 1) (j := 1) (dk_State_bringIn 28 rfl) rfl rfl ?_
  refine g_iload_n (i := 2) (j := 2) (dk_State_bringIn 29 rfl) rfl rfl ?_
  obtain ⟨s17, q18, h⟩ := p_bvE h
  have t19 := tF_State_setDown K l v0 v1 v2 s15 _ q18
  refine g_callV (a := v0) (ci := 7) (q0 := (RX7, TX7, 10)) (As := [p_r v1, p_i v2]) (rest := []) [] mt_State_setDown rfl rfl tw_4_19 ts_11 tw_4_17 ⟨Nat.le_of_ble_eq_true rfl, Nat.le_of_ble_eq_true rfl⟩ rfl (Nat.le_of_ble_eq_true rfl) (dk_State_bringIn 30 rfl) rfl (c12.up (hs14.trans hs16)) rfl t19 ?_
  have hs20 : p_x s15 s17 := t19.1
  show p_Go K l m_State_bringIn 53 [(0, p_r v0), (1, p_r v1), (2, p_i v2), (3, p_i v3), (4, p_i v4)] [] s17 _
  cases h
  exact g_ret rfl rfl (dk_State_bringIn 31 rfl) (fun _ => rfl)
def m_SW_come : p_Me := (⟨"SortWorks", "come", "(III)I"⟩, prog_1_method_16_code, 6, (some .int), 3, 62)
theorem mt_SW_come : p_Mt m_SW_come 3 := ⟨p_mem (p_tb3 (List.mem_of_getElem? (i := 229) rfl)) rfl, tw_1_1, by decide +kernel, by decide +kernel, by decide +kernel⟩
def dt_SW_come : List (Nat × Instr × Nat) := [(0, .aload_n 0, 1), (1, .getfield 18, 3), (4, .iload_n 1, 1), (5, .invokevirtual 98, 3), (8, .astore 4, 2), (10, .aload 4, 2), (12, .ifnonnull 9, 3), (15, .aload_n 0, 1), (16, .iconst (-1), 1), (17, .invokevirtual 61, 3), (20, .ireturn, 1), (21, .iload_n 2, 1), (22, .iconst 1, 1), (23, .if_icmp .lt 20, 3), (26, .iload_n 2, 1), (27, .sipush 999, 3), (30, .if_icmp .gt 13, 3), (33, .iload_n 3, 1), (34, .ifCond .lt 9, 3), (37, .iload_n 3, 1), (38, .bipush 9, 2), (40, .if_icmp .le 10, 3), (43, .aload_n 0, 1), (44, .bipush (-2), 2), (46, .invokevirtual 61, 3), (49, .ireturn, 1), (50, .aload 4, 2), (52, .invokevirtual 129, 3), (55, .ifCond .ne 10, 3), (58, .aload_n 0, 1), (59, .bipush (-12), 2), (61, .invokevirtual 61, 3), (64, .ireturn, 1), (65, .aload 4, 2), (67, .invokevirtual 177, 3), (70, .ifCond .ne 11, 3), (73, .aload 4, 2), (75, .invokevirtual 180, 3), (78, .ifCond .ne 10, 3), (81, .aload_n 0, 1), (82, .bipush (-3), 2), (84, .invokevirtual 61, 3), (87, .ireturn, 1), (88, .aload_n 0, 1), (89, .invokevirtual 183, 3), (92, .astore 5, 2), (94, .aload 5, 2), (96, .ifnonnull 10, 3), (99, .aload_n 0, 1), (100, .bipush (-4), 2), (102, .invokevirtual 61, 3), (105, .ireturn, 1), (106, .aload_n 0, 1), (107, .getfield 18, 3), (110, .getfield 77, 3), (113, .aload 5, 2), (115, .iload_n 1, 1), (116, .iload_n 2, 1), (117, .iload_n 3, 1), (118, .invokevirtual 187, 3), (121, .aload_n 0, 1), (122, .aload 5, 2), (124, .getfield 191, 3), (127, .invokevirtual 57, 3), (130, .ireturn, 1)]
theorem dk_SW_come (i : Nat) {pc : Nat} {ins : Instr} {len : Nat} (h : dt_SW_come[i]? = some (pc, ins, len)) : decode m_SW_come.2.1 pc = .ok (ins, len) := p_dk (b := m_SW_come.2.1) (t := dt_SW_come) (by decide +kernel) i h
def B_SW_come_43  (v0 : Nat) (s0 : p_Hp) : Option (Int × p_Hp) :=
  p_gd (p_is s0 v0 10) <|
  p_bd (F_SW_refuse v0 (-2) s0) fun r6 s2 =>
  some (r6, s2)
def B_SW_come_81  (v0 : Nat) (s0 : p_Hp) : Option (Int × p_Hp) :=
  p_gd (p_is s0 v0 10) <|
  p_bd (F_SW_refuse v0 (-3) s0) fun r6 s2 =>
  some (r6, s2)
def F_SW_come (v0 : Nat) (v1 : Int) (v2 : Int) (v3 : Int) (s0 : p_Hp) : Option (Int × p_Hp) :=
  p_gd (p_is s0 v0 10) <|
  p_gd (p_is s0 (p_R s0 v0 1) 9) <|
  p_bd (F_Works_gearOf (p_R s0 v0 1) v1 s0) fun r7 s3 =>
  if r7 ≠ 0 then
    if v2 < 1 then
      B_SW_come_43 v0 s3
    else
      if 999 < v2 then
        B_SW_come_43 v0 s3
      else
        if v3 < 0 then
          B_SW_come_43 v0 s3
        else
          if v3 ≤ 9 then
            p_gd (p_is s3 r7 0) <|
            p_bd (F_Gear_isTaker r7 s3) fun r18 s14 =>
            if r18 ≠ 0 then
              p_bd (F_Gear_isChute r7 s14) fun r24 s20 =>
              if r24 ≠ 0 then
                B_SW_come_81 v0 s20
              else
                p_bd (F_Gear_isFreeAtStart r7 s20) fun r30 s26 =>
                if r30 ≠ 0 then
                  p_bd (F_SW_newParcel v0 s26) fun r36 s32 =>
                  if r36 ≠ 0 then
                    p_gd (p_is s32 (p_R s32 v0 1) 9) <|
                    p_gd (p_is s32 (p_R s32 (p_R s32 v0 1) 1) 7) <|
                    p_bv (F_State_bringIn (p_R s32 (p_R s32 v0 1) 1) r36 v1 v2 v3 s32) fun s40 =>
                    p_gd (p_is s40 r36 4) <|
                    p_bd (F_SW_done v0 (p_Z s40 r36 1) s40) fun r49 s45 =>
                    some (r49, s45)
                  else
                    p_bd (F_SW_refuse v0 (-4) s32) fun r54 s50 =>
                    some (r54, s50)
                else
                  B_SW_come_81 v0 s26
            else
              p_bd (F_SW_refuse v0 (-12) s14) fun r59 s55 =>
              some (r59, s55)
          else
            B_SW_come_43 v0 s3
  else
    p_bd (F_SW_refuse v0 (-1) s3) fun r64 s60 =>
    some (r64, s60)
set_option maxRecDepth 100000 in
set_option maxHeartbeats 4000000 in
theorem tB_SW_come_43 (K : p_K) (l : Launch)  (v0 : Nat) (s0 : p_Hp) (r : (Int × p_Hp)) (h : B_SW_come_43 v0 s0 = some r) : p_Go K l m_SW_come 43 [(0, p_r v0)] [] s0 (some (p_i r.1), r.2) := by
  unfold B_SW_come_43 at h
  refine g_aload_n (i := 0) (j := 0) (dk_SW_come 22 rfl) rfl rfl ?_
  refine g_bipush (dk_SW_come 23 rfl) (by decide +kernel) (by decide) ?_
  obtain ⟨c1, h⟩ := p_gdE h
  obtain ⟨r6, s2, q3, h⟩ := p_bdE h
  have t4 := tF_SW_refuse K l v0 (-2) s0 _ q3
  refine g_callV (a := v0) (ci := 10) (q0 := (RX10, TX10, 9)) (As := [p_i (-2)]) (rest := []) [p_i r6] mt_SW_refuse rfl rfl tw_3_66 ts_0 tw_3_64 ⟨Nat.le_of_ble_eq_true rfl, Nat.le_of_ble_eq_true rfl⟩ rfl (Nat.le_of_ble_eq_true rfl) (dk_SW_come 24 rfl) rfl c1 rfl t4 ?_
  have hs5 : p_x s0 s2 := t4.1
  show p_Go K l m_SW_come 49 [(0, p_r v0)] [p_i r6] s2 _
  cases h
  exact g_ret rfl rfl (dk_SW_come 25 rfl) (fun os => ⟨_, rfl, p_okh os⟩)
set_option maxRecDepth 100000 in
set_option maxHeartbeats 4000000 in
theorem tB_SW_come_81 (K : p_K) (l : Launch)  (v0 : Nat) (s0 : p_Hp) (r : (Int × p_Hp)) (h : B_SW_come_81 v0 s0 = some r) : p_Go K l m_SW_come 81 [(0, p_r v0)] [] s0 (some (p_i r.1), r.2) := by
  unfold B_SW_come_81 at h
  refine g_aload_n (i := 0) (j := 0) (dk_SW_come 39 rfl) rfl rfl ?_
  refine g_bipush (dk_SW_come 40 rfl) (by decide +kernel) (by decide) ?_
  obtain ⟨c1, h⟩ := p_gdE h
  obtain ⟨r6, s2, q3, h⟩ := p_bdE h
  have t4 := tF_SW_refuse K l v0 (-3) s0 _ q3
  refine g_callV (a := v0) (ci := 10) (q0 := (RX10, TX10, 9)) (As := [p_i (-3)]) (rest := []) [p_i r6] mt_SW_refuse rfl rfl tw_3_66 ts_0 tw_3_64 ⟨Nat.le_of_ble_eq_true rfl, Nat.le_of_ble_eq_true rfl⟩ rfl (Nat.le_of_ble_eq_true rfl) (dk_SW_come 41 rfl) rfl c1 rfl t4 ?_
  have hs5 : p_x s0 s2 := t4.1
  show p_Go K l m_SW_come 87 [(0, p_r v0)] [p_i r6] s2 _
  cases h
  exact g_ret rfl rfl (dk_SW_come 42 rfl) (fun os => ⟨_, rfl, p_okh os⟩)
set_option maxRecDepth 100000 in
set_option maxHeartbeats 4000000 in
theorem tF_SW_come (K : p_K) (l : Launch) (v0 : Nat) (v1 : Int) (v2 : Int) (v3 : Int) (s0 : p_Hp) (r : (Int × p_Hp)) (h : F_SW_come v0 v1 v2 v3 s0 = some r) : p_Ct K l m_SW_come [p_r v0, p_i v1, p_i v2, p_i v3] s0 (some (p_i r.1), r.2) := by
  refine p_Ct.of (by decide +kernel) (Nat.le_of_ble_eq_true rfl) ?_
  unfold F_SW_come at h
  show p_Go K l m_SW_come 0 [(0, p_r v0), (1, p_i v1), (2, p_i v2), (3, p_i v3)] [] s0 _
  refine g_aload_n (i := 0) (j := 0) (dk_SW_come 0 rfl) rfl rfl ?_
  obtain ⟨c1, h⟩ := p_gdE h
  refine g_getR fl_SW_18 (Or.inl ⟨_, rfl⟩) (dk_SW_come 1 rfl) c1 ?_
  refine g_iload_n (i := 1) (j := 1) (dk_SW_come 2 rfl) rfl rfl ?_
  obtain ⟨c2, h⟩ := p_gdE h
  obtain ⟨r7, s3, q4, h⟩ := p_bdE h
  have t5 := tF_Works_gearOf K l (p_R s0 v0 1) v1 s0 _ q4
  refine g_callV (a := (p_R s0 v0 1)) (ci := 9) (q0 := (RX9, TX9, 15)) (As := [p_i v1]) (rest := []) [p_r r7] mt_Works_gearOf rfl rfl tw_3_104 tw_3_105 tw_3_103 ⟨Nat.le_of_ble_eq_true rfl, Nat.le_of_ble_eq_true rfl⟩ rfl (Nat.le_of_ble_eq_true rfl) (dk_SW_come 3 rfl) rfl c2 rfl t5 ?_
  have hs6 : p_x s0 s3 := t5.1
  show p_Go K l m_SW_come 8 [(0, p_r v0), (1, p_i v1), (2, p_i v2), (3, p_i v3)] [p_r r7] s3 _
  refine g_astore [(4, p_r r7), (0, p_r v0), (1, p_i v1), (2, p_i v2), (3, p_i v3)] (dk_SW_come 4 rfl) (by decide) rfl ?_
  refine g_aload (j := 0) (dk_SW_come 5 rfl) rfl ?_
  refine g_ifnonnull 21 (dk_SW_come 6 rfl) (by decide) (fun b8 => ?_) (fun b8 => ?_)
  · have h := p_ifT b8 h
    refine g_iload_n (i := 2) (j := 3) (dk_SW_come 11 rfl) rfl rfl ?_
    refine g_iconst (dk_SW_come 12 rfl) (by decide) ?_
    refine g_icmp_lt 43 (dk_SW_come 13 rfl) (by decide) (fun b9 => ?_) (fun b9 => ?_)
    · have h := p_ifT b9 h
      refine g_sub [(0, p_r v0)] [1] rfl ?_
      exact tB_SW_come_43 K l v0 s3 _ h
    · have h := p_ifF b9 h
      refine g_iload_n (i := 2) (j := 3) (dk_SW_come 14 rfl) rfl rfl ?_
      refine g_sipush (dk_SW_come 15 rfl) (by decide +kernel) (by decide) ?_
      refine g_icmp_gt 43 (dk_SW_come 16 rfl) (by decide) (fun b10 => ?_) (fun b10 => ?_)
      · have h := p_ifT b10 h
        refine g_sub [(0, p_r v0)] [1] rfl ?_
        exact tB_SW_come_43 K l v0 s3 _ h
      · have h := p_ifF b10 h
        refine g_iload_n (i := 3) (j := 4) (dk_SW_come 17 rfl) rfl rfl ?_
        refine g_if_lt 43 (dk_SW_come 18 rfl) (by decide) (fun b11 => ?_) (fun b11 => ?_)
        · have h := p_ifT b11 h
          refine g_sub [(0, p_r v0)] [1] rfl ?_
          exact tB_SW_come_43 K l v0 s3 _ h
        · have h := p_ifF b11 h
          refine g_iload_n (i := 3) (j := 4) (dk_SW_come 19 rfl) rfl rfl ?_
          refine g_bipush (dk_SW_come 20 rfl) (by decide +kernel) (by decide) ?_
          refine g_icmp_le 50 (dk_SW_come 21 rfl) (by decide) (fun b12 => ?_) (fun b12 => ?_)
          · have h := p_ifT b12 h
            refine g_aload (j := 0) (dk_SW_come 26 rfl) rfl ?_
            obtain ⟨c13, h⟩ := p_gdE h
            obtain ⟨r18, s14, q15, h⟩ := p_bdE h
            have t16 := tF_Gear_isTaker K l r7 s3 _ q15
            refine g_callV (a := r7) (ci := 0) (q0 := (RX0, TX0, 20)) (As := []) (rest := []) [p_i r18] mt_Gear_isTaker rfl rfl tw_3_142 tw_3_143 tw_3_141 ⟨Nat.le_of_ble_eq_true rfl, Nat.le_of_ble_eq_true rfl⟩ rfl (Nat.le_of_ble_eq_true rfl) (dk_SW_come 27 rfl) rfl c13 rfl t16 ?_
            have hs17 : p_x s3 s14 := t16.1
            show p_Go K l m_SW_come 55 [(4, p_r r7), (0, p_r v0), (1, p_i v1), (2, p_i v2), (3, p_i v3)] [p_i r18] s14 _
            refine g_if_ne 65 (dk_SW_come 28 rfl) (by decide) (fun b19 => ?_) (fun b19 => ?_)
            · have h := p_ifT b19 h
              refine g_aload (j := 0) (dk_SW_come 33 rfl) rfl ?_
              obtain ⟨r24, s20, q21, h⟩ := p_bdE h
              have t22 := tF_Gear_isChute K l r7 s14 _ q21
              refine g_callV (a := r7) (ci := 0) (q0 := (RX0, TX0, 20)) (As := []) (rest := []) [p_i r24] mt_Gear_isChute rfl rfl tw_3_231 tw_3_232 tw_3_230 ⟨Nat.le_of_ble_eq_true rfl, Nat.le_of_ble_eq_true rfl⟩ rfl (Nat.le_of_ble_eq_true rfl) (dk_SW_come 34 rfl) rfl (c13.up hs17) rfl t22 ?_
              have hs23 : p_x s14 s20 := t22.1
              show p_Go K l m_SW_come 70 [(4, p_r r7), (0, p_r v0), (1, p_i v1), (2, p_i v2), (3, p_i v3)] [p_i r24] s20 _
              refine g_if_ne 81 (dk_SW_come 35 rfl) (by decide) (fun b25 => ?_) (fun b25 => ?_)
              · have h := p_ifT b25 h
                refine g_sub [(0, p_r v0)] [1] rfl ?_
                exact tB_SW_come_81 K l v0 s20 _ h
              · have h := p_ifF b25 h
                refine g_aload (j := 0) (dk_SW_come 36 rfl) rfl ?_
                obtain ⟨r30, s26, q27, h⟩ := p_bdE h
                have t28 := tF_Gear_isFreeAtStart K l r7 s20 _ q27
                refine g_callV (a := r7) (ci := 0) (q0 := (RX0, TX0, 20)) (As := []) (rest := []) [p_i r30] mt_Gear_isFreeAtStart rfl rfl tw_3_235 tw_3_236 tw_3_234 ⟨Nat.le_of_ble_eq_true rfl, Nat.le_of_ble_eq_true rfl⟩ rfl (Nat.le_of_ble_eq_true rfl) (dk_SW_come 37 rfl) rfl (c13.up (hs17.trans hs23)) rfl t28 ?_
                have hs29 : p_x s20 s26 := t28.1
                show p_Go K l m_SW_come 78 [(4, p_r r7), (0, p_r v0), (1, p_i v1), (2, p_i v2), (3, p_i v3)] [p_i r30] s26 _
                refine g_if_ne 88 (dk_SW_come 38 rfl) (by decide) (fun b31 => ?_) (fun b31 => ?_)
                · have h := p_ifT b31 h
                  refine g_aload_n (i := 0) (j := 1) (dk_SW_come 43 rfl) rfl rfl ?_
                  obtain ⟨r36, s32, q33, h⟩ := p_bdE h
                  have t34 := tF_SW_newParcel K l v0 s26 _ q33
                  refine g_callV (a := v0) (ci := 10) (q0 := (RX10, TX10, 9)) (As := []) (rest := []) [p_r r36] mt_SW_newParcel rfl rfl tw_4_0 ts_10 tw_3_238 ⟨Nat.le_of_ble_eq_true rfl, Nat.le_of_ble_eq_true rfl⟩ rfl (Nat.le_of_ble_eq_true rfl) (dk_SW_come 44 rfl) rfl (c1.up (hs6.trans (hs17.trans (hs23.trans hs29)))) rfl t34 ?_
                  have hs35 : p_x s26 s32 := t34.1
                  show p_Go K l m_SW_come 92 [(4, p_r r7), (0, p_r v0), (1, p_i v1), (2, p_i v2), (3, p_i v3)] [p_r r36] s32 _
                  refine g_astore [(5, p_r r36), (4, p_r r7), (0, p_r v0), (1, p_i v1), (2, p_i v2), (3, p_i v3)] (dk_SW_come 45 rfl) (by decide) rfl ?_
                  refine g_aload (j := 0) (dk_SW_come 46 rfl) rfl ?_
                  refine g_ifnonnull 106 (dk_SW_come 47 rfl) (by decide) (fun b37 => ?_) (fun b37 => ?_)
                  · have h := p_ifT b37 h
                    refine g_aload_n (i := 0) (j := 2) (dk_SW_come 52 rfl) rfl rfl ?_
                    refine g_getR fl_SW_18 (Or.inl ⟨_, rfl⟩) (dk_SW_come 53 rfl) (c1.up (hs6.trans (hs17.trans (hs23.trans (hs29.trans hs35))))) ?_
                    obtain ⟨c38, h⟩ := p_gdE h
                    refine g_getR fl_SW_77 (Or.inl ⟨_, rfl⟩) (dk_SW_come 54 rfl) c38 ?_
                    refine g_aload (j := 0) (dk_SW_come 55 rfl) rfl ?_
                    refine g_iload_n (i := 1) (j := 3) (dk_SW_come 56 rfl) rfl rfl ?_
                    refine g_iload_n (i := 2) (j := 4) (dk_SW_come 57 rfl) rfl rfl ?_
                    refine g_iload_n (i := 3) (j := 5) (dk_SW_come 58 rfl) rfl rfl ?_
                    obtain ⟨c39, h⟩ := p_gdE h
                    obtain ⟨s40, q41, h⟩ := p_bvE h
                    have t42 := tF_State_bringIn K l (p_R s32 (p_R s32 v0 1) 1) r36 v1 v2 v3 s32 _ q41
                    refine g_callV (a := (p_R s32 (p_R s32 v0 1) 1)) (ci := 7) (q0 := (RX7, TX7, 10)) (As := [p_r r36, p_i v1, p_i v2, p_i v3]) (rest := []) [] mt_State_bringIn rfl rfl tw_4_14 tw_4_15 tw_4_13 ⟨Nat.le_of_ble_eq_true rfl, Nat.le_of_ble_eq_true rfl⟩ rfl (Nat.le_of_ble_eq_true rfl) (dk_SW_come 59 rfl) rfl c39 rfl t42 ?_
                    have hs43 : p_x s32 s40 := t42.1
                    show p_Go K l m_SW_come 121 [(5, p_r r36), (4, p_r r7), (0, p_r v0), (1, p_i v1), (2, p_i v2), (3, p_i v3)] [] s40 _
                    refine g_aload_n (i := 0) (j := 2) (dk_SW_come 60 rfl) rfl rfl ?_
                    refine g_aload (j := 0) (dk_SW_come 61 rfl) rfl ?_
                    obtain ⟨c44, h⟩ := p_gdE h
                    refine g_getI fl_SW_191 (Or.inl rfl) (dk_SW_come 62 rfl) c44 ?_
                    obtain ⟨r49, s45, q46, h⟩ := p_bdE h
                    have t47 := tF_SW_done K l v0 (p_Z s40 r36 1) s40 _ q46
                    refine g_callV (a := v0) (ci := 10) (q0 := (RX10, TX10, 9)) (As := [p_i (p_Z s40 r36 1)]) (rest := []) [p_i r49] mt_SW_done rfl rfl tw_3_70 ts_1 tw_3_68 ⟨Nat.le_of_ble_eq_true rfl, Nat.le_of_ble_eq_true rfl⟩ rfl (Nat.le_of_ble_eq_true rfl) (dk_SW_come 63 rfl) rfl (c1.up (hs6.trans (hs17.trans (hs23.trans (hs29.trans (hs35.trans hs43)))))) rfl t47 ?_
                    have hs48 : p_x s40 s45 := t47.1
                    show p_Go K l m_SW_come 130 [(5, p_r r36), (4, p_r r7), (0, p_r v0), (1, p_i v1), (2, p_i v2), (3, p_i v3)] [p_i r49] s45 _
                    cases h
                    exact g_ret rfl rfl (dk_SW_come 64 rfl) (fun os => ⟨_, rfl, p_okh os⟩)
                  · have h := p_ifF b37 h
                    refine g_aload_n (i := 0) (j := 2) (dk_SW_come 48 rfl) rfl rfl ?_
                    refine g_bipush (dk_SW_come 49 rfl) (by decide +kernel) (by decide) ?_
                    obtain ⟨r54, s50, q51, h⟩ := p_bdE h
                    have t52 := tF_SW_refuse K l v0 (-4) s32 _ q51
                    refine g_callV (a := v0) (ci := 10) (q0 := (RX10, TX10, 9)) (As := [p_i (-4)]) (rest := []) [p_i r54] mt_SW_refuse rfl rfl tw_3_66 ts_0 tw_3_64 ⟨Nat.le_of_ble_eq_true rfl, Nat.le_of_ble_eq_true rfl⟩ rfl (Nat.le_of_ble_eq_true rfl) (dk_SW_come 50 rfl) rfl (c1.up (hs6.trans (hs17.trans (hs23.trans (hs29.trans hs35))))) rfl t52 ?_
                    have hs53 : p_x s32 s50 := t52.1
                    show p_Go K l m_SW_come 105 [(5, p_r r36), (4, p_r r7), (0, p_r v0), (1, p_i v1), (2, p_i v2), (3, p_i v3)] [p_i r54] s50 _
                    cases h
                    exact g_ret rfl rfl (dk_SW_come 51 rfl) (fun os => ⟨_, rfl, p_okh os⟩)
                · have h := p_ifF b31 h
                  refine g_sub [(0, p_r v0)] [1] rfl ?_
                  exact tB_SW_come_81 K l v0 s26 _ h
            · have h := p_ifF b19 h
              refine g_aload_n (i := 0) (j := 1) (dk_SW_come 29 rfl) rfl rfl ?_
              refine g_bipush (dk_SW_come 30 rfl) (by decide +kernel) (by decide) ?_
              obtain ⟨r59, s55, q56, h⟩ := p_bdE h
              have t57 := tF_SW_refuse K l v0 (-12) s14 _ q56
              refine g_callV (a := v0) (ci := 10) (q0 := (RX10, TX10, 9)) (As := [p_i (-12)]) (rest := []) [p_i r59] mt_SW_refuse rfl rfl tw_3_66 ts_0 tw_3_64 ⟨Nat.le_of_ble_eq_true rfl, Nat.le_of_ble_eq_true rfl⟩ rfl (Nat.le_of_ble_eq_true rfl) (dk_SW_come 31 rfl) rfl (c1.up (hs6.trans hs17)) rfl t57 ?_
              have hs58 : p_x s14 s55 := t57.1
              show p_Go K l m_SW_come 64 [(4, p_r r7), (0, p_r v0), (1, p_i v1), (2, p_i v2), (3, p_i v3)] [p_i r59] s55 _
              cases h
              exact g_ret rfl rfl (dk_SW_come 32 rfl) (fun os => ⟨_, rfl, p_okh os⟩)
          · have h := p_ifF b12 h
            refine g_sub [(0, p_r v0)] [1] rfl ?_
            exact tB_SW_come_43 K l v0 s3 _ h
  · have h := p_ifF b8 h
    refine g_aload_n (i := 0) (j := 1) (dk_SW_come 7 rfl) rfl rfl ?_
    refine g_iconst (dk_SW_come 8 rfl) (by decide) ?_
    obtain ⟨r64, s60, q61, h⟩ := p_bdE h
    have t62 := tF_SW_refuse K l v0 (-1) s3 _ q61
    refine g_callV (a := v0) (ci := 10) (q0 := (RX10, TX10, 9)) (As := [p_i (-1)]) (rest := []) [p_i r64] mt_SW_refuse rfl rfl tw_3_66 ts_0 tw_3_64 ⟨Nat.le_of_ble_eq_true rfl, Nat.le_of_ble_eq_true rfl⟩ rfl (Nat.le_of_ble_eq_true rfl) (dk_SW_come 9 rfl) rfl (c1.up hs6) rfl t62 ?_
    have hs63 : p_x s3 s60 := t62.1
    show p_Go K l m_SW_come 20 [(4, p_r r7), (0, p_r v0), (1, p_i v1), (2, p_i v2), (3, p_i v3)] [p_i r64] s60 _
    cases h
    exact g_ret rfl rfl (dk_SW_come 10 rfl) (fun os => ⟨_, rfl, p_okh os⟩)
def m_State_find : p_Me := (⟨"SortWorks$State", "find", "(I)LSortWorks$Parcel;"⟩, prog_9_method_4_code, 3, (some (.object "SortWorks$Parcel")), 0, 0)
theorem mt_State_find : p_Mt m_State_find 1 := ⟨p_mem (p_tb4 (List.mem_of_getElem? (i := 28) rfl)) rfl, tw_1_3, by decide +kernel, by decide +kernel, by decide +kernel⟩
def dt_State_find : List (Nat × Instr × Nat) := [(0, .iload_n 1, 1), (1, .iconst 1, 1), (2, .if_icmp .ge 5, 3), (5, .aconst_null, 1), (6, .areturn, 1), (7, .iconst 1, 1), (8, .istore_n 2, 1), (9, .iload_n 2, 1), (10, .bipush 30, 2), (12, .if_icmp .gt 29, 3), (15, .aload_n 0, 1), (16, .getfield 19, 3), (19, .iload_n 2, 1), (20, .aaload, 1), (21, .getfield 74, 3), (24, .iload_n 1, 1), (25, .if_icmp .ne 10, 3), (28, .aload_n 0, 1), (29, .getfield 19, 3), (32, .iload_n 2, 1), (33, .aaload, 1), (34, .areturn, 1), (35, .iinc 2 1, 3), (38, .goto (-29), 3), (41, .aconst_null, 1), (42, .areturn, 1)]
theorem dk_State_find (i : Nat) {pc : Nat} {ins : Instr} {len : Nat} (h : dt_State_find[i]? = some (pc, ins, len)) : decode m_State_find.2.1 pc = .ok (ins, len) := p_dk (b := m_State_find.2.1) (t := dt_State_find) (by decide +kernel) i h
def L_State_find_9 (k9 : Nat → Int → Int → p_Hp → Option (Nat × p_Hp)) (v0 : Nat) (v1 : Int) (v2 : Int) (s0 : p_Hp) : Option (Nat × p_Hp) :=
  if 30 < v2 then
    some (0, s0)
  else
    p_gd (p_is s0 v0 7) <|
    p_gd (p_is s0 (p_R s0 v0 5) 106) <|
    p_gd ((0 : Int) ≤ v2 ∧ v2 < (p_L s0 (p_R s0 v0 5) : Int)) <|
    p_gd (p_is s0 (p_R s0 (p_R s0 v0 5) (v2 : Int).toNat) 4) <|
    if (p_Z s0 (p_R s0 (p_R s0 v0 5) (v2 : Int).toNat) 1) ≠ v1 then
      p_bi (p_w (v2 + 1)) fun x7 =>
      k9 v0 v1 x7 s0
    else
      p_gd ((0 : Int) ≤ v2 ∧ v2 < (p_L s0 (p_R s0 v0 5) : Int)) <|
      some ((p_R s0 (p_R s0 v0 5) (v2 : Int).toNat), s0)
def O_State_find_9  : Nat → Nat → Int → Int → p_Hp → Option (Nat × p_Hp)
  | 0 => fun _ _ _ _ => none
  | n + 1 => L_State_find_9 (O_State_find_9 n)
def F_State_find (v0 : Nat) (v1 : Int) (s0 : p_Hp) : Option (Nat × p_Hp) :=
  if 1 ≤ v1 then
    O_State_find_9 3000 v0 v1 1 s0
  else
    some (0, s0)
set_option maxRecDepth 100000 in
set_option maxHeartbeats 4000000 in
theorem tL_State_find_9 (K : p_K) (l : Launch) (k9 : Nat → Int → Int → p_Hp → Option (Nat × p_Hp)) (hk9 : ∀ (v0 : Nat) (v1 : Int) (v2 : Int)  (s0 : p_Hp) (r : (Nat × p_Hp)), k9 v0 v1 v2 s0 = some r → p_Go K l m_State_find 9 [(0, p_r v0), (1, p_i v1), (2, p_i v2)] [] s0 (some (p_r r.1), r.2)) (v0 : Nat) (v1 : Int) (v2 : Int) (s0 : p_Hp) (r : (Nat × p_Hp)) (h : L_State_find_9 k9 v0 v1 v2 s0 = some r) : p_Go K l m_State_find 9 [(0, p_r v0), (1, p_i v1), (2, p_i v2)] [] s0 (some (p_r r.1), r.2) := by
  unfold L_State_find_9 at h
  refine g_iload_n (i := 2) (j := 2) (dk_State_find 7 rfl) rfl rfl ?_
  refine g_bipush (dk_State_find 8 rfl) (by decide +kernel) (by decide) ?_
  refine g_icmp_gt 41 (dk_State_find 9 rfl) (by decide) (fun b1 => ?_) (fun b1 => ?_)
  · have h := p_ifT b1 h
    refine g_aconst_null (dk_State_find 24 rfl) ?_
    cases h
    exact g_ret rfl rfl (dk_State_find 25 rfl) (fun os => ⟨_, rfl⟩)
  · have h := p_ifF b1 h
    refine g_aload_n (i := 0) (j := 0) (dk_State_find 10 rfl) rfl rfl ?_
    obtain ⟨c2, h⟩ := p_gdE h
    refine g_getR fl_State_19 (Or.inr ⟨_, rfl⟩) (dk_State_find 11 rfl) c2 ?_
    refine g_iload_n (i := 2) (j := 2) (dk_State_find 12 rfl) rfl rfl ?_
    obtain ⟨c3, h⟩ := p_gdE h
    obtain ⟨c4, h⟩ := p_gdE h
    refine g_aaload (i := 6) rfl (Or.inl ⟨_, rfl⟩) (dk_State_find 13 rfl) c3 c4.1 c4.2 ?_
    obtain ⟨c5, h⟩ := p_gdE h
    refine g_getI fl_State_74 (Or.inl rfl) (dk_State_find 14 rfl) c5 ?_
    refine g_iload_n (i := 1) (j := 1) (dk_State_find 15 rfl) rfl rfl ?_
    refine g_icmp_ne 35 (dk_State_find 16 rfl) (by decide) (fun b6 => ?_) (fun b6 => ?_)
    · have h := p_ifT b6 h
      refine g_iinc (j := 2) [(2, p_i (p_w (v2 + 1))), (0, p_r v0), (1, p_i v1)] (dk_State_find 22 rfl) rfl (by decide) rfl ?_
      refine p_ltG (P := fun q => p_Go K l m_State_find 38 [(2, p_i q), (0, p_r v0), (1, p_i v1)] [] s0 _) ?_ h
      intro x7 h
      refine g_goto 9 (dk_State_find 23 rfl) (by decide) ?_
      refine g_sub [(0, p_r v0), (1, p_i v1), (2, p_i x7)] [1, 2, 0] rfl ?_
      exact hk9 v0 v1 x7 s0 _ h
    · have h := p_ifF b6 h
      refine g_aload_n (i := 0) (j := 0) (dk_State_find 17 rfl) rfl rfl ?_
      refine g_getR fl_State_19 (Or.inr ⟨_, rfl⟩) (dk_State_find 18 rfl) c2 ?_
      refine g_iload_n (i := 2) (j := 2) (dk_State_find 19 rfl) rfl rfl ?_
      obtain ⟨c8, h⟩ := p_gdE h
      refine g_aaload (i := 6) rfl (Or.inl ⟨_, rfl⟩) (dk_State_find 20 rfl) c3 c8.1 c8.2 ?_
      cases h
      exact g_ret rfl rfl (dk_State_find 21 rfl) (fun os => ⟨_, rfl⟩)
set_option maxRecDepth 100000 in
set_option maxHeartbeats 4000000 in
theorem tO_State_find_9 (K : p_K) (l : Launch)  : ∀ (n : Nat) (v0 : Nat) (v1 : Int) (v2 : Int) (s0 : p_Hp) (r : (Nat × p_Hp)), O_State_find_9 n v0 v1 v2 s0 = some r → p_Go K l m_State_find 9 [(0, p_r v0), (1, p_i v1), (2, p_i v2)] [] s0 (some (p_r r.1), r.2) := by
  intro n
  induction n with
  | zero => intro v0 v1 v2 s0 r h; cases (show (none : Option (Nat × p_Hp)) = some r from h)
  | succ n ih => intro v0 v1 v2 s0 r h; exact tL_State_find_9 K l _ ih v0 v1 v2 s0 r h
set_option maxRecDepth 100000 in
set_option maxHeartbeats 4000000 in
theorem tF_State_find (K : p_K) (l : Launch) (v0 : Nat) (v1 : Int) (s0 : p_Hp) (r : (Nat × p_Hp)) (h : F_State_find v0 v1 s0 = some r) : p_Ct K l m_State_find [p_r v0, p_i v1] s0 (some (p_r r.1), r.2) := by
  refine p_Ct.of (by decide +kernel) (Nat.le_of_ble_eq_true rfl) ?_
  unfold F_State_find at h
  show p_Go K l m_State_find 0 [(0, p_r v0), (1, p_i v1)] [] s0 _
  refine g_iload_n (i := 1) (j := 1) (dk_State_find 0 rfl) rfl rfl ?_
  refine g_iconst (dk_State_find 1 rfl) (by decide) ?_
  refine g_icmp_ge 7 (dk_State_find 2 rfl) (by decide) (fun b1 => ?_) (fun b1 => ?_)
  · have h := p_ifT b1 h
    refine g_iconst (dk_State_find 5 rfl) (by decide) ?_
    refine g_istore_n (i := 2) [(2, p_i 1), (0, p_r v0), (1, p_i v1)] (dk_State_find 6 rfl) rfl (by decide) rfl ?_
    refine g_sub [(0, p_r v0), (1, p_i v1), (2, p_i 1)] [1, 2, 0] rfl ?_
    exact tO_State_find_9 K l 3000 v0 v1 1 s0 _ h
  · have h := p_ifF b1 h
    refine g_aconst_null (dk_State_find 3 rfl) ?_
    cases h
    exact g_ret rfl rfl (dk_State_find 4 rfl) (fun os => ⟨_, rfl⟩)
def m_SW_label : p_Me := (⟨"SortWorks", "label", "(II)I"⟩, prog_1_method_18_code, 4, (some .int), 1, 23)
theorem mt_SW_label : p_Mt m_SW_label 2 := ⟨p_mem (p_tb4 (List.mem_of_getElem? (i := 24) rfl)) rfl, tw_1_1, by decide +kernel, by decide +kernel, by decide +kernel⟩
def dt_SW_label : List (Nat × Instr × Nat) := [(0, .aload_n 0, 1), (1, .getfield 18, 3), (4, .getfield 77, 3), (7, .iload_n 1, 1), (8, .invokevirtual 203, 3), (11, .astore_n 3, 1), (12, .aload_n 3, 1), (13, .ifnonnull 9, 3), (16, .aload_n 0, 1), (17, .iconst (-1), 1), (18, .invokevirtual 61, 3), (21, .ireturn, 1), (22, .iload_n 2, 1), (23, .bipush 12, 2), (25, .if_icmp .le 10, 3), (28, .aload_n 0, 1), (29, .bipush (-2), 2), (31, .invokevirtual 61, 3), (34, .ireturn, 1), (35, .iload_n 2, 1), (36, .iconst (-1), 1), (37, .if_icmp .ge 10, 3), (40, .aload_n 0, 1), (41, .bipush (-15), 2), (43, .invokevirtual 61, 3), (46, .ireturn, 1), (47, .aload_n 3, 1), (48, .getfield 207, 3), (51, .iconst 0, 1), (52, .invokestatic 105, 3), (55, .aload_n 3, 1), (56, .iload_n 2, 1), (57, .putfield 210, 3), (60, .aload_n 0, 1), (61, .iload_n 2, 1), (62, .invokevirtual 57, 3), (65, .ireturn, 1)]
theorem dk_SW_label (i : Nat) {pc : Nat} {ins : Instr} {len : Nat} (h : dt_SW_label[i]? = some (pc, ins, len)) : decode m_SW_label.2.1 pc = .ok (ins, len) := p_dk (b := m_SW_label.2.1) (t := dt_SW_label) (by decide +kernel) i h
def F_SW_label (v0 : Nat) (v1 : Int) (v2 : Int) (s0 : p_Hp) : Option (Int × p_Hp) :=
  p_gd (p_is s0 v0 10) <|
  p_gd (p_is s0 (p_R s0 v0 1) 9) <|
  p_gd (p_is s0 (p_R s0 (p_R s0 v0 1) 1) 7) <|
  p_bd (F_State_find (p_R s0 (p_R s0 v0 1) 1) v1 s0) fun r8 s4 =>
  if r8 ≠ 0 then
    if v2 ≤ 12 then
      if (-1) ≤ v2 then
        p_gd (p_is s4 r8 4) <|
        p_bv (F_Ar_fill_0 (p_R s4 r8 12) 0 s4) fun s13 =>
        p_bi (p_wZ s13 r8 11 v2) fun s17 =>
        p_bd (F_SW_done v0 v2 s17) fun r23 s19 =>
        some (r23, s19)
      else
        p_bd (F_SW_refuse v0 (-15) s4) fun r28 s24 =>
        some (r28, s24)
    else
      p_bd (F_SW_refuse v0 (-2) s4) fun r33 s29 =>
      some (r33, s29)
  else
    p_bd (F_SW_refuse v0 (-1) s4) fun r38 s34 =>
    some (r38, s34)
set_option maxRecDepth 100000 in
set_option maxHeartbeats 4000000 in
theorem tF_SW_label (K : p_K) (l : Launch) (v0 : Nat) (v1 : Int) (v2 : Int) (s0 : p_Hp) (r : (Int × p_Hp)) (h : F_SW_label v0 v1 v2 s0 = some r) : p_Ct K l m_SW_label [p_r v0, p_i v1, p_i v2] s0 (some (p_i r.1), r.2) := by
  refine p_Ct.of (by decide +kernel) (Nat.le_of_ble_eq_true rfl) ?_
  unfold F_SW_label at h
  show p_Go K l m_SW_label 0 [(0, p_r v0), (1, p_i v1), (2, p_i v2)] [] s0 _
  refine g_aload_n (i := 0) (j := 0) (dk_SW_label 0 rfl) rfl rfl ?_
  obtain ⟨c1, h⟩ := p_gdE h
  refine g_getR fl_SW_18 (Or.inl ⟨_, rfl⟩) (dk_SW_label 1 rfl) c1 ?_
  obtain ⟨c2, h⟩ := p_gdE h
  refine g_getR fl_SW_77 (Or.inl ⟨_, rfl⟩) (dk_SW_label 2 rfl) c2 ?_
  refine g_iload_n (i := 1) (j := 1) (dk_SW_label 3 rfl) rfl rfl ?_
  obtain ⟨c3, h⟩ := p_gdE h
  obtain ⟨r8, s4, q5, h⟩ := p_bdE h
  have t6 := tF_State_find K l (p_R s0 (p_R s0 v0 1) 1) v1 s0 _ q5
  refine g_callV (a := (p_R s0 (p_R s0 v0 1) 1)) (ci := 7) (q0 := (RX7, TX7, 10)) (As := [p_i v1]) (rest := []) [p_r r8] mt_State_find rfl rfl tw_4_26 tw_4_27 tw_4_25 ⟨Nat.le_of_ble_eq_true rfl, Nat.le_of_ble_eq_true rfl⟩ rfl (Nat.le_of_ble_eq_true rfl) (dk_SW_label 4 rfl) rfl c3 rfl t6 ?_
  have hs7 : p_x s0 s4 := t6.1
  show p_Go K l m_SW_label 11 [(0, p_r v0), (1, p_i v1), (2, p_i v2)] [p_r r8] s4 _
  refine g_astore_n (i := 3) [(3, p_r r8), (0, p_r v0), (1, p_i v1), (2, p_i v2)] (dk_SW_label 5 rfl) rfl (by decide) rfl ?_
  refine g_aload_n (i := 3) (j := 0) (dk_SW_label 6 rfl) rfl rfl ?_
  refine g_ifnonnull 22 (dk_SW_label 7 rfl) (by decide) (fun b9 => ?_) (fun b9 => ?_)
  · have h := p_ifT b9 h
    refine g_iload_n (i := 2) (j := 3) (dk_SW_label 12 rfl) rfl rfl ?_
    refine g_bipush (dk_SW_label 13 rfl) (by decide +kernel) (by decide) ?_
    refine g_icmp_le 35 (dk_SW_label 14 rfl) (by decide) (fun b10 => ?_) (fun b10 => ?_)
    · have h := p_ifT b10 h
      refine g_iload_n (i := 2) (j := 3) (dk_SW_label 19 rfl) rfl rfl ?_
      refine g_iconst (dk_SW_label 20 rfl) (by decide) ?_
      refine g_icmp_ge 47 (dk_SW_label 21 rfl) (by decide) (fun b11 => ?_) (fun b11 => ?_)
      · have h := p_ifT b11 h
        refine g_aload_n (i := 3) (j := 0) (dk_SW_label 26 rfl) rfl rfl ?_
        obtain ⟨c12, h⟩ := p_gdE h
        refine g_getR fl_SW_207 (Or.inr ⟨_, rfl⟩) (dk_SW_label 27 rfl) c12 ?_
        refine g_iconst (dk_SW_label 28 rfl) (by decide) ?_
        obtain ⟨s13, q14, h⟩ := p_bvE h
        have t15 := tF_Ar_fill_0 K l (p_R s4 r8 12) 0 s4 _ q14
        refine g_callS (av := [p_r (p_R s4 r8 12), p_i 0]) (rest := []) [] mt_Ar_fill_0 tw_3_108 tw_3_107 ⟨Nat.le_of_ble_eq_true rfl, Nat.le_of_ble_eq_true rfl⟩ rfl (Nat.le_of_ble_eq_true rfl) (dk_SW_label 29 rfl) rfl rfl t15 ?_
        have hs16 : p_x s4 s13 := t15.1
        show p_Go K l m_SW_label 55 [(3, p_r r8), (0, p_r v0), (1, p_i v1), (2, p_i v2)] [] s13 _
        refine g_aload_n (i := 3) (j := 0) (dk_SW_label 30 rfl) rfl rfl ?_
        refine g_iload_n (i := 2) (j := 3) (dk_SW_label 31 rfl) rfl rfl ?_
        refine g_putI fl_SW_210 (Or.inl rfl) (dk_SW_label 32 rfl) (c12.up hs16) ?_
        refine p_ltS (P := fun q => p_Go K l m_SW_label 60 [(3, p_r r8), (0, p_r v0), (1, p_i v1), (2, p_i v2)] [] q _) (p_xZ _ _ _ _) ?_ h
        intro s17 hs18 h
        refine g_aload_n (i := 0) (j := 1) (dk_SW_label 33 rfl) rfl rfl ?_
        refine g_iload_n (i := 2) (j := 3) (dk_SW_label 34 rfl) rfl rfl ?_
        obtain ⟨r23, s19, q20, h⟩ := p_bdE h
        have t21 := tF_SW_done K l v0 v2 s17 _ q20
        refine g_callV (a := v0) (ci := 10) (q0 := (RX10, TX10, 9)) (As := [p_i v2]) (rest := []) [p_i r23] mt_SW_done rfl rfl tw_3_70 ts_1 tw_3_68 ⟨Nat.le_of_ble_eq_true rfl, Nat.le_of_ble_eq_true rfl⟩ rfl (Nat.le_of_ble_eq_true rfl) (dk_SW_label 35 rfl) rfl (c1.up (hs7.trans (hs16.trans hs18))) rfl t21 ?_
        have hs22 : p_x s17 s19 := t21.1
        show p_Go K l m_SW_label 65 [(3, p_r r8), (0, p_r v0), (1, p_i v1), (2, p_i v2)] [p_i r23] s19 _
        cases h
        exact g_ret rfl rfl (dk_SW_label 36 rfl) (fun os => ⟨_, rfl, p_okh os⟩)
      · have h := p_ifF b11 h
        refine g_aload_n (i := 0) (j := 1) (dk_SW_label 22 rfl) rfl rfl ?_
        refine g_bipush (dk_SW_label 23 rfl) (by decide +kernel) (by decide) ?_
        obtain ⟨r28, s24, q25, h⟩ := p_bdE h
        have t26 := tF_SW_refuse K l v0 (-15) s4 _ q25
        refine g_callV (a := v0) (ci := 10) (q0 := (RX10, TX10, 9)) (As := [p_i (-15)]) (rest := []) [p_i r28] mt_SW_refuse rfl rfl tw_3_66 ts_0 tw_3_64 ⟨Nat.le_of_ble_eq_true rfl, Nat.le_of_ble_eq_true rfl⟩ rfl (Nat.le_of_ble_eq_true rfl) (dk_SW_label 24 rfl) rfl (c1.up hs7) rfl t26 ?_
        have hs27 : p_x s4 s24 := t26.1
        show p_Go K l m_SW_label 46 [(3, p_r r8), (0, p_r v0), (1, p_i v1), (2, p_i v2)] [p_i r28] s24 _
        cases h
        exact g_ret rfl rfl (dk_SW_label 25 rfl) (fun os => ⟨_, rfl, p_okh os⟩)
    · have h := p_ifF b10 h
      refine g_aload_n (i := 0) (j := 1) (dk_SW_label 15 rfl) rfl rfl ?_
      refine g_bipush (dk_SW_label 16 rfl) (by decide +kernel) (by decide) ?_
      obtain ⟨r33, s29, q30, h⟩ := p_bdE h
      have t31 := tF_SW_refuse K l v0 (-2) s4 _ q30
      refine g_callV (a := v0) (ci := 10) (q0 := (RX10, TX10, 9)) (As := [p_i (-2)]) (rest := []) [p_i r33] mt_SW_refuse rfl rfl tw_3_66 ts_0 tw_3_64 ⟨Nat.le_of_ble_eq_true rfl, Nat.le_of_ble_eq_true rfl⟩ rfl (Nat.le_of_ble_eq_true rfl) (dk_SW_label 17 rfl) rfl (c1.up hs7) rfl t31 ?_
      have hs32 : p_x s4 s29 := t31.1
      show p_Go K l m_SW_label 34 [(3, p_r r8), (0, p_r v0), (1, p_i v1), (2, p_i v2)] [p_i r33] s29 _
      cases h
      exact g_ret rfl rfl (dk_SW_label 18 rfl) (fun os => ⟨_, rfl, p_okh os⟩)
  · have h := p_ifF b9 h
    refine g_aload_n (i := 0) (j := 1) (dk_SW_label 8 rfl) rfl rfl ?_
    refine g_iconst (dk_SW_label 9 rfl) (by decide) ?_
    obtain ⟨r38, s34, q35, h⟩ := p_bdE h
    have t36 := tF_SW_refuse K l v0 (-1) s4 _ q35
    refine g_callV (a := v0) (ci := 10) (q0 := (RX10, TX10, 9)) (As := [p_i (-1)]) (rest := []) [p_i r38] mt_SW_refuse rfl rfl tw_3_66 ts_0 tw_3_64 ⟨Nat.le_of_ble_eq_true rfl, Nat.le_of_ble_eq_true rfl⟩ rfl (Nat.le_of_ble_eq_true rfl) (dk_SW_label 10 rfl) rfl (c1.up hs7) rfl t36 ?_
    have hs37 : p_x s4 s34 := t36.1
    show p_Go K l m_SW_label 21 [(3, p_r r8), (0, p_r v0), (1, p_i v1), (2, p_i v2)] [p_i r38] s34 _
    cases h
    exact g_ret rfl rfl (dk_SW_label 11 rfl) (fun os => ⟨_, rfl, p_okh os⟩)
def m_SW_put : p_Me := (⟨"SortWorks", "put", "(III)I"⟩, prog_1_method_19_code, 5, (some .int), 1, 22)
theorem mt_SW_put : p_Mt m_SW_put 3 := ⟨p_mem (p_tb4 (List.mem_of_getElem? (i := 32) rfl)) rfl, tw_1_1, by decide +kernel, by decide +kernel, by decide +kernel⟩
def dt_SW_put : List (Nat × Instr × Nat) := [(0, .aload_n 0, 1), (1, .getfield 18, 3), (4, .getfield 77, 3), (7, .iload_n 1, 1), (8, .invokevirtual 203, 3), (11, .astore 4, 2), (13, .aload 4, 2), (15, .ifnonnull 9, 3), (18, .aload_n 0, 1), (19, .iconst (-1), 1), (20, .invokevirtual 61, 3), (23, .ireturn, 1), (24, .aload 4, 2), (26, .getfield 210, 3), (29, .iconst (-1), 1), (30, .if_icmp .ne 10, 3), (33, .aload_n 0, 1), (34, .bipush (-11), 2), (36, .invokevirtual 61, 3), (39, .ireturn, 1), (40, .iload_n 2, 1), (41, .ifCond .lt 12, 3), (44, .iload_n 2, 1), (45, .aload 4, 2), (47, .getfield 210, 3), (50, .if_icmp .lt 10, 3), (53, .aload_n 0, 1), (54, .bipush (-13), 2), (56, .invokevirtual 61, 3), (59, .ireturn, 1), (60, .aload 4, 2), (62, .getfield 207, 3), (65, .iload_n 2, 1), (66, .iload_n 3, 1), (67, .sipush 255, 3), (70, .iand, 1), (71, .iastore, 1), (72, .aload_n 0, 1), (73, .iconst 1, 1), (74, .invokevirtual 57, 3), (77, .ireturn, 1)]
theorem dk_SW_put (i : Nat) {pc : Nat} {ins : Instr} {len : Nat} (h : dt_SW_put[i]? = some (pc, ins, len)) : decode m_SW_put.2.1 pc = .ok (ins, len) := p_dk (b := m_SW_put.2.1) (t := dt_SW_put) (by decide +kernel) i h
def B_SW_put_53  (v0 : Nat) (s0 : p_Hp) : Option (Int × p_Hp) :=
  p_gd (p_is s0 v0 10) <|
  p_bd (F_SW_refuse v0 (-13) s0) fun r6 s2 =>
  some (r6, s2)
def F_SW_put (v0 : Nat) (v1 : Int) (v2 : Int) (v3 : Int) (s0 : p_Hp) : Option (Int × p_Hp) :=
  p_gd (p_is s0 v0 10) <|
  p_gd (p_is s0 (p_R s0 v0 1) 9) <|
  p_gd (p_is s0 (p_R s0 (p_R s0 v0 1) 1) 7) <|
  p_bd (F_State_find (p_R s0 (p_R s0 v0 1) 1) v1 s0) fun r8 s4 =>
  if r8 ≠ 0 then
    p_gd (p_is s4 r8 4) <|
    if (p_Z s4 r8 11) ≠ (-1) then
      if v2 < 0 then
        B_SW_put_53 v0 s4
      else
        if v2 < (p_Z s4 r8 11) then
          p_gd (p_is s4 (p_R s4 r8 12) 100) <|
          p_gd ((0 : Int) ≤ v2 ∧ v2 < (p_L s4 (p_R s4 r8 12) : Int)) <|
          p_bi (p_wZ s4 (p_R s4 r8 12) (v2 : Int).toNat (p_and v3 255)) fun s16 =>
          p_bd (F_SW_done v0 1 s16) fun r22 s18 =>
          some (r22, s18)
        else
          B_SW_put_53 v0 s4
    else
      p_bd (F_SW_refuse v0 (-11) s4) fun r27 s23 =>
      some (r27, s23)
  else
    p_bd (F_SW_refuse v0 (-1) s4) fun r32 s28 =>
    some (r32, s28)
set_option maxRecDepth 100000 in
set_option maxHeartbeats 4000000 in
theorem tB_SW_put_53 (K : p_K) (l : Launch)  (v0 : Nat) (s0 : p_Hp) (r : (Int × p_Hp)) (h : B_SW_put_53 v0 s0 = some r) : p_Go K l m_SW_put 53 [(0, p_r v0)] [] s0 (some (p_i r.1), r.2) := by
  unfold B_SW_put_53 at h
  refine g_aload_n (i := 0) (j := 0) (dk_SW_put 26 rfl) rfl rfl ?_
  refine g_bipush (dk_SW_put 27 rfl) (by decide +kernel) (by decide) ?_
  obtain ⟨c1, h⟩ := p_gdE h
  obtain ⟨r6, s2, q3, h⟩ := p_bdE h
  have t4 := tF_SW_refuse K l v0 (-13) s0 _ q3
  refine g_callV (a := v0) (ci := 10) (q0 := (RX10, TX10, 9)) (As := [p_i (-13)]) (rest := []) [p_i r6] mt_SW_refuse rfl rfl tw_3_66 ts_0 tw_3_64 ⟨Nat.le_of_ble_eq_true rfl, Nat.le_of_ble_eq_true rfl⟩ rfl (Nat.le_of_ble_eq_true rfl) (dk_SW_put 28 rfl) rfl c1 rfl t4 ?_
  have hs5 : p_x s0 s2 := t4.1
  show p_Go K l m_SW_put 59 [(0, p_r v0)] [p_i r6] s2 _
  cases h
  exact g_ret rfl rfl (dk_SW_put 29 rfl) (fun os => ⟨_, rfl, p_okh os⟩)
set_option maxRecDepth 100000 in
set_option maxHeartbeats 4000000 in
theorem tF_SW_put (K : p_K) (l : Launch) (v0 : Nat) (v1 : Int) (v2 : Int) (v3 : Int) (s0 : p_Hp) (r : (Int × p_Hp)) (h : F_SW_put v0 v1 v2 v3 s0 = some r) : p_Ct K l m_SW_put [p_r v0, p_i v1, p_i v2, p_i v3] s0 (some (p_i r.1), r.2) := by
  refine p_Ct.of (by decide +kernel) (Nat.le_of_ble_eq_true rfl) ?_
  unfold F_SW_put at h
  show p_Go K l m_SW_put 0 [(0, p_r v0), (1, p_i v1), (2, p_i v2), (3, p_i v3)] [] s0 _
  refine g_aload_n (i := 0) (j := 0) (dk_SW_put 0 rfl) rfl rfl ?_
  obtain ⟨c1, h⟩ := p_gdE h
  refine g_getR fl_SW_18 (Or.inl ⟨_, rfl⟩) (dk_SW_put 1 rfl) c1 ?_
  obtain ⟨c2, h⟩ := p_gdE h
  refine g_getR fl_SW_77 (Or.inl ⟨_, rfl⟩) (dk_SW_put 2 rfl) c2 ?_
  refine g_iload_n (i := 1) (j := 1) (dk_SW_put 3 rfl) rfl rfl ?_
  obtain ⟨c3, h⟩ := p_gdE h
  obtain ⟨r8, s4, q5, h⟩ := p_bdE h
  have t6 := tF_State_find K l (p_R s0 (p_R s0 v0 1) 1) v1 s0 _ q5
  refine g_callV (a := (p_R s0 (p_R s0 v0 1) 1)) (ci := 7) (q0 := (RX7, TX7, 10)) (As := [p_i v1]) (rest := []) [p_r r8] mt_State_find rfl rfl tw_4_26 tw_4_27 tw_4_25 ⟨Nat.le_of_ble_eq_true rfl, Nat.le_of_ble_eq_true rfl⟩ rfl (Nat.le_of_ble_eq_true rfl) (dk_SW_put 4 rfl) rfl c3 rfl t6 ?_
  have hs7 : p_x s0 s4 := t6.1
  show p_Go K l m_SW_put 11 [(0, p_r v0), (1, p_i v1), (2, p_i v2), (3, p_i v3)] [p_r r8] s4 _
  refine g_astore [(4, p_r r8), (0, p_r v0), (1, p_i v1), (2, p_i v2), (3, p_i v3)] (dk_SW_put 5 rfl) (by decide) rfl ?_
  refine g_aload (j := 0) (dk_SW_put 6 rfl) rfl ?_
  refine g_ifnonnull 24 (dk_SW_put 7 rfl) (by decide) (fun b9 => ?_) (fun b9 => ?_)
  · have h := p_ifT b9 h
    refine g_aload (j := 0) (dk_SW_put 12 rfl) rfl ?_
    obtain ⟨c10, h⟩ := p_gdE h
    refine g_getI fl_SW_210 (Or.inl rfl) (dk_SW_put 13 rfl) c10 ?_
    refine g_iconst (dk_SW_put 14 rfl) (by decide) ?_
    refine g_icmp_ne 40 (dk_SW_put 15 rfl) (by decide) (fun b11 => ?_) (fun b11 => ?_)
    · have h := p_ifT b11 h
      refine g_iload_n (i := 2) (j := 3) (dk_SW_put 20 rfl) rfl rfl ?_
      refine g_if_lt 53 (dk_SW_put 21 rfl) (by decide) (fun b12 => ?_) (fun b12 => ?_)
      · have h := p_ifT b12 h
        refine g_sub [(0, p_r v0)] [1] rfl ?_
        exact tB_SW_put_53 K l v0 s4 _ h
      · have h := p_ifF b12 h
        refine g_iload_n (i := 2) (j := 3) (dk_SW_put 22 rfl) rfl rfl ?_
        refine g_aload (j := 0) (dk_SW_put 23 rfl) rfl ?_
        refine g_getI fl_SW_210 (Or.inl rfl) (dk_SW_put 24 rfl) c10 ?_
        refine g_icmp_lt 60 (dk_SW_put 25 rfl) (by decide) (fun b13 => ?_) (fun b13 => ?_)
        · have h := p_ifT b13 h
          refine g_aload (j := 0) (dk_SW_put 30 rfl) rfl ?_
          refine g_getR fl_SW_207 (Or.inr ⟨_, rfl⟩) (dk_SW_put 31 rfl) c10 ?_
          refine g_iload_n (i := 2) (j := 3) (dk_SW_put 32 rfl) rfl rfl ?_
          refine g_iload_n (i := 3) (j := 4) (dk_SW_put 33 rfl) rfl rfl ?_
          refine g_sipush (dk_SW_put 34 rfl) (by decide +kernel) (by decide) ?_
          refine g_iand (dk_SW_put 35 rfl) ?_
          obtain ⟨c14, h⟩ := p_gdE h
          obtain ⟨c15, h⟩ := p_gdE h
          refine g_iastore (dk_SW_put 36 rfl) c14 c15.1 c15.2 ?_
          refine p_ltS (P := fun q => p_Go K l m_SW_put 72 [(4, p_r r8), (0, p_r v0), (1, p_i v1), (2, p_i v2), (3, p_i v3)] [] q _) (p_xZ _ _ _ _) ?_ h
          intro s16 hs17 h
          refine g_aload_n (i := 0) (j := 1) (dk_SW_put 37 rfl) rfl rfl ?_
          refine g_iconst (dk_SW_put 38 rfl) (by decide) ?_
          obtain ⟨r22, s18, q19, h⟩ := p_bdE h
          have t20 := tF_SW_done K l v0 1 s16 _ q19
          refine g_callV (a := v0) (ci := 10) (q0 := (RX10, TX10, 9)) (As := [p_i 1]) (rest := []) [p_i r22] mt_SW_done rfl rfl tw_3_70 ts_1 tw_3_68 ⟨Nat.le_of_ble_eq_true rfl, Nat.le_of_ble_eq_true rfl⟩ rfl (Nat.le_of_ble_eq_true rfl) (dk_SW_put 39 rfl) rfl (c1.up (hs7.trans hs17)) rfl t20 ?_
          have hs21 : p_x s16 s18 := t20.1
          show p_Go K l m_SW_put 77 [(4, p_r r8), (0, p_r v0), (1, p_i v1), (2, p_i v2), (3, p_i v3)] [p_i r22] s18 _
          cases h
          exact g_ret rfl rfl (dk_SW_put 40 rfl) (fun os => ⟨_, rfl, p_okh os⟩)
        · have h := p_ifF b13 h
          refine g_sub [(0, p_r v0)] [1] rfl ?_
          exact tB_SW_put_53 K l v0 s4 _ h
    · have h := p_ifF b11 h
      refine g_aload_n (i := 0) (j := 1) (dk_SW_put 16 rfl) rfl rfl ?_
      refine g_bipush (dk_SW_put 17 rfl) (by decide +kernel) (by decide) ?_
      obtain ⟨r27, s23, q24, h⟩ := p_bdE h
      have t25 := tF_SW_refuse K l v0 (-11) s4 _ q24
      refine g_callV (a := v0) (ci := 10) (q0 := (RX10, TX10, 9)) (As := [p_i (-11)]) (rest := []) [p_i r27] mt_SW_refuse rfl rfl tw_3_66 ts_0 tw_3_64 ⟨Nat.le_of_ble_eq_true rfl, Nat.le_of_ble_eq_true rfl⟩ rfl (Nat.le_of_ble_eq_true rfl) (dk_SW_put 18 rfl) rfl (c1.up hs7) rfl t25 ?_
      have hs26 : p_x s4 s23 := t25.1
      show p_Go K l m_SW_put 39 [(4, p_r r8), (0, p_r v0), (1, p_i v1), (2, p_i v2), (3, p_i v3)] [p_i r27] s23 _
      cases h
      exact g_ret rfl rfl (dk_SW_put 19 rfl) (fun os => ⟨_, rfl, p_okh os⟩)
  · have h := p_ifF b9 h
    refine g_aload_n (i := 0) (j := 1) (dk_SW_put 8 rfl) rfl rfl ?_
    refine g_iconst (dk_SW_put 9 rfl) (by decide) ?_
    obtain ⟨r32, s28, q29, h⟩ := p_bdE h
    have t30 := tF_SW_refuse K l v0 (-1) s4 _ q29
    refine g_callV (a := v0) (ci := 10) (q0 := (RX10, TX10, 9)) (As := [p_i (-1)]) (rest := []) [p_i r32] mt_SW_refuse rfl rfl tw_3_66 ts_0 tw_3_64 ⟨Nat.le_of_ble_eq_true rfl, Nat.le_of_ble_eq_true rfl⟩ rfl (Nat.le_of_ble_eq_true rfl) (dk_SW_put 10 rfl) rfl (c1.up hs7) rfl t30 ?_
    have hs31 : p_x s4 s28 := t30.1
    show p_Go K l m_SW_put 23 [(4, p_r r8), (0, p_r v0), (1, p_i v1), (2, p_i v2), (3, p_i v3)] [p_i r32] s28 _
    cases h
    exact g_ret rfl rfl (dk_SW_put 11 rfl) (fun os => ⟨_, rfl, p_okh os⟩)
def m_Parcel_writeFormA : p_Me := (⟨"SortWorks$Parcel", "writeFormA", "(I)V"⟩, prog_6_method_5_code, 3, none, 0, 0)
theorem mt_Parcel_writeFormA : p_Mt m_Parcel_writeFormA 1 := ⟨p_mem (p_tb4 (List.mem_of_getElem? (i := 44) rfl)) rfl, tw_1_6, by decide +kernel, by decide +kernel, by decide +kernel⟩
def dt_Parcel_writeFormA : List (Nat × Instr × Nat) := [(0, .aload_n 0, 1), (1, .getfield 15, 3), (4, .iconst 0, 1), (5, .bipush 65, 2), (7, .iastore, 1), (8, .aload_n 0, 1), (9, .getfield 15, 3), (12, .iconst 1, 1), (13, .bipush 48, 2), (15, .iload_n 1, 1), (16, .bipush 10, 2), (18, .idiv, 1), (19, .iadd, 1), (20, .iastore, 1), (21, .aload_n 0, 1), (22, .getfield 15, 3), (25, .iconst 2, 1), (26, .bipush 48, 2), (28, .iload_n 1, 1), (29, .bipush 10, 2), (31, .irem, 1), (32, .iadd, 1), (33, .iastore, 1), (34, .aload_n 0, 1), (35, .getfield 15, 3), (38, .iconst 3, 1), (39, .bipush 48, 2), (41, .aload_n 0, 1), (42, .getfield 28, 3), (45, .bipush 100, 2), (47, .idiv, 1), (48, .iadd, 1), (49, .iastore, 1), (50, .aload_n 0, 1), (51, .getfield 15, 3), (54, .iconst 4, 1), (55, .bipush 48, 2), (57, .aload_n 0, 1), (58, .getfield 28, 3), (61, .bipush 10, 2), (63, .idiv, 1), (64, .bipush 10, 2), (66, .irem, 1), (67, .iadd, 1), (68, .iastore, 1), (69, .aload_n 0, 1), (70, .getfield 15, 3), (73, .iconst 5, 1), (74, .bipush 48, 2), (76, .aload_n 0, 1), (77, .getfield 28, 3), (80, .bipush 10, 2), (82, .irem, 1), (83, .iadd, 1), (84, .iastore, 1), (85, .aload_n 0, 1), (86, .getfield 15, 3), (89, .bipush 6, 2), (91, .bipush 48, 2), (93, .aload_n 0, 1), (94, .getfield 31, 3), (97, .iadd, 1), (98, .iastore, 1), (99, .iconst 3, 1), (100, .iload_n 1, 1), (101, .bipush 10, 2), (103, .idiv, 1), (104, .imul, 1), (105, .iload_n 1, 1), (106, .bipush 10, 2), (108, .irem, 1), (109, .iadd, 1), (110, .iconst 3, 1), (111, .aload_n 0, 1), (112, .getfield 28, 3), (115, .bipush 100, 2), (117, .idiv, 1), (118, .imul, 1), (119, .iadd, 1), (120, .aload_n 0, 1), (121, .getfield 28, 3), (124, .bipush 10, 2), (126, .idiv, 1), (127, .bipush 10, 2), (129, .irem, 1), (130, .iadd, 1), (131, .iconst 3, 1), (132, .aload_n 0, 1), (133, .getfield 28, 3), (136, .bipush 10, 2), (138, .irem, 1), (139, .imul, 1), (140, .iadd, 1), (141, .aload_n 0, 1), (142, .getfield 31, 3), (145, .iadd, 1), (146, .istore_n 2, 1), (147, .aload_n 0, 1), (148, .getfield 15, 3), (151, .bipush 7, 2), (153, .bipush 48, 2), (155, .bipush 10, 2), (157, .iload_n 2, 1), (158, .bipush 10, 2), (160, .irem, 1), (161, .isub, 1), (162, .bipush 10, 2), (164, .irem, 1), (165, .iadd, 1), (166, .iastore, 1), (167, .aload_n 0, 1), (168, .bipush 8, 2), (170, .putfield 50, 3), (173, .return_, 1)]
theorem dk_Parcel_writeFormA (i : Nat) {pc : Nat} {ins : Instr} {len : Nat} (h : dt_Parcel_writeFormA[i]? = some (pc, ins, len)) : decode m_Parcel_writeFormA.2.1 pc = .ok (ins, len) := p_dk (b := m_Parcel_writeFormA.2.1) (t := dt_Parcel_writeFormA) (by decide +kernel) i h
def B_Parcel_writeFormA_167  (v0 : Nat) (s0 : p_Hp) : Option p_Hp :=
  p_gd (p_is s0 v0 4) <|
  p_bi (p_wZ s0 v0 11 8) fun s2 =>
  some s2
def F_Parcel_writeFormA (v0 : Nat) (v1 : Int) (s0 : p_Hp) : Option p_Hp :=
  p_gd (p_is s0 v0 4) <|
  p_gd (p_is s0 (p_R s0 v0 12) 100) <|
  p_gd ((0 : Int) ≤ 0 ∧ 0 < (p_L s0 (p_R s0 v0 12) : Int)) <|
  p_bi (p_wZ s0 (p_R s0 v0 12) (0 : Int).toNat 65) fun s4 =>
  p_gd (p_is s4 (p_R s4 v0 12) 100) <|
  p_gd ((0 : Int) ≤ 1 ∧ 1 < (p_L s4 (p_R s4 v0 12) : Int)) <|
  p_bi (p_wZ s4 (p_R s4 v0 12) (1 : Int).toNat (p_w (48 + (p_div v1 10)))) fun s8 =>
  p_gd (p_is s8 (p_R s8 v0 12) 100) <|
  p_gd ((0 : Int) ≤ 2 ∧ 2 < (p_L s8 (p_R s8 v0 12) : Int)) <|
  p_bi (p_wZ s8 (p_R s8 v0 12) (2 : Int).toNat (p_w (48 + (p_rem v1 10)))) fun s12 =>
  p_gd (p_is s12 (p_R s12 v0 12) 100) <|
  p_gd ((0 : Int) ≤ 3 ∧ 3 < (p_L s12 (p_R s12 v0 12) : Int)) <|
  p_bi (p_wZ s12 (p_R s12 v0 12) (3 : Int).toNat (p_w (48 + (p_div (p_Z s12 v0 2) 100)))) fun s16 =>
  p_gd (p_is s16 (p_R s16 v0 12) 100) <|
  p_gd ((0 : Int) ≤ 4 ∧ 4 < (p_L s16 (p_R s16 v0 12) : Int)) <|
  p_bi (p_wZ s16 (p_R s16 v0 12) (4 : Int).toNat (p_w (48 + (p_rem (p_div (p_Z s16 v0 2) 10) 10)))) fun s20 =>
  p_gd (p_is s20 (p_R s20 v0 12) 100) <|
  p_gd ((0 : Int) ≤ 5 ∧ 5 < (p_L s20 (p_R s20 v0 12) : Int)) <|
  p_bi (p_wZ s20 (p_R s20 v0 12) (5 : Int).toNat (p_w (48 + (p_rem (p_Z s20 v0 2) 10)))) fun s24 =>
  p_gd (p_is s24 (p_R s24 v0 12) 100) <|
  p_gd ((0 : Int) ≤ 6 ∧ 6 < (p_L s24 (p_R s24 v0 12) : Int)) <|
  p_bi (p_wZ s24 (p_R s24 v0 12) (6 : Int).toNat (p_w (48 + (p_Z s24 v0 3)))) fun s28 =>
  p_bi ((p_w ((p_w ((p_w ((p_w ((p_w ((p_w (3 * (p_div v1 10))) + (p_rem v1 10))) + (p_w (3 * (p_div (p_Z s28 v0 2) 100))))) + (p_rem (p_div (p_Z s28 v0 2) 10) 10))) + (p_w (3 * (p_rem (p_Z s28 v0 2) 10))))) + (p_Z s28 v0 3)))) fun x30 =>
  p_gd (p_is s28 (p_R s28 v0 12) 100) <|
  p_gd ((0 : Int) ≤ 7 ∧ 7 < (p_L s28 (p_R s28 v0 12) : Int)) <|
  p_bi (p_wZ s28 (p_R s28 v0 12) (7 : Int).toNat (p_w (48 + (p_rem (p_w (10 - (p_rem x30 10))) 10)))) fun s33 =>
  B_Parcel_writeFormA_167 v0 s33
set_option maxRecDepth 100000 in
set_option maxHeartbeats 4000000 in
theorem tB_Parcel_writeFormA_167 (K : p_K) (l : Launch)  (v0 : Nat) (s0 : p_Hp) (r : p_Hp) (h : B_Parcel_writeFormA_167 v0 s0 = some r) : p_Go K l m_Parcel_writeFormA 167 [(0, p_r v0)] [] s0 (none, r) := by
  unfold B_Parcel_writeFormA_167 at h
  refine g_aload_n (i := 0) (j := 0) (dk_Parcel_writeFormA 110 rfl) rfl rfl ?_
  refine g_bipush (dk_Parcel_writeFormA 111 rfl) (by decide +kernel) (by decide) ?_
  obtain ⟨c1, h⟩ := p_gdE h
  refine g_putI fl_Parcel_50 (Or.inl rfl) (dk_Parcel_writeFormA 112 rfl) c1 ?_
  refine p_ltS (P := fun q => p_Go K l m_Parcel_writeFormA 173 [(0, p_r v0)] [] q _) (p_xZ _ _ _ _) ?_ h
  intro s2 hs3 h
  cases h
  exact g_ret rfl rfl (dk_Parcel_writeFormA 113 rfl) (fun _ => rfl)
set_option maxRecDepth 100000 in
set_option maxHeartbeats 4000000 in
theorem tF_Parcel_writeFormA (K : p_K) (l : Launch) (v0 : Nat) (v1 : Int) (s0 : p_Hp) (r : p_Hp) (h : F_Parcel_writeFormA v0 v1 s0 = some r) : p_Ct K l m_Parcel_writeFormA [p_r v0, p_i v1] s0 (none, r) := by
  refine p_Ct.of (by decide +kernel) (Nat.le_of_ble_eq_true rfl) ?_
  unfold F_Parcel_writeFormA at h
  show p_Go K l m_Parcel_writeFormA 0 [(0, p_r v0), (1, p_i v1)] [] s0 _
  refine g_aload_n (i := 0) (j := 0) (dk_Parcel_writeFormA 0 rfl) rfl rfl ?_
  obtain ⟨c1, h⟩ := p_gdE h
  refine g_getR fl_Parcel_15 (Or.inr ⟨_, rfl⟩) (dk_Parcel_writeFormA 1 rfl) c1 ?_
  refine g_iconst (dk_Parcel_writeFormA 2 rfl) (by decide) ?_
  refine g_bipush (dk_Parcel_writeFormA 3 rfl) (by decide +kernel) (by decide) ?_
  obtain ⟨c2, h⟩ := p_gdE h
  obtain ⟨c3, h⟩ := p_gdE h
  refine g_iastore (dk_Parcel_writeFormA 4 rfl) c2 c3.1 c3.2 ?_
  refine p_ltS (P := fun q => p_Go K l m_Parcel_writeFormA 8 [(0, p_r v0), (1, p_i v1)] [] q _) (p_xZ _ _ _ _) ?_ h
  intro s4 hs5 h
  refine g_aload_n (i := 0) (j := 0) (dk_Parcel_writeFormA 5 rfl) rfl rfl ?_
  refine g_getR fl_Parcel_15 (Or.inr ⟨_, rfl⟩) (dk_Parcel_writeFormA 6 rfl) (c1.up hs5) ?_
  refine g_iconst (dk_Parcel_writeFormA 7 rfl) (by decide) ?_
  refine g_bipush (dk_Parcel_writeFormA 8 rfl) (by decide +kernel) (by decide) ?_
  refine g_iload_n (i := 1) (j := 1) (dk_Parcel_writeFormA 9 rfl) rfl rfl ?_
  refine g_bipush (dk_Parcel_writeFormA 10 rfl) (by decide +kernel) (by decide) ?_
  refine g_idiv (dk_Parcel_writeFormA 11 rfl) (by decide) ?_
  refine g_iadd (dk_Parcel_writeFormA 12 rfl) ?_
  obtain ⟨c6, h⟩ := p_gdE h
  obtain ⟨c7, h⟩ := p_gdE h
  refine g_iastore (dk_Parcel_writeFormA 13 rfl) c6 c7.1 c7.2 ?_
  refine p_ltS (P := fun q => p_Go K l m_Parcel_writeFormA 21 [(0, p_r v0), (1, p_i v1)] [] q _) (p_xZ _ _ _ _) ?_ h
  intro s8 hs9 h
  refine g_aload_n (i := 0) (j := 0) (dk_Parcel_writeFormA 14 rfl) rfl rfl ?_
  refine g_getR fl_Parcel_15 (Or.inr ⟨_, rfl⟩) (dk_Parcel_writeFormA 15 rfl) (c1.up (hs5.trans hs9)) ?_
  refine g_iconst (dk_Parcel_writeFormA 16 rfl) (by decide) ?_
  refine g_bipush (dk_Parcel_writeFormA 17 rfl) (by decide +kernel) (by decide) ?_
  refine g_iload_n (i := 1) (j := 1) (dk_Parcel_writeFormA 18 rfl) rfl rfl ?_
  refine g_bipush (dk_Parcel_writeFormA 19 rfl) (by decide +kernel) (by decide) ?_
  refine g_irem (dk_Parcel_writeFormA 20 rfl) (by decide) ?_
  refine g_iadd (dk_Parcel_writeFormA 21 rfl) ?_
  obtain ⟨c10, h⟩ := p_gdE h
  obtain ⟨c11, h⟩ := p_gdE h
  refine g_iastore (dk_Parcel_writeFormA 22 rfl) c10 c11.1 c11.2 ?_
  refine p_ltS (P := fun q => p_Go K l m_Parcel_writeFormA 34 [(0, p_r v0), (1, p_i v1)] [] q _) (p_xZ _ _ _ _) ?_ h
  intro s12 hs13 h
  refine g_aload_n (i := 0) (j := 0) (dk_Parcel_writeFormA 23 rfl) rfl rfl ?_
  refine g_getR fl_Parcel_15 (Or.inr ⟨_, rfl⟩) (dk_Parcel_writeFormA 24 rfl) (c1.up (hs5.trans (hs9.trans hs13))) ?_
  refine g_iconst (dk_Parcel_writeFormA 25 rfl) (by decide) ?_
  refine g_bipush (dk_Parcel_writeFormA 26 rfl) (by decide +kernel) (by decide) ?_
  refine g_aload_n (i := 0) (j := 0) (dk_Parcel_writeFormA 27 rfl) rfl rfl ?_
  refine g_getI fl_Parcel_28 (Or.inl rfl) (dk_Parcel_writeFormA 28 rfl) (c1.up (hs5.trans (hs9.trans hs13))) ?_
  refine g_bipush (dk_Parcel_writeFormA 29 rfl) (by decide +kernel) (by decide) ?_
  refine g_idiv (dk_Parcel_writeFormA 30 rfl) (by decide) ?_
  refine g_iadd (dk_Parcel_writeFormA 31 rfl) ?_
  obtain ⟨c14, h⟩ := p_gdE h
  obtain ⟨c15, h⟩ := p_gdE h
  refine g_iastore (dk_Parcel_writeFormA 32 rfl) c14 c15.1 c15.2 ?_
  refine p_ltS (P := fun q => p_Go K l m_Parcel_writeFormA 50 [(0, p_r v0), (1, p_i v1)] [] q _) (p_xZ _ _ _ _) ?_ h
  intro s16 hs17 h
  refine g_aload_n (i := 0) (j := 0) (dk_Parcel_writeFormA 33 rfl) rfl rfl ?_
  refine g_getR fl_Parcel_15 (Or.inr ⟨_, rfl⟩) (dk_Parcel_writeFormA 34 rfl) (c1.up (hs5.trans (hs9.trans (hs13.trans hs17)))) ?_
  refine g_iconst (dk_Parcel_writeFormA 35 rfl) (by decide) ?_
  refine g_bipush (dk_Parcel_writeFormA 36 rfl) (by decide +kernel) (by decide) ?_
  refine g_aload_n (i := 0) (j := 0) (dk_Parcel_writeFormA 37 rfl) rfl rfl ?_
  refine g_getI fl_Parcel_28 (Or.inl rfl) (dk_Parcel_writeFormA 38 rfl) (c1.up (hs5.trans (hs9.trans (hs13.trans hs17)))) ?_
  refine g_bipush (dk_Parcel_writeFormA 39 rfl) (by decide +kernel) (by decide) ?_
  refine g_idiv (dk_Parcel_writeFormA 40 rfl) (by decide) ?_
  refine g_bipush (dk_Parcel_writeFormA 41 rfl) (by decide +kernel) (by decide) ?_
  refine g_irem (dk_Parcel_writeFormA 42 rfl) (by decide) ?_
  refine g_iadd (dk_Parcel_writeFormA 43 rfl) ?_
  obtain ⟨c18, h⟩ := p_gdE h
  obtain ⟨c19, h⟩ := p_gdE h
  refine g_iastore (dk_Parcel_writeFormA 44 rfl) c18 c19.1 c19.2 ?_
  refine p_ltS (P := fun q => p_Go K l m_Parcel_writeFormA 69 [(0, p_r v0), (1, p_i v1)] [] q _) (p_xZ _ _ _ _) ?_ h
  intro s20 hs21 h
  refine g_aload_n (i := 0) (j := 0) (dk_Parcel_writeFormA 45 rfl) rfl rfl ?_
  refine g_getR fl_Parcel_15 (Or.inr ⟨_, rfl⟩) (dk_Parcel_writeFormA 46 rfl) (c1.up (hs5.trans (hs9.trans (hs13.trans (hs17.trans hs21))))) ?_
  refine g_iconst (dk_Parcel_writeFormA 47 rfl) (by decide) ?_
  refine g_bipush (dk_Parcel_writeFormA 48 rfl) (by decide +kernel) (by decide) ?_
  refine g_aload_n (i := 0) (j := 0) (dk_Parcel_writeFormA 49 rfl) rfl rfl ?_
  refine g_getI fl_Parcel_28 (Or.inl rfl) (dk_Parcel_writeFormA 50 rfl) (c1.up (hs5.trans (hs9.trans (hs13.trans (hs17.trans hs21))))) ?_
  refine g_bipush (dk_Parcel_writeFormA 51 rfl) (by decide +kernel) (by decide) ?_
  refine g_irem (dk_Parcel_writeFormA 52 rfl) (by decide) ?_
  refine g_iadd (dk_Parcel_writeFormA 53 rfl) ?_
  obtain ⟨c22, h⟩ := p_gdE h
  obtain ⟨c23, h⟩ := p_gdE h
  refine g_iastore (dk_Parcel_writeFormA 54 rfl) c22 c23.1 c23.2 ?_
  refine p_ltS (P := fun q => p_Go K l m_Parcel_writeFormA 85 [(0, p_r v0), (1, p_i v1)] [] q _) (p_xZ _ _ _ _) ?_ h
  intro s24 hs25 h
  refine g_aload_n (i := 0) (j := 0) (dk_Parcel_writeFormA 55 rfl) rfl rfl ?_
  refine g_getR fl_Parcel_15 (Or.inr ⟨_, rfl⟩) (dk_Parcel_writeFormA 56 rfl) (c1.up (hs5.trans (hs9.trans (hs13.trans (hs17.trans (hs21.trans hs25)))))) ?_
  refine g_bipush (dk_Parcel_writeFormA 57 rfl) (by decide +kernel) (by decide) ?_
  refine g_bipush (dk_Parcel_writeFormA 58 rfl) (by decide +kernel) (by decide) ?_
  refine g_aload_n (i := 0) (j := 0) (dk_Parcel_writeFormA 59 rfl) rfl rfl ?_
  refine g_getI fl_Parcel_31 (Or.inl rfl) (dk_Parcel_writeFormA 60 rfl) (c1.up (hs5.trans (hs9.trans (hs13.trans (hs17.trans (hs21.trans hs25)))))) ?_
  refine g_iadd (dk_Parcel_writeFormA 61 rfl) ?_
  obtain ⟨c26, h⟩ := p_gdE h
  obtain ⟨c27, h⟩ := p_gdE h
  refine g_iastore (dk_Parcel_writeFormA 62 rfl) c26 c27.1 c27.2 ?_
  refine p_ltS (P := fun q => p_Go K l m_Parcel_writeFormA 99 [(0, p_r v0), (1, p_i v1)] [] q _) (p_xZ _ _ _ _) ?_ h
  intro s28 hs29 h
  refine g_iconst (dk_Parcel_writeFormA 63 rfl) (by decide) ?_
  refine g_iload_n (i := 1) (j := 1) (dk_Parcel_writeFormA 64 rfl) rfl rfl ?_
  refine g_bipush (dk_Parcel_writeFormA 65 rfl) (by decide +kernel) (by decide) ?_
  refine g_idiv (dk_Parcel_writeFormA 66 rfl) (by decide) ?_
  refine g_imul (dk_Parcel_writeFormA 67 rfl) ?_
  refine g_iload_n (i := 1) (j := 1) (dk_Parcel_writeFormA 68 rfl) rfl rfl ?_
  refine g_bipush (dk_Parcel_writeFormA 69 rfl) (by decide +kernel) (by decide) ?_
  refine g_irem (dk_Parcel_writeFormA 70 rfl) (by decide) ?_
  refine g_iadd (dk_Parcel_writeFormA 71 rfl) ?_
  refine g_iconst (dk_Parcel_writeFormA 72 rfl) (by decide) ?_
  refine g_aload_n (i := 0) (j := 0) (dk_Parcel_writeFormA 73 rfl) rfl rfl ?_
  refine g_getI fl_Parcel_28 (Or.inl rfl) (dk_Parcel_writeFormA 74 rfl) (c1.up (hs5.trans (hs9.trans (hs13.trans (hs17.trans (hs21.trans (hs25.trans hs29))))))) ?_
  refine g_bipush (dk_Parcel_writeFormA 75 rfl) (by decide +kernel) (by decide) ?_
  refine g_idiv (dk_Parcel_writeFormA 76 rfl) (by decide) ?_
  refine g_imul (dk_Parcel_writeFormA 77 rfl) ?_
  refine g_iadd (dk_Parcel_writeFormA 78 rfl) ?_
  refine g_aload_n (i := 0) (j := 0) (dk_Parcel_writeFormA 79 rfl) rfl rfl ?_
  refine g_getI fl_Parcel_28 (Or.inl rfl) (dk_Parcel_writeFormA 80 rfl) (c1.up (hs5.trans (hs9.trans (hs13.trans (hs17.trans (hs21.trans (hs25.trans hs29))))))) ?_
  refine g_bipush (dk_Parcel_writeFormA 81 rfl) (by decide +kernel) (by decide) ?_
  refine g_idiv (dk_Parcel_writeFormA 82 rfl) (by decide) ?_
  refine g_bipush (dk_Parcel_writeFormA 83 rfl) (by decide +kernel) (by decide) ?_
  refine g_irem (dk_Parcel_writeFormA 84 rfl) (by decide) ?_
  refine g_iadd (dk_Parcel_writeFormA 85 rfl) ?_
  refine g_iconst (dk_Parcel_writeFormA 86 rfl) (by decide) ?_
  refine g_aload_n (i := 0) (j := 0) (dk_Parcel_writeFormA 87 rfl) rfl rfl ?_
  refine g_getI fl_Parcel_28 (Or.inl rfl) (dk_Parcel_writeFormA 88 rfl) (c1.up (hs5.trans (hs9.trans (hs13.trans (hs17.trans (hs21.trans (hs25.trans hs29))))))) ?_
  refine g_bipush (dk_Parcel_writeFormA 89 rfl) (by decide +kernel) (by decide) ?_
  refine g_irem (dk_Parcel_writeFormA 90 rfl) (by decide) ?_
  refine g_imul (dk_Parcel_writeFormA 91 rfl) ?_
  refine g_iadd (dk_Parcel_writeFormA 92 rfl) ?_
  refine g_aload_n (i := 0) (j := 0) (dk_Parcel_writeFormA 93 rfl) rfl rfl ?_
  refine g_getI fl_Parcel_31 (Or.inl rfl) (dk_Parcel_writeFormA 94 rfl) (c1.up (hs5.trans (hs9.trans (hs13.trans (hs17.trans (hs21.trans (hs25.trans hs29))))))) ?_
  refine g_iadd (dk_Parcel_writeFormA 95 rfl) ?_
  refine g_istore_n (i := 2) [(2, p_i (p_w ((p_w ((p_w ((p_w ((p_w ((p_w (3 * (p_div v1 10))) + (p_rem v1 10))) + (p_w (3 * (p_div (p_Z s28 v0 2) 100))))) + (p_rem (p_div (p_Z s28 v0 2) 10) 10))) + (p_w (3 * (p_rem (p_Z s28 v0 2) 10))))) + (p_Z s28 v0 3)))), (0, p_r v0), (1, p_i v1)] (dk_Parcel_writeFormA 96 rfl) rfl (by decide) rfl ?_
  refine p_ltG (P := fun q => p_Go K l m_Parcel_writeFormA 147 [(2, p_i q), (0, p_r v0), (1, p_i v1)] [] s28 _) ?_ h
  intro x30 h
  refine g_aload_n (i := 0) (j := 1) (dk_Parcel_writeFormA 97 rfl) rfl rfl ?_
  refine g_getR fl_Parcel_15 (Or.inr ⟨_, rfl⟩) (dk_Parcel_writeFormA 98 rfl) (c1.up (hs5.trans (hs9.trans (hs13.trans (hs17.trans (hs21.trans (hs25.trans hs29))))))) ?_
  refine g_bipush (dk_Parcel_writeFormA 99 rfl) (by decide +kernel) (by decide) ?_
  refine g_bipush (dk_Parcel_writeFormA 100 rfl) (by decide +kernel) (by decide) ?_
  refine g_bipush (dk_Parcel_writeFormA 101 rfl) (by decide +kernel) (by decide) ?_
  refine g_iload_n (i := 2) (j := 0) (dk_Parcel_writeFormA 102 rfl) rfl rfl ?_
  refine g_bipush (dk_Parcel_writeFormA 103 rfl) (by decide +kernel) (by decide) ?_
  refine g_irem (dk_Parcel_writeFormA 104 rfl) (by decide) ?_
  refine g_isub (dk_Parcel_writeFormA 105 rfl) ?_
  refine g_bipush (dk_Parcel_writeFormA 106 rfl) (by decide +kernel) (by decide) ?_
  refine g_irem (dk_Parcel_writeFormA 107 rfl) (by decide) ?_
  refine g_iadd (dk_Parcel_writeFormA 108 rfl) ?_
  obtain ⟨c31, h⟩ := p_gdE h
  obtain ⟨c32, h⟩ := p_gdE h
  refine g_iastore (dk_Parcel_writeFormA 109 rfl) c31 c32.1 c32.2 ?_
  refine p_ltS (P := fun q => p_Go K l m_Parcel_writeFormA 167 [(2, p_i x30), (0, p_r v0), (1, p_i v1)] [] q _) (p_xZ _ _ _ _) ?_ h
  intro s33 hs34 h
  refine g_sub [(0, p_r v0)] [1] rfl ?_
  exact tB_Parcel_writeFormA_167 K l v0 s33 _ h
def m_Parcel_writeFormB : p_Me := (⟨"SortWorks$Parcel", "writeFormB", "(I)V"⟩, prog_6_method_6_code, 2, none, 0, 0)
theorem mt_Parcel_writeFormB : p_Mt m_Parcel_writeFormB 1 := ⟨p_mem (p_tb4 (List.mem_of_getElem? (i := 48) rfl)) rfl, tw_1_6, by decide +kernel, by decide +kernel, by decide +kernel⟩
def dt_Parcel_writeFormB : List (Nat × Instr × Nat) := [(0, .aload_n 0, 1), (1, .getfield 15, 3), (4, .iconst 0, 1), (5, .bipush 66, 2), (7, .iastore, 1), (8, .aload_n 0, 1), (9, .getfield 15, 3), (12, .iconst 1, 1), (13, .iload_n 1, 1), (14, .iastore, 1), (15, .aload_n 0, 1), (16, .getfield 15, 3), (19, .iconst 2, 1), (20, .aload_n 0, 1), (21, .getfield 28, 3), (24, .sipush 256, 3), (27, .idiv, 1), (28, .iastore, 1), (29, .aload_n 0, 1), (30, .getfield 15, 3), (33, .iconst 3, 1), (34, .aload_n 0, 1), (35, .getfield 28, 3), (38, .sipush 256, 3), (41, .irem, 1), (42, .iastore, 1), (43, .aload_n 0, 1), (44, .getfield 15, 3), (47, .iconst 4, 1), (48, .aload_n 0, 1), (49, .getfield 31, 3), (52, .iastore, 1), (53, .aload_n 0, 1), (54, .getfield 15, 3), (57, .iconst 5, 1), (58, .bipush 7, 2), (60, .aload_n 0, 1), (61, .getfield 15, 3), (64, .iconst 1, 1), (65, .iaload, 1), (66, .imul, 1), (67, .iconst 5, 1), (68, .aload_n 0, 1), (69, .getfield 15, 3), (72, .iconst 2, 1), (73, .iaload, 1), (74, .imul, 1), (75, .iadd, 1), (76, .iconst 3, 1), (77, .aload_n 0, 1), (78, .getfield 15, 3), (81, .iconst 3, 1), (82, .iaload, 1), (83, .imul, 1), (84, .iadd, 1), (85, .aload_n 0, 1), (86, .getfield 15, 3), (89, .iconst 4, 1), (90, .iaload, 1), (91, .iadd, 1), (92, .bipush 97, 2), (94, .irem, 1), (95, .iastore, 1), (96, .aload_n 0, 1), (97, .bipush 6, 2), (99, .putfield 50, 3), (102, .return_, 1)]
theorem dk_Parcel_writeFormB (i : Nat) {pc : Nat} {ins : Instr} {len : Nat} (h : dt_Parcel_writeFormB[i]? = some (pc, ins, len)) : decode m_Parcel_writeFormB.2.1 pc = .ok (ins, len) := p_dk (b := m_Parcel_writeFormB.2.1) (t := dt_Parcel_writeFormB) (by decide +kernel) i h
def F_Parcel_writeFormB (v0 : Nat) (v1 : Int) (s0 : p_Hp) : Option p_Hp :=
  p_gd (p_is s0 v0 4) <|
  p_gd (p_is s0 (p_R s0 v0 12) 100) <|
  p_gd ((0 : Int) ≤ 0 ∧ 0 < (p_L s0 (p_R s0 v0 12) : Int)) <|
  p_bi (p_wZ s0 (p_R s0 v0 12) (0 : Int).toNat 66) fun s4 =>
  p_gd (p_is s4 (p_R s4 v0 12) 100) <|
  p_gd ((0 : Int) ≤ 1 ∧ 1 < (p_L s4 (p_R s4 v0 12) : Int)) <|
  p_bi (p_wZ s4 (p_R s4 v0 12) (1 : Int).toNat v1) fun s8 =>
  p_gd (p_is s8 (p_R s8 v0 12) 100) <|
  p_gd ((0 : Int) ≤ 2 ∧ 2 < (p_L s8 (p_R s8 v0 12) : Int)) <|
  p_bi (p_wZ s8 (p_R s8 v0 12) (2 : Int).toNat (p_div (p_Z s8 v0 2) 256)) fun s12 =>
  p_gd (p_is s12 (p_R s12 v0 12) 100) <|
  p_gd ((0 : Int) ≤ 3 ∧ 3 < (p_L s12 (p_R s12 v0 12) : Int)) <|
  p_bi (p_wZ s12 (p_R s12 v0 12) (3 : Int).toNat (p_rem (p_Z s12 v0 2) 256)) fun s16 =>
  p_gd (p_is s16 (p_R s16 v0 12) 100) <|
  p_gd ((0 : Int) ≤ 4 ∧ 4 < (p_L s16 (p_R s16 v0 12) : Int)) <|
  p_bi (p_wZ s16 (p_R s16 v0 12) (4 : Int).toNat (p_Z s16 v0 3)) fun s20 =>
  p_gd (p_is s20 (p_R s20 v0 12) 100) <|
  p_gd ((0 : Int) ≤ 1 ∧ 1 < (p_L s20 (p_R s20 v0 12) : Int)) <|
  p_gd ((0 : Int) ≤ 2 ∧ 2 < (p_L s20 (p_R s20 v0 12) : Int)) <|
  p_gd ((0 : Int) ≤ 3 ∧ 3 < (p_L s20 (p_R s20 v0 12) : Int)) <|
  p_gd ((0 : Int) ≤ 4 ∧ 4 < (p_L s20 (p_R s20 v0 12) : Int)) <|
  p_gd ((0 : Int) ≤ 5 ∧ 5 < (p_L s20 (p_R s20 v0 12) : Int)) <|
  p_bi (p_wZ s20 (p_R s20 v0 12) (5 : Int).toNat (p_rem (p_w ((p_w ((p_w ((p_w (7 * (p_Z s20 (p_R s20 v0 12) (1 : Int).toNat))) + (p_w (5 * (p_Z s20 (p_R s20 v0 12) (2 : Int).toNat))))) + (p_w (3 * (p_Z s20 (p_R s20 v0 12) (3 : Int).toNat))))) + (p_Z s20 (p_R s20 v0 12) (4 : Int).toNat))) 97)) fun s28 =>
  p_bi (p_wZ s28 v0 11 6) fun s30 =>
  some s30
set_option maxRecDepth 100000 in
set_option maxHeartbeats 4000000 in
theorem tF_Parcel_writeFormB (K : p_K) (l : Launch) (v0 : Nat) (v1 : Int) (s0 : p_Hp) (r : p_Hp) (h : F_Parcel_writeFormB v0 v1 s0 = some r) : p_Ct K l m_Parcel_writeFormB [p_r v0, p_i v1] s0 (none, r) := by
  refine p_Ct.of (by decide +kernel) (Nat.le_of_ble_eq_true rfl) ?_
  unfold F_Parcel_writeFormB at h
  show p_Go K l m_Parcel_writeFormB 0 [(0, p_r v0), (1, p_i v1)] [] s0 _
  refine g_aload_n (i := 0) (j := 0) (dk_Parcel_writeFormB 0 rfl) rfl rfl ?_
  obtain ⟨c1, h⟩ := p_gdE h
  refine g_getR fl_Parcel_15 (Or.inr ⟨_, rfl⟩) (dk_Parcel_writeFormB 1 rfl) c1 ?_
  refine g_iconst (dk_Parcel_writeFormB 2 rfl) (by decide) ?_
  refine g_bipush (dk_Parcel_writeFormB 3 rfl) (by decide +kernel) (by decide) ?_
  obtain ⟨c2, h⟩ := p_gdE h
  obtain ⟨c3, h⟩ := p_gdE h
  refine g_iastore (dk_Parcel_writeFormB 4 rfl) c2 c3.1 c3.2 ?_
  refine p_ltS (P := fun q => p_Go K l m_Parcel_writeFormB 8 [(0, p_r v0), (1, p_i v1)] [] q _) (p_xZ _ _ _ _) ?_ h
  intro s4 hs5 h
  refine g_aload_n (i := 0) (j := 0) (dk_Parcel_writeFormB 5 rfl) rfl rfl ?_
  refine g_getR fl_Parcel_15 (Or.inr ⟨_, rfl⟩) (dk_Parcel_writeFormB 6 rfl) (c1.up hs5) ?_
  refine g_iconst (dk_Parcel_writeFormB 7 rfl) (by decide) ?_
  refine g_iload_n (i := 1) (j := 1) (dk_Parcel_writeFormB 8 rfl) rfl rfl ?_
  obtain ⟨c6, h⟩ := p_gdE h
  obtain ⟨c7, h⟩ := p_gdE h
  refine g_iastore (dk_Parcel_writeFormB 9 rfl) c6 c7.1 c7.2 ?_
  refine p_ltS (P := fun q => p_Go K l m_Parcel_writeFormB 15 [(0, p_r v0), (1, p_i v1)] [] q _) (p_xZ _ _ _ _) ?_ h
  intro s8 hs9 h
  refine g_aload_n (i := 0) (j := 0) (dk_Parcel_writeFormB 10 rfl) rfl rfl ?_
  refine g_getR fl_Parcel_15 (Or.inr ⟨_, rfl⟩) (dk_Parcel_writeFormB 11 rfl) (c1.up (hs5.trans hs9)) ?_
  refine g_iconst (dk_Parcel_writeFormB 12 rfl) (by decide) ?_
  refine g_aload_n (i := 0) (j := 0) (dk_Parcel_writeFormB 13 rfl) rfl rfl ?_
  refine g_getI fl_Parcel_28 (Or.inl rfl) (dk_Parcel_writeFormB 14 rfl) (c1.up (hs5.trans hs9)) ?_
  refine g_sipush (dk_Parcel_writeFormB 15 rfl) (by decide +kernel) (by decide) ?_
  refine g_idiv (dk_Parcel_writeFormB 16 rfl) (by decide) ?_
  obtain ⟨c10, h⟩ := p_gdE h
  obtain ⟨c11, h⟩ := p_gdE h
  refine g_iastore (dk_Parcel_writeFormB 17 rfl) c10 c11.1 c11.2 ?_
  refine p_ltS (P := fun q => p_Go K l m_Parcel_writeFormB 29 [(0, p_r v0), (1, p_i v1)] [] q _) (p_xZ _ _ _ _) ?_ h
  intro s12 hs13 h
  refine g_aload_n (i := 0) (j := 0) (dk_Parcel_writeFormB 18 rfl) rfl rfl ?_
  refine g_getR fl_Parcel_15 (Or.inr ⟨_, rfl⟩) (dk_Parcel_writeFormB 19 rfl) (c1.up (hs5.trans (hs9.trans hs13))) ?_
  refine g_iconst (dk_Parcel_writeFormB 20 rfl) (by decide) ?_
  refine g_aload_n (i := 0) (j := 0) (dk_Parcel_writeFormB 21 rfl) rfl rfl ?_
  refine g_getI fl_Parcel_28 (Or.inl rfl) (dk_Parcel_writeFormB 22 rfl) (c1.up (hs5.trans (hs9.trans hs13))) ?_
  refine g_sipush (dk_Parcel_writeFormB 23 rfl) (by decide +kernel) (by decide) ?_
  refine g_irem (dk_Parcel_writeFormB 24 rfl) (by decide) ?_
  obtain ⟨c14, h⟩ := p_gdE h
  obtain ⟨c15, h⟩ := p_gdE h
  refine g_iastore (dk_Parcel_writeFormB 25 rfl) c14 c15.1 c15.2 ?_
  refine p_ltS (P := fun q => p_Go K l m_Parcel_writeFormB 43 [(0, p_r v0), (1, p_i v1)] [] q _) (p_xZ _ _ _ _) ?_ h
  intro s16 hs17 h
  refine g_aload_n (i := 0) (j := 0) (dk_Parcel_writeFormB 26 rfl) rfl rfl ?_
  refine g_getR fl_Parcel_15 (Or.inr ⟨_, rfl⟩) (dk_Parcel_writeFormB 27 rfl) (c1.up (hs5.trans (hs9.trans (hs13.trans hs17)))) ?_
  refine g_iconst (dk_Parcel_writeFormB 28 rfl) (by decide) ?_
  refine g_aload_n (i := 0) (j := 0) (dk_Parcel_writeFormB 29 rfl) rfl rfl ?_
  refine g_getI fl_Parcel_31 (Or.inl rfl) (dk_Parcel_writeFormB 30 rfl) (c1.up (hs5.trans (hs9.trans (hs13.trans hs17)))) ?_
  obtain ⟨c18, h⟩ := p_gdE h
  obtain ⟨c19, h⟩ := p_gdE h
  refine g_iastore (dk_Parcel_writeFormB 31 rfl) c18 c19.1 c19.2 ?_
  refine p_ltS (P := fun q => p_Go K l m_Parcel_writeFormB 53 [(0, p_r v0), (1, p_i v1)] [] q _) (p_xZ _ _ _ _) ?_ h
  intro s20 hs21 h
  refine g_aload_n (i := 0) (j := 0) (dk_Parcel_writeFormB 32 rfl) rfl rfl ?_
  refine g_getR fl_Parcel_15 (Or.inr ⟨_, rfl⟩) (dk_Parcel_writeFormB 33 rfl) (c1.up (hs5.trans (hs9.trans (hs13.trans (hs17.trans hs21))))) ?_
  refine g_iconst (dk_Parcel_writeFormB 34 rfl) (by decide) ?_
  refine g_bipush (dk_Parcel_writeFormB 35 rfl) (by decide +kernel) (by decide) ?_
  refine g_aload_n (i := 0) (j := 0) (dk_Parcel_writeFormB 36 rfl) rfl rfl ?_
  refine g_getR fl_Parcel_15 (Or.inr ⟨_, rfl⟩) (dk_Parcel_writeFormB 37 rfl) (c1.up (hs5.trans (hs9.trans (hs13.trans (hs17.trans hs21))))) ?_
  refine g_iconst (dk_Parcel_writeFormB 38 rfl) (by decide) ?_
  obtain ⟨c22, h⟩ := p_gdE h
  obtain ⟨c23, h⟩ := p_gdE h
  refine g_iaload (dk_Parcel_writeFormB 39 rfl) c22 c23.1 c23.2 ?_
  refine g_imul (dk_Parcel_writeFormB 40 rfl) ?_
  refine g_iconst (dk_Parcel_writeFormB 41 rfl) (by decide) ?_
  refine g_aload_n (i := 0) (j := 0) (dk_Parcel_writeFormB 42 rfl) rfl rfl ?_
  refine g_getR fl_Parcel_15 (Or.inr ⟨_, rfl⟩) (dk_Parcel_writeFormB 43 rfl) (c1.up (hs5.trans (hs9.trans (hs13.trans (hs17.trans hs21))))) ?_
  refine g_iconst (dk_Parcel_writeFormB 44 rfl) (by decide) ?_
  obtain ⟨c24, h⟩ := p_gdE h
  refine g_iaload (dk_Parcel_writeFormB 45 rfl) c22 c24.1 c24.2 ?_
  refine g_imul (dk_Parcel_writeFormB 46 rfl) ?_
  refine g_iadd (dk_Parcel_writeFormB 47 rfl) ?_
  refine g_iconst (dk_Parcel_writeFormB 48 rfl) (by decide) ?_
  refine g_aload_n (i := 0) (j := 0) (dk_Parcel_writeFormB 49 rfl) rfl rfl ?_
  refine g_getR fl_Parcel_15 (Or.inr ⟨_, rfl⟩) (dk_Parcel_writeFormB 50 rfl) (c1.up (hs5.trans (hs9.trans (hs13.trans (hs17.trans hs21))))) ?_
  refine g_iconst (dk_Parcel_writeFormB 51 rfl) (by decide) ?_
  obtain ⟨c25, h⟩ := p_gdE h
  refine g_iaload (dk_Parcel_writeFormB 52 rfl) c22 c25.1 c25.2 ?_
  refine g_imul (dk_Parcel_writeFormB 53 rfl) ?_
  refine g_iadd (dk_Parcel_writeFormB 54 rfl) ?_
  refine g_aload_n (i := 0) (j := 0) (dk_Parcel_writeFormB 55 rfl) rfl rfl ?_
  refine g_getR fl_Parcel_15 (Or.inr ⟨_, rfl⟩) (dk_Parcel_writeFormB 56 rfl) (c1.up (hs5.trans (hs9.trans (hs13.trans (hs17.trans hs21))))) ?_
  refine g_iconst (dk_Parcel_writeFormB 57 rfl) (by decide) ?_
  obtain ⟨c26, h⟩ := p_gdE h
  refine g_iaload (dk_Parcel_writeFormB 58 rfl) c22 c26.1 c26.2 ?_
  refine g_iadd (dk_Parcel_writeFormB 59 rfl) ?_
  refine g_bipush (dk_Parcel_writeFormB 60 rfl) (by decide +kernel) (by decide) ?_
  refine g_irem (dk_Parcel_writeFormB 61 rfl) (by decide) ?_
  obtain ⟨c27, h⟩ := p_gdE h
  refine g_iastore (dk_Parcel_writeFormB 62 rfl) c22 c27.1 c27.2 ?_
  refine p_ltS (P := fun q => p_Go K l m_Parcel_writeFormB 96 [(0, p_r v0), (1, p_i v1)] [] q _) (p_xZ _ _ _ _) ?_ h
  intro s28 hs29 h
  refine g_aload_n (i := 0) (j := 0) (dk_Parcel_writeFormB 63 rfl) rfl rfl ?_
  refine g_bipush (dk_Parcel_writeFormB 64 rfl) (by decide +kernel) (by decide) ?_
  refine g_putI fl_Parcel_50 (Or.inl rfl) (dk_Parcel_writeFormB 65 rfl) (c1.up (hs5.trans (hs9.trans (hs13.trans (hs17.trans (hs21.trans hs29)))))) ?_
  refine p_ltS (P := fun q => p_Go K l m_Parcel_writeFormB 102 [(0, p_r v0), (1, p_i v1)] [] q _) (p_xZ _ _ _ _) ?_ h
  intro s30 hs31 h
  cases h
  exact g_ret rfl rfl (dk_Parcel_writeFormB 66 rfl) (fun _ => rfl)
