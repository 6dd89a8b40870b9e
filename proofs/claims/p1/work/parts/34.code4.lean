def m_Works_keep : p_Me := (⟨"SortWorks$Works", "keep", "(I)V"⟩, prog_11_method_5_code, 2, none, 3, 104)
theorem mt_Works_keep : p_Mt m_Works_keep 1 := ⟨p_mem (p_tb4 (List.mem_of_getElem? (i := 134) rfl)) rfl, tw_1_2, by decide +kernel, by decide +kernel, by decide +kernel⟩
def dt_Works_keep : List (Nat × Instr × Nat) := [(0, .aload_n 0, 1), (1, .getfield 46, 3), (4, .aload_n 0, 1), (5, .getfield 95, 3), (8, .aaload, 1), (9, .ifnonnull 19, 3), (12, .aload_n 0, 1), (13, .getfield 46, 3), (16, .aload_n 0, 1), (17, .getfield 95, 3), (20, .new 9, 3), (23, .dup, 1), (24, .invokespecial 11, 3), (27, .aastore, 1), (28, .aload_n 0, 1), (29, .getfield 12, 3), (32, .iload_n 1, 1), (33, .putfield 98, 3), (36, .aload_n 0, 1), (37, .getfield 46, 3), (40, .aload_n 0, 1), (41, .getfield 95, 3), (44, .aaload, 1), (45, .aload_n 0, 1), (46, .getfield 12, 3), (49, .aload_n 0, 1), (50, .getfield 57, 3), (53, .invokevirtual 101, 3), (56, .aload_n 0, 1), (57, .aload_n 0, 1), (58, .getfield 95, 3), (61, .iconst 1, 1), (62, .iadd, 1), (63, .bipush 30, 2), (65, .irem, 1), (66, .putfield 95, 3), (69, .aload_n 0, 1), (70, .aload_n 0, 1), (71, .getfield 104, 3), (74, .iconst 1, 1), (75, .iadd, 1), (76, .bipush 30, 2), (78, .invokestatic 107, 3), (81, .putfield 104, 3), (84, .return_, 1)]
theorem dk_Works_keep (i : Nat) {pc : Nat} {ins : Instr} {len : Nat} (h : dt_Works_keep[i]? = some (pc, ins, len)) : decode m_Works_keep.2.1 pc = .ok (ins, len) := p_dk (b := m_Works_keep.2.1) (t := dt_Works_keep) (by decide +kernel) i h
def B_Works_keep_28  (v0 : Nat) (v1 : Int) (s0 : p_Hp) : Option p_Hp :=
  p_gd (p_is s0 v0 9) <|
  p_gd (p_is s0 (p_R s0 v0 1) 7) <|
  p_bi (p_wZ s0 (p_R s0 v0 1) 3 v1) fun s3 =>
  p_gd (p_is s3 (p_R s3 v0 12) 105) <|
  p_gd (0 ≤ (p_Z s3 v0 13) ∧ (p_Z s3 v0 13) < (p_L s3 (p_R s3 v0 12) : Int)) <|
  p_gd (p_is s3 (p_R s3 (p_R s3 v0 12) ((p_Z s3 v0 13)).toNat) 7) <|
  p_bv (F_State_becomeAs (p_R s3 (p_R s3 v0 12) ((p_Z s3 v0 13)).toNat) (p_R s3 v0 1) (p_Z s3 v0 2) s3) fun s8 =>
  p_bi (p_wZ s8 v0 13 (p_rem (p_w ((p_Z s8 v0 13) + 1)) 30)) fun s12 =>
  p_bd (F_Ma_min (p_w ((p_Z s12 v0 14) + 1)) 30 s12) fun r18 s14 =>
  p_bi (p_wZ s14 v0 14 r18) fun s19 =>
  some s19
def F_Works_keep (v0 : Nat) (v1 : Int) (s0 : p_Hp) : Option p_Hp :=
  p_gd (p_is s0 v0 9) <|
  p_gd (p_is s0 (p_R s0 v0 12) 105) <|
  p_gd (0 ≤ (p_Z s0 v0 13) ∧ (p_Z s0 v0 13) < (p_L s0 (p_R s0 v0 12) : Int)) <|
  if (p_R s0 (p_R s0 v0 12) ((p_Z s0 v0 13)).toNat) ≠ 0 then
    B_Works_keep_28 v0 v1 s0
  else
    p_bi (p_nw s0 7 9) fun s5 =>
    p_bv (F_State_init (p_N s0 + 1) s5) fun s7 =>
    p_gd (p_is s7 (p_N s0 + 1) 7) <|
    p_gd (0 ≤ (p_Z s0 v0 13) ∧ (p_Z s0 v0 13) < (p_L s7 (p_R s0 v0 12) : Int)) <|
    p_bi (p_wR s7 (p_R s0 v0 12) ((p_Z s0 v0 13)).toNat (p_N s0 + 1)) fun s13 =>
    B_Works_keep_28 v0 v1 s13
set_option maxRecDepth 100000 in
set_option maxHeartbeats 4000000 in
theorem tB_Works_keep_28 (K : p_K) (l : Launch)  (v0 : Nat) (v1 : Int) (s0 : p_Hp) (r : p_Hp) (h : B_Works_keep_28 v0 v1 s0 = some r) : p_Go K l m_Works_keep 28 [(0, p_r v0), (1, p_i v1)] [] s0 (none, r) := by
  unfold B_Works_keep_28 at h
  refine g_aload_n (i := 0) (j := 0) (dk_Works_keep 14 rfl) rfl rfl ?_
  obtain ⟨c1, h⟩ := p_gdE h
  refine g_getR fl_Works_12 (Or.inl ⟨_, rfl⟩) (dk_Works_keep 15 rfl) c1 ?_
  refine g_iload_n (i := 1) (j := 1) (dk_Works_keep 16 rfl) rfl rfl ?_
  obtain ⟨c2, h⟩ := p_gdE h
  refine g_putI fl_Works_98 (Or.inl rfl) (dk_Works_keep 17 rfl) c2 ?_
  refine p_ltS (P := fun q => p_Go K l m_Works_keep 36 [(0, p_r v0), (1, p_i v1)] [] q _) (p_xZ _ _ _ _) ?_ h
  intro s3 hs4 h
  refine g_aload_n (i := 0) (j := 0) (dk_Works_keep 18 rfl) rfl rfl ?_
  refine g_getR fl_Works_46 (Or.inr ⟨_, rfl⟩) (dk_Works_keep 19 rfl) (c1.up hs4) ?_
  refine g_aload_n (i := 0) (j := 0) (dk_Works_keep 20 rfl) rfl rfl ?_
  refine g_getI fl_Works_95 (Or.inl rfl) (dk_Works_keep 21 rfl) (c1.up hs4) ?_
  obtain ⟨c5, h⟩ := p_gdE h
  obtain ⟨c6, h⟩ := p_gdE h
  refine g_aaload (i := 5) rfl (Or.inl ⟨_, rfl⟩) (dk_Works_keep 22 rfl) c5 c6.1 c6.2 ?_
  refine g_aload_n (i := 0) (j := 0) (dk_Works_keep 23 rfl) rfl rfl ?_
  refine g_getR fl_Works_12 (Or.inl ⟨_, rfl⟩) (dk_Works_keep 24 rfl) (c1.up hs4) ?_
  refine g_aload_n (i := 0) (j := 0) (dk_Works_keep 25 rfl) rfl rfl ?_
  refine g_getI fl_Works_57 (Or.inl rfl) (dk_Works_keep 26 rfl) (c1.up hs4) ?_
  obtain ⟨c7, h⟩ := p_gdE h
  obtain ⟨s8, q9, h⟩ := p_bvE h
  have t10 := tF_State_becomeAs K l (p_R s3 (p_R s3 v0 12) ((p_Z s3 v0 13)).toNat) (p_R s3 v0 1) (p_Z s3 v0 2) s3 _ q9
  refine g_callV (a := (p_R s3 (p_R s3 v0 12) ((p_Z s3 v0 13)).toNat)) (ci := 7) (q0 := (RX7, TX7, 9)) (As := [p_r (p_R s3 v0 1), p_i (p_Z s3 v0 2)]) (rest := []) [] mt_State_becomeAs rfl rfl tw_4_136 tw_4_137 tw_4_135 ⟨Nat.le_of_ble_eq_true rfl, Nat.le_of_ble_eq_true rfl⟩ rfl (Nat.le_of_ble_eq_true rfl) (dk_Works_keep 27 rfl) rfl c7 rfl t10 ?_
  have hs11 : p_x s3 s8 := t10.1
  show p_Go K l m_Works_keep 56 [(0, p_r v0), (1, p_i v1)] [] s8 _
  refine g_aload_n (i := 0) (j := 0) (dk_Works_keep 28 rfl) rfl rfl ?_
  refine g_aload_n (i := 0) (j := 0) (dk_Works_keep 29 rfl) rfl rfl ?_
  refine g_getI fl_Works_95 (Or.inl rfl) (dk_Works_keep 30 rfl) (c1.up (hs4.trans hs11)) ?_
  refine g_iconst (dk_Works_keep 31 rfl) (by decide) ?_
  refine g_iadd (dk_Works_keep 32 rfl) ?_
  refine g_bipush (dk_Works_keep 33 rfl) rfl (by decide) ?_
  refine g_irem (dk_Works_keep 34 rfl) (by decide) ?_
  refine g_putI fl_Works_95 (Or.inl rfl) (dk_Works_keep 35 rfl) (c1.up (hs4.trans hs11)) ?_
  refine p_ltS (P := fun q => p_Go K l m_Works_keep 69 [(0, p_r v0), (1, p_i v1)] [] q _) (p_xZ _ _ _ _) ?_ h
  intro s12 hs13 h
  refine g_aload_n (i := 0) (j := 0) (dk_Works_keep 36 rfl) rfl rfl ?_
  refine g_aload_n (i := 0) (j := 0) (dk_Works_keep 37 rfl) rfl rfl ?_
  refine g_getI fl_Works_104 (Or.inl rfl) (dk_Works_keep 38 rfl) (c1.up (hs4.trans (hs11.trans hs13))) ?_
  refine g_iconst (dk_Works_keep 39 rfl) (by decide) ?_
  refine g_iadd (dk_Works_keep 40 rfl) ?_
  refine g_bipush (dk_Works_keep 41 rfl) rfl (by decide) ?_
  obtain ⟨r18, s14, q15, h⟩ := p_bdE h
  have t16 := tF_Ma_min K l (p_w ((p_Z s12 v0 14) + 1)) 30 s12 _ q15
  refine g_callS (av := [p_i (p_w ((p_Z s12 v0 14) + 1)), p_i 30]) (rest := [p_r v0]) [p_i r18, p_r v0] mt_Ma_min tw_3_161 tw_4_155 ⟨Nat.le_of_ble_eq_true rfl, Nat.le_of_ble_eq_true rfl⟩ rfl (Nat.le_of_ble_eq_true rfl) (dk_Works_keep 42 rfl) rfl rfl t16 ?_
  have hs17 : p_x s12 s14 := t16.1
  show p_Go K l m_Works_keep 81 [(0, p_r v0), (1, p_i v1)] [p_i r18, p_r v0] s14 _
  refine g_putI fl_Works_104 (Or.inl rfl) (dk_Works_keep 43 rfl) (c1.up (hs4.trans (hs11.trans (hs13.trans hs17)))) ?_
  refine p_ltS (P := fun q => p_Go K l m_Works_keep 84 [(0, p_r v0), (1, p_i v1)] [] q _) (p_xZ _ _ _ _) ?_ h
  intro s19 hs20 h
  cases h
  exact g_ret rfl rfl (dk_Works_keep 44 rfl) (fun _ => rfl)
set_option maxRecDepth 100000 in
set_option maxHeartbeats 4000000 in
theorem tF_Works_keep (K : p_K) (l : Launch) (v0 : Nat) (v1 : Int) (s0 : p_Hp) (r : p_Hp) (h : F_Works_keep v0 v1 s0 = some r) : p_Ct K l m_Works_keep [p_r v0, p_i v1] s0 (none, r) := by
  refine p_Ct.of (by decide) (Nat.le_of_ble_eq_true rfl) ?_
  unfold F_Works_keep at h
  show p_Go K l m_Works_keep 0 [(0, p_r v0), (1, p_i v1)] [] s0 _
  refine g_aload_n (i := 0) (j := 0) (dk_Works_keep 0 rfl) rfl rfl ?_
  obtain ⟨c1, h⟩ := p_gdE h
  refine g_getR fl_Works_46 (Or.inr ⟨_, rfl⟩) (dk_Works_keep 1 rfl) c1 ?_
  refine g_aload_n (i := 0) (j := 0) (dk_Works_keep 2 rfl) rfl rfl ?_
  refine g_getI fl_Works_95 (Or.inl rfl) (dk_Works_keep 3 rfl) c1 ?_
  obtain ⟨c2, h⟩ := p_gdE h
  obtain ⟨c3, h⟩ := p_gdE h
  refine g_aaload (i := 5) rfl (Or.inl ⟨_, rfl⟩) (dk_Works_keep 4 rfl) c2 c3.1 c3.2 ?_
  refine g_ifnonnull 28 (dk_Works_keep 5 rfl) (by decide) (fun b4 => ?_) (fun b4 => ?_)
  · have h := p_ifT b4 h
    exact tB_Works_keep_28 K l v0 v1 s0 _ h
  · have h := p_ifF b4 h
    refine g_aload_n (i := 0) (j := 0) (dk_Works_keep 6 rfl) rfl rfl ?_
    refine g_getR fl_Works_46 (Or.inr ⟨_, rfl⟩) (dk_Works_keep 7 rfl) c1 ?_
    refine g_aload_n (i := 0) (j := 0) (dk_Works_keep 8 rfl) rfl rfl ?_
    refine g_getI fl_Works_95 (Or.inl rfl) (dk_Works_keep 9 rfl) c1 ?_
    refine g_new cl_7 tw_1_32 (dk_Works_keep 10 rfl) ?_
    refine p_ltS (P := fun q => p_Go K l m_Works_keep 23 [(0, p_r v0), (1, p_i v1)] [p_r (p_N s0 + 1), p_i (p_Z s0 v0 13), p_r (p_R s0 v0 12)] q _) (p_x_nw _ _ _) ?_ h
    intro s5 hs6 h
    refine g_dup (dk_Works_keep 11 rfl) rfl ?_
    obtain ⟨s7, q8, h⟩ := p_bvE h
    have t9 := tF_State_init K l (p_N s0 + 1) s5 _ q8
    refine g_callI (a := (p_N s0 + 1)) (As := []) (rest := [p_r (p_N s0 + 1), p_i (p_Z s0 v0 13), p_r (p_R s0 v0 12)]) [p_r (p_N s0 + 1), p_i (p_Z s0 v0 13), p_r (p_R s0 v0 12)] mt_State_init tw_1_35 tw_1_34 rfl rfl ⟨Nat.le_of_ble_eq_true rfl, Nat.le_of_ble_eq_true rfl⟩ rfl (Nat.le_of_ble_eq_true rfl) (dk_Works_keep 12 rfl) rfl (Nat.le_add_left _ _) rfl t9 ?_
    have hs10 : p_x s5 s7 := t9.1
    show p_Go K l m_Works_keep 27 [(0, p_r v0), (1, p_i v1)] [p_r (p_N s0 + 1), p_i (p_Z s0 v0 13), p_r (p_R s0 v0 12)] s7 _
    obtain ⟨c11, h⟩ := p_gdE h
    obtain ⟨c12, h⟩ := p_gdE h
    refine g_aastore (i := 5) (ci := 7) (q := (RX7, TX7, 9)) rfl rfl (dk_Works_keep 13 rfl) (c2.up (hs6.trans hs10)) c11 c12.1 c12.2 ?_
    refine p_ltS (P := fun q => p_Go K l m_Works_keep 28 [(0, p_r v0), (1, p_i v1)] [] q _) (p_xR _ _ _ _) ?_ h
    intro s13 hs14 h
    exact tB_Works_keep_28 K l v0 v1 s13 _ h
def m_Step_run : p_Me := (⟨"SortWorks$Step", "run", "(LSortWorks$Works;LSortWorks$Numbers;)I"⟩, prog_10_method_2_code, 5, (some .int), 6, 146)
theorem mt_Step_run : p_Mt m_Step_run 2 := ⟨p_mem (p_tb4 (List.mem_of_getElem? (i := 130) rfl)) rfl, tw_1_9, by decide +kernel, by decide +kernel, by decide +kernel⟩
def dt_Step_run : List (Nat × Instr × Nat) := [(0, .aload_n 0, 1), (1, .aload_n 1, 1), (2, .putfield 18, 3), (5, .aload_n 0, 1), (6, .aload_n 1, 1), (7, .getfield 22, 3), (10, .putfield 28, 3), (13, .aload_n 0, 1), (14, .aload_n 2, 1), (15, .putfield 29, 3), (18, .aload_n 0, 1), (19, .getfield 28, 3), (22, .getfield 33, 3), (25, .getfield 39, 3), (28, .istore_n 3, 1), (29, .aload_n 0, 1), (30, .getfield 18, 3), (33, .aload_n 0, 1), (34, .getfield 29, 3), (37, .getfield 45, 3), (40, .invokevirtual 50, 3), (43, .aload_n 0, 1), (44, .getfield 28, 3), (47, .dup, 1), (48, .getfield 54, 3), (51, .iconst 1, 1), (52, .iadd, 1), (53, .putfield 54, 3), (56, .aload_n 0, 1), (57, .getfield 18, 3), (60, .iconst 0, 1), (61, .putfield 57, 3), (64, .iconst 1, 1), (65, .istore 4, 2), (67, .iload 4, 2), (69, .bipush 30, 2), (71, .if_icmp .gt 23, 3), (74, .aload_n 0, 1), (75, .getfield 28, 3), (78, .getfield 60, 3), (81, .iload 4, 2), (83, .aaload, 1), (84, .iconst 0, 1), (85, .putfield 64, 3), (88, .iinc 4 1, 3), (91, .goto (-24), 3), (94, .iconst 0, 1), (95, .istore 4, 2), (97, .iload 4, 2), (99, .aload_n 0, 1), (100, .getfield 18, 3), (103, .getfield 70, 3), (106, .if_icmp .ge 15, 3), (109, .aload_n 0, 1), (110, .iload 4, 2), (112, .invokevirtual 73, 3), (115, .iinc 4 1, 3), (118, .goto (-21), 3), (121, .aload_n 0, 1), (122, .invokevirtual 76, 3), (125, .iconst 0, 1), (126, .istore 4, 2), (128, .iload 4, 2), (130, .aload_n 0, 1), (131, .getfield 18, 3), (134, .getfield 79, 3), (137, .if_icmp .ge 32, 3), (140, .aload_n 0, 1), (141, .aload_n 0, 1), (142, .getfield 28, 3), (145, .getfield 82, 3), (148, .iload 4, 2), (150, .aaload, 1), (151, .invokevirtual 86, 3), (154, .ifCond .eq 9, 3), (157, .aload_n 0, 1), (158, .iload 4, 2), (160, .invokevirtual 90, 3), (163, .iinc 4 1, 3), (166, .goto (-38), 3), (169, .aload_n 0, 1), (170, .getfield 28, 3), (173, .getfield 33, 3), (176, .getfield 39, 3), (179, .iload_n 3, 1), (180, .isub, 1), (181, .ireturn, 1)]
theorem dk_Step_run (i : Nat) {pc : Nat} {ins : Instr} {len : Nat} (h : dt_Step_run[i]? = some (pc, ins, len)) : decode m_Step_run.2.1 pc = .ok (ins, len) := p_dk (b := m_Step_run.2.1) (t := dt_Step_run) (by decide +kernel) i h
def B_Step_run_163 (k128 : Nat → Int → Int → p_Hp → Option (Int × p_Hp)) (v0 : Nat) (v3 : Int) (v4 : Int) (s0 : p_Hp) : Option (Int × p_Hp) :=
  p_bi (p_w (v4 + 1)) fun x1 =>
  k128 v0 v3 x1 s0
def L_Step_run_128 (k128 : Nat → Int → Int → p_Hp → Option (Int × p_Hp)) (v0 : Nat) (v3 : Int) (v4 : Int) (s0 : p_Hp) : Option (Int × p_Hp) :=
  p_gd (p_is s0 v0 8) <|
  p_gd (p_is s0 (p_R s0 v0 2) 9) <|
  if (p_Z s0 (p_R s0 v0 2) 2) ≤ v4 then
    p_gd (p_is s0 (p_R s0 v0 3) 7) <|
    p_gd (p_is s0 (p_R s0 (p_R s0 v0 3) 7) 2) <|
    some ((p_w ((p_Z s0 (p_R s0 (p_R s0 v0 3) 7) 3) - v3)), s0)
  else
    p_gd (p_is s0 (p_R s0 v0 3) 7) <|
    p_gd (p_is s0 (p_R s0 (p_R s0 v0 3) 4) 106) <|
    p_gd (0 ≤ v4 ∧ v4 < (p_L s0 (p_R s0 (p_R s0 v0 3) 4) : Int)) <|
    p_bd (F_Step_isInStep v0 (p_R s0 (p_R s0 (p_R s0 v0 3) 4) (v4).toNat) s0) fun r13 s9 =>
    if r13 = 0 then
      B_Step_run_163 k128 v0 v3 v4 s9
    else
      p_bv (F_Step_act v0 v4 s9) fun s15 =>
      B_Step_run_163 k128 v0 v3 v4 s15
def O_Step_run_128  : Nat → Nat → Int → Int → p_Hp → Option (Int × p_Hp)
  | 0 => fun _ _ _ _ => none
  | n + 1 => L_Step_run_128 (O_Step_run_128 n)
def L_Step_run_97 (k97 : Nat → Int → Int → p_Hp → Option (Int × p_Hp)) (v0 : Nat) (v3 : Int) (v4 : Int) (s0 : p_Hp) : Option (Int × p_Hp) :=
  p_gd (p_is s0 v0 8) <|
  p_gd (p_is s0 (p_R s0 v0 2) 9) <|
  if (p_Z s0 (p_R s0 v0 2) 6) ≤ v4 then
    p_bv (F_Step_letMergesChoose v0 s0) fun s4 =>
    O_Step_run_128 3000 v0 v3 0 s4
  else
    p_bv (F_Step_doPlan v0 v4 s0) fun s8 =>
    p_bi (p_w (v4 + 1)) fun x12 =>
    k97 v0 v3 x12 s8
def O_Step_run_97  : Nat → Nat → Int → Int → p_Hp → Option (Int × p_Hp)
  | 0 => fun _ _ _ _ => none
  | n + 1 => L_Step_run_97 (O_Step_run_97 n)
def L_Step_run_67 (k67 : Nat → Int → Int → p_Hp → Option (Int × p_Hp)) (v0 : Nat) (v3 : Int) (v4 : Int) (s0 : p_Hp) : Option (Int × p_Hp) :=
  if 30 < v4 then
    O_Step_run_97 3000 v0 v3 0 s0
  else
    p_gd (p_is s0 v0 8) <|
    p_gd (p_is s0 (p_R s0 v0 3) 7) <|
    p_gd (p_is s0 (p_R s0 (p_R s0 v0 3) 5) 107) <|
    p_gd (0 ≤ v4 ∧ v4 < (p_L s0 (p_R s0 (p_R s0 v0 3) 5) : Int)) <|
    p_gd (p_is s0 (p_R s0 (p_R s0 (p_R s0 v0 3) 5) (v4).toNat) 4) <|
    p_bi (p_wZ s0 (p_R s0 (p_R s0 (p_R s0 v0 3) 5) (v4).toNat) 8 0) fun s7 =>
    p_bi (p_w (v4 + 1)) fun x9 =>
    k67 v0 v3 x9 s7
def O_Step_run_67  : Nat → Nat → Int → Int → p_Hp → Option (Int × p_Hp)
  | 0 => fun _ _ _ _ => none
  | n + 1 => L_Step_run_67 (O_Step_run_67 n)
def F_Step_run (v0 : Nat) (v1 : Nat) (v2 : Nat) (s0 : p_Hp) : Option (Int × p_Hp) :=
  p_gd (p_is s0 v0 8) <|
  p_bi (p_wR s0 v0 2 v1) fun s2 =>
  p_gd (p_is s2 v1 9) <|
  p_bi (p_wR s2 v0 3 (p_R s2 v1 1)) fun s5 =>
  p_bi (p_wR s5 v0 1 v2) fun s7 =>
  p_gd (p_is s7 (p_R s7 v0 3) 7) <|
  p_gd (p_is s7 (p_R s7 (p_R s7 v0 3) 7) 2) <|
  p_bi ((p_Z s7 (p_R s7 (p_R s7 v0 3) 7) 3)) fun x11 =>
  p_gd (p_is s7 (p_R s7 v0 1) 3) <|
  p_gd (p_is s7 (p_R s7 v0 2) 9) <|
  p_bv (F_Works_keep (p_R s7 v0 2) (p_Z s7 (p_R s7 v0 1) 1) s7) fun s14 =>
  p_gd (p_is s14 (p_R s14 v0 3) 7) <|
  p_bi (p_wZ s14 (p_R s14 v0 3) 0 (p_w ((p_Z s14 (p_R s14 v0 3) 0) + 1))) fun s19 =>
  p_gd (p_is s19 (p_R s19 v0 2) 9) <|
  p_bi (p_wZ s19 (p_R s19 v0 2) 11 0) fun s22 =>
  O_Step_run_67 3000 v0 x11 1 s22
set_option maxRecDepth 100000 in
set_option maxHeartbeats 4000000 in
theorem tB_Step_run_163 (K : p_K) (l : Launch) (k128 : Nat → Int → Int → p_Hp → Option (Int × p_Hp)) (hk128 : ∀ (v0 : Nat) (v3 : Int) (v4 : Int)  (s0 : p_Hp) (r : (Int × p_Hp)), k128 v0 v3 v4 s0 = some r → p_Go K l m_Step_run 128 [(0, p_r v0), (3, p_i v3), (4, p_i v4)] [] s0 (some (p_i r.1), r.2)) (v0 : Nat) (v3 : Int) (v4 : Int) (s0 : p_Hp) (r : (Int × p_Hp)) (h : B_Step_run_163 k128 v0 v3 v4 s0 = some r) : p_Go K l m_Step_run 163 [(0, p_r v0), (3, p_i v3), (4, p_i v4)] [] s0 (some (p_i r.1), r.2) := by
  unfold B_Step_run_163 at h
  refine g_iinc (j := 2) [(4, p_i (p_w (v4 + 1))), (0, p_r v0), (3, p_i v3)] (dk_Step_run 78 rfl) rfl (by decide) rfl ?_
  refine p_ltG (P := fun q => p_Go K l m_Step_run 166 [(4, p_i q), (0, p_r v0), (3, p_i v3)] [] s0 _) ?_ h
  intro x1 h
  refine g_goto 128 (dk_Step_run 79 rfl) (by decide) ?_
  refine g_sub [(0, p_r v0), (3, p_i v3), (4, p_i x1)] [1, 2, 0] rfl ?_
  exact hk128 v0 v3 x1 s0 _ h
set_option maxRecDepth 100000 in
set_option maxHeartbeats 4000000 in
theorem tL_Step_run_128 (K : p_K) (l : Launch) (k128 : Nat → Int → Int → p_Hp → Option (Int × p_Hp)) (hk128 : ∀ (v0 : Nat) (v3 : Int) (v4 : Int)  (s0 : p_Hp) (r : (Int × p_Hp)), k128 v0 v3 v4 s0 = some r → p_Go K l m_Step_run 128 [(0, p_r v0), (3, p_i v3), (4, p_i v4)] [] s0 (some (p_i r.1), r.2)) (v0 : Nat) (v3 : Int) (v4 : Int) (s0 : p_Hp) (r : (Int × p_Hp)) (h : L_Step_run_128 k128 v0 v3 v4 s0 = some r) : p_Go K l m_Step_run 128 [(0, p_r v0), (3, p_i v3), (4, p_i v4)] [] s0 (some (p_i r.1), r.2) := by
  unfold L_Step_run_128 at h
  refine g_iload (j := 2) (dk_Step_run 62 rfl) rfl ?_
  refine g_aload_n (i := 0) (j := 0) (dk_Step_run 63 rfl) rfl rfl ?_
  obtain ⟨c1, h⟩ := p_gdE h
  refine g_getR fl_Step_18 (Or.inl ⟨_, rfl⟩) (dk_Step_run 64 rfl) c1 ?_
  obtain ⟨c2, h⟩ := p_gdE h
  refine g_getI fl_Step_79 (Or.inl rfl) (dk_Step_run 65 rfl) c2 ?_
  refine g_icmp_ge 169 (dk_Step_run 66 rfl) (by decide) (fun b3 => ?_) (fun b3 => ?_)
  · have h := p_ifT b3 h
    refine g_aload_n (i := 0) (j := 0) (dk_Step_run 80 rfl) rfl rfl ?_
    refine g_getR fl_Step_28 (Or.inl ⟨_, rfl⟩) (dk_Step_run 81 rfl) c1 ?_
    obtain ⟨c4, h⟩ := p_gdE h
    refine g_getR fl_Step_33 (Or.inl ⟨_, rfl⟩) (dk_Step_run 82 rfl) c4 ?_
    obtain ⟨c5, h⟩ := p_gdE h
    refine g_getI fl_Step_39 (Or.inl rfl) (dk_Step_run 83 rfl) c5 ?_
    refine g_iload_n (i := 3) (j := 1) (dk_Step_run 84 rfl) rfl rfl ?_
    refine g_isub (dk_Step_run 85 rfl) ?_
    cases h
    exact g_ret rfl rfl (dk_Step_run 86 rfl) (fun os => ⟨_, rfl, p_okh os⟩)
  · have h := p_ifF b3 h
    refine g_aload_n (i := 0) (j := 0) (dk_Step_run 67 rfl) rfl rfl ?_
    refine g_aload_n (i := 0) (j := 0) (dk_Step_run 68 rfl) rfl rfl ?_
    refine g_getR fl_Step_28 (Or.inl ⟨_, rfl⟩) (dk_Step_run 69 rfl) c1 ?_
    obtain ⟨c6, h⟩ := p_gdE h
    refine g_getR fl_Step_82 (Or.inr ⟨_, rfl⟩) (dk_Step_run 70 rfl) c6 ?_
    refine g_iload (j := 2) (dk_Step_run 71 rfl) rfl ?_
    obtain ⟨c7, h⟩ := p_gdE h
    obtain ⟨c8, h⟩ := p_gdE h
    refine g_aaload (i := 6) rfl (Or.inl ⟨_, rfl⟩) (dk_Step_run 72 rfl) c7 c8.1 c8.2 ?_
    obtain ⟨r13, s9, q10, h⟩ := p_bdE h
    have t11 := tF_Step_isInStep K l v0 (p_R s0 (p_R s0 (p_R s0 v0 3) 4) (v4).toNat) s0 _ q10
    refine g_callV (a := v0) (ci := 8) (q0 := (RX8, TX8, 5)) (As := [p_r (p_R s0 (p_R s0 (p_R s0 v0 3) 4) (v4).toNat)]) (rest := []) [p_i r13] mt_Step_isInStep rfl rfl tw_4_193 ts_19 tw_4_191 ⟨Nat.le_of_ble_eq_true rfl, Nat.le_of_ble_eq_true rfl⟩ rfl (Nat.le_of_ble_eq_true rfl) (dk_Step_run 73 rfl) rfl c1 rfl t11 ?_
    have hs12 : p_x s0 s9 := t11.1
    show p_Go K l m_Step_run 154 [(0, p_r v0), (3, p_i v3), (4, p_i v4)] [p_i r13] s9 _
    refine g_if_eq 163 (dk_Step_run 74 rfl) (by decide) (fun b14 => ?_) (fun b14 => ?_)
    · have h := p_ifT b14 h
      exact tB_Step_run_163 K l k128 hk128 v0 v3 v4 s9 _ h
    · have h := p_ifF b14 h
      refine g_aload_n (i := 0) (j := 0) (dk_Step_run 75 rfl) rfl rfl ?_
      refine g_iload (j := 2) (dk_Step_run 76 rfl) rfl ?_
      obtain ⟨s15, q16, h⟩ := p_bvE h
      have t17 := tF_Step_act K l v0 v4 s9 _ q16
      refine g_callV (a := v0) (ci := 8) (q0 := (RX8, TX8, 5)) (As := [p_i v4]) (rest := []) [] mt_Step_act rfl rfl tw_4_217 ts_21 tw_4_215 ⟨Nat.le_of_ble_eq_true rfl, Nat.le_of_ble_eq_true rfl⟩ rfl (Nat.le_of_ble_eq_true rfl) (dk_Step_run 77 rfl) rfl (c1.up hs12) rfl t17 ?_
      have hs18 : p_x s9 s15 := t17.1
      show p_Go K l m_Step_run 163 [(0, p_r v0), (3, p_i v3), (4, p_i v4)] [] s15 _
      exact tB_Step_run_163 K l k128 hk128 v0 v3 v4 s15 _ h
set_option maxRecDepth 100000 in
set_option maxHeartbeats 4000000 in
theorem tO_Step_run_128 (K : p_K) (l : Launch)  : ∀ (n : Nat) (v0 : Nat) (v3 : Int) (v4 : Int) (s0 : p_Hp) (r : (Int × p_Hp)), O_Step_run_128 n v0 v3 v4 s0 = some r → p_Go K l m_Step_run 128 [(0, p_r v0), (3, p_i v3), (4, p_i v4)] [] s0 (some (p_i r.1), r.2) := by
  intro n
  induction n with
  | zero => intro v0 v3 v4 s0 r h; cases (show (none : Option (Int × p_Hp)) = some r from h)
  | succ n ih => intro v0 v3 v4 s0 r h; exact tL_Step_run_128 K l _ ih v0 v3 v4 s0 r h
set_option maxRecDepth 100000 in
set_option maxHeartbeats 4000000 in
theorem tL_Step_run_97 (K : p_K) (l : Launch) (k97 : Nat → Int → Int → p_Hp → Option (Int × p_Hp)) (hk97 : ∀ (v0 : Nat) (v3 : Int) (v4 : Int)  (s0 : p_Hp) (r : (Int × p_Hp)), k97 v0 v3 v4 s0 = some r → p_Go K l m_Step_run 97 [(0, p_r v0), (3, p_i v3), (4, p_i v4)] [] s0 (some (p_i r.1), r.2)) (v0 : Nat) (v3 : Int) (v4 : Int) (s0 : p_Hp) (r : (Int × p_Hp)) (h : L_Step_run_97 k97 v0 v3 v4 s0 = some r) : p_Go K l m_Step_run 97 [(0, p_r v0), (3, p_i v3), (4, p_i v4)] [] s0 (some (p_i r.1), r.2) := by
  unfold L_Step_run_97 at h
  refine g_iload (j := 2) (dk_Step_run 48 rfl) rfl ?_
  refine g_aload_n (i := 0) (j := 0) (dk_Step_run 49 rfl) rfl rfl ?_
  obtain ⟨c1, h⟩ := p_gdE h
  refine g_getR fl_Step_18 (Or.inl ⟨_, rfl⟩) (dk_Step_run 50 rfl) c1 ?_
  obtain ⟨c2, h⟩ := p_gdE h
  refine g_getI fl_Step_70 (Or.inl rfl) (dk_Step_run 51 rfl) c2 ?_
  refine g_icmp_ge 121 (dk_Step_run 52 rfl) (by decide) (fun b3 => ?_) (fun b3 => ?_)
  · have h := p_ifT b3 h
    refine g_aload_n (i := 0) (j := 0) (dk_Step_run 58 rfl) rfl rfl ?_
    obtain ⟨s4, q5, h⟩ := p_bvE h
    have t6 := tF_Step_letMergesChoose K l v0 s0 _ q5
    refine g_callV (a := v0) (ci := 8) (q0 := (RX8, TX8, 5)) (As := []) (rest := []) [] mt_Step_letMergesChoose rfl rfl tw_4_184 ts_17 tw_4_182 ⟨Nat.le_of_ble_eq_true rfl, Nat.le_of_ble_eq_true rfl⟩ rfl (Nat.le_of_ble_eq_true rfl) (dk_Step_run 59 rfl) rfl c1 rfl t6 ?_
    have hs7 : p_x s0 s4 := t6.1
    show p_Go K l m_Step_run 125 [(0, p_r v0), (3, p_i v3), (4, p_i v4)] [] s4 _
    refine g_iconst (dk_Step_run 60 rfl) (by decide) ?_
    refine g_istore [(4, p_i 0), (0, p_r v0), (3, p_i v3)] (dk_Step_run 61 rfl) (by decide) rfl ?_
    refine g_sub [(0, p_r v0), (3, p_i v3), (4, p_i 0)] [1, 2, 0] rfl ?_
    exact tO_Step_run_128 K l 3000 v0 v3 0 s4 _ h
  · have h := p_ifF b3 h
    refine g_aload_n (i := 0) (j := 0) (dk_Step_run 53 rfl) rfl rfl ?_
    refine g_iload (j := 2) (dk_Step_run 54 rfl) rfl ?_
    obtain ⟨s8, q9, h⟩ := p_bvE h
    have t10 := tF_Step_doPlan K l v0 v4 s0 _ q9
    refine g_callV (a := v0) (ci := 8) (q0 := (RX8, TX8, 5)) (As := [p_i v4]) (rest := []) [] mt_Step_doPlan rfl rfl tw_4_158 ts_14 tw_4_156 ⟨Nat.le_of_ble_eq_true rfl, Nat.le_of_ble_eq_true rfl⟩ rfl (Nat.le_of_ble_eq_true rfl) (dk_Step_run 55 rfl) rfl c1 rfl t10 ?_
    have hs11 : p_x s0 s8 := t10.1
    show p_Go K l m_Step_run 115 [(0, p_r v0), (3, p_i v3), (4, p_i v4)] [] s8 _
    refine g_iinc (j := 2) [(4, p_i (p_w (v4 + 1))), (0, p_r v0), (3, p_i v3)] (dk_Step_run 56 rfl) rfl (by decide) rfl ?_
    refine p_ltG (P := fun q => p_Go K l m_Step_run 118 [(4, p_i q), (0, p_r v0), (3, p_i v3)] [] s8 _) ?_ h
    intro x12 h
    refine g_goto 97 (dk_Step_run 57 rfl) (by decide) ?_
    refine g_sub [(0, p_r v0), (3, p_i v3), (4, p_i x12)] [1, 2, 0] rfl ?_
    exact hk97 v0 v3 x12 s8 _ h
set_option maxRecDepth 100000 in
set_option maxHeartbeats 4000000 in
theorem tO_Step_run_97 (K : p_K) (l : Launch)  : ∀ (n : Nat) (v0 : Nat) (v3 : Int) (v4 : Int) (s0 : p_Hp) (r : (Int × p_Hp)), O_Step_run_97 n v0 v3 v4 s0 = some r → p_Go K l m_Step_run 97 [(0, p_r v0), (3, p_i v3), (4, p_i v4)] [] s0 (some (p_i r.1), r.2) := by
  intro n
  induction n with
  | zero => intro v0 v3 v4 s0 r h; cases (show (none : Option (Int × p_Hp)) = some r from h)
  | succ n ih => intro v0 v3 v4 s0 r h; exact tL_Step_run_97 K l _ ih v0 v3 v4 s0 r h
set_option maxRecDepth 100000 in
set_option maxHeartbeats 4000000 in
theorem tL_Step_run_67 (K : p_K) (l : Launch) (k67 : Nat → Int → Int → p_Hp → Option (Int × p_Hp)) (hk67 : ∀ (v0 : Nat) (v3 : Int) (v4 : Int)  (s0 : p_Hp) (r : (Int × p_Hp)), k67 v0 v3 v4 s0 = some r → p_Go K l m_Step_run 67 [(0, p_r v0), (3, p_i v3), (4, p_i v4)] [] s0 (some (p_i r.1), r.2)) (v0 : Nat) (v3 : Int) (v4 : Int) (s0 : p_Hp) (r : (Int × p_Hp)) (h : L_Step_run_67 k67 v0 v3 v4 s0 = some r) : p_Go K l m_Step_run 67 [(0, p_r v0), (3, p_i v3), (4, p_i v4)] [] s0 (some (p_i r.1), r.2) := by
  unfold L_Step_run_67 at h
  refine g_iload (j := 2) (dk_Step_run 34 rfl) rfl ?_
  refine g_bipush (dk_Step_run 35 rfl) rfl (by decide) ?_
  refine g_icmp_gt 94 (dk_Step_run 36 rfl) (by decide) (fun b1 => ?_) (fun b1 => ?_)
  · have h := p_ifT b1 h
    refine g_iconst (dk_Step_run 46 rfl) (by decide) ?_
    refine g_istore [(4, p_i 0), (0, p_r v0), (3, p_i v3)] (dk_Step_run 47 rfl) (by decide) rfl ?_
    refine g_sub [(0, p_r v0), (3, p_i v3), (4, p_i 0)] [1, 2, 0] rfl ?_
    exact tO_Step_run_97 K l 3000 v0 v3 0 s0 _ h
  · have h := p_ifF b1 h
    refine g_aload_n (i := 0) (j := 0) (dk_Step_run 37 rfl) rfl rfl ?_
    obtain ⟨c2, h⟩ := p_gdE h
    refine g_getR fl_Step_28 (Or.inl ⟨_, rfl⟩) (dk_Step_run 38 rfl) c2 ?_
    obtain ⟨c3, h⟩ := p_gdE h
    refine g_getR fl_Step_60 (Or.inr ⟨_, rfl⟩) (dk_Step_run 39 rfl) c3 ?_
    refine g_iload (j := 2) (dk_Step_run 40 rfl) rfl ?_
    obtain ⟨c4, h⟩ := p_gdE h
    obtain ⟨c5, h⟩ := p_gdE h
    refine g_aaload (i := 7) rfl (Or.inl ⟨_, rfl⟩) (dk_Step_run 41 rfl) c4 c5.1 c5.2 ?_
    refine g_iconst (dk_Step_run 42 rfl) (by decide) ?_
    obtain ⟨c6, h⟩ := p_gdE h
    refine g_putB fl_Step_64 (Or.inl rfl) (dk_Step_run 43 rfl) c6 (Or.inl rfl) ?_
    refine p_ltS (P := fun q => p_Go K l m_Step_run 88 [(0, p_r v0), (3, p_i v3), (4, p_i v4)] [] q _) (p_xZ _ _ _ _) ?_ h
    intro s7 hs8 h
    refine g_iinc (j := 2) [(4, p_i (p_w (v4 + 1))), (0, p_r v0), (3, p_i v3)] (dk_Step_run 44 rfl) rfl (by decide) rfl ?_
    refine p_ltG (P := fun q => p_Go K l m_Step_run 91 [(4, p_i q), (0, p_r v0), (3, p_i v3)] [] s7 _) ?_ h
    intro x9 h
    refine g_goto 67 (dk_Step_run 45 rfl) (by decide) ?_
    refine g_sub [(0, p_r v0), (3, p_i v3), (4, p_i x9)] [1, 2, 0] rfl ?_
    exact hk67 v0 v3 x9 s7 _ h
set_option maxRecDepth 100000 in
set_option maxHeartbeats 4000000 in
theorem tO_Step_run_67 (K : p_K) (l : Launch)  : ∀ (n : Nat) (v0 : Nat) (v3 : Int) (v4 : Int) (s0 : p_Hp) (r : (Int × p_Hp)), O_Step_run_67 n v0 v3 v4 s0 = some r → p_Go K l m_Step_run 67 [(0, p_r v0), (3, p_i v3), (4, p_i v4)] [] s0 (some (p_i r.1), r.2) := by
  intro n
  induction n with
  | zero => intro v0 v3 v4 s0 r h; cases (show (none : Option (Int × p_Hp)) = some r from h)
  | succ n ih => intro v0 v3 v4 s0 r h; exact tL_Step_run_67 K l _ ih v0 v3 v4 s0 r h
set_option maxRecDepth 100000 in
set_option maxHeartbeats 4000000 in
theorem tF_Step_run (K : p_K) (l : Launch) (v0 : Nat) (v1 : Nat) (v2 : Nat) (s0 : p_Hp) (r : (Int × p_Hp)) (h : F_Step_run v0 v1 v2 s0 = some r) : p_Ct K l m_Step_run [p_r v0, p_r v1, p_r v2] s0 (some (p_i r.1), r.2) := by
  refine p_Ct.of (by decide) (Nat.le_of_ble_eq_true rfl) ?_
  unfold F_Step_run at h
  show p_Go K l m_Step_run 0 [(0, p_r v0), (1, p_r v1), (2, p_r v2)] [] s0 _
  refine g_aload_n (i := 0) (j := 0) (dk_Step_run 0 rfl) rfl rfl ?_
  refine g_aload_n (i := 1) (j := 1) (dk_Step_run 1 rfl) rfl rfl ?_
  obtain ⟨c1, h⟩ := p_gdE h
  refine g_putR fl_Step_18 (Or.inl ⟨_, rfl⟩) (Or.inl rfl) (dk_Step_run 2 rfl) c1 ?_
  refine p_ltS (P := fun q => p_Go K l m_Step_run 5 [(0, p_r v0), (1, p_r v1), (2, p_r v2)] [] q _) (p_xR _ _ _ _) ?_ h
  intro s2 hs3 h
  refine g_aload_n (i := 0) (j := 0) (dk_Step_run 3 rfl) rfl rfl ?_
  refine g_aload_n (i := 1) (j := 1) (dk_Step_run 4 rfl) rfl rfl ?_
  obtain ⟨c4, h⟩ := p_gdE h
  refine g_getR fl_Step_22 (Or.inl ⟨_, rfl⟩) (dk_Step_run 5 rfl) c4 ?_
  refine g_putR fl_Step_28 (Or.inl ⟨_, rfl⟩) (Or.inl rfl) (dk_Step_run 6 rfl) (c1.up hs3) ?_
  refine p_ltS (P := fun q => p_Go K l m_Step_run 13 [(0, p_r v0), (1, p_r v1), (2, p_r v2)] [] q _) (p_xR _ _ _ _) ?_ h
  intro s5 hs6 h
  refine g_aload_n (i := 0) (j := 0) (dk_Step_run 7 rfl) rfl rfl ?_
  refine g_aload_n (i := 2) (j := 2) (dk_Step_run 8 rfl) rfl rfl ?_
  refine g_putR fl_Step_29 (Or.inl ⟨_, rfl⟩) (Or.inl rfl) (dk_Step_run 9 rfl) (c1.up (hs3.trans hs6)) ?_
  refine p_ltS (P := fun q => p_Go K l m_Step_run 18 [(0, p_r v0), (1, p_r v1), (2, p_r v2)] [] q _) (p_xR _ _ _ _) ?_ h
  intro s7 hs8 h
  refine g_aload_n (i := 0) (j := 0) (dk_Step_run 10 rfl) rfl rfl ?_
  refine g_getR fl_Step_28 (Or.inl ⟨_, rfl⟩) (dk_Step_run 11 rfl) (c1.up (hs3.trans (hs6.trans hs8))) ?_
  obtain ⟨c9, h⟩ := p_gdE h
  refine g_getR fl_Step_33 (Or.inl ⟨_, rfl⟩) (dk_Step_run 12 rfl) c9 ?_
  obtain ⟨c10, h⟩ := p_gdE h
  refine g_getI fl_Step_39 (Or.inl rfl) (dk_Step_run 13 rfl) c10 ?_
  refine g_istore_n (i := 3) [(3, p_i (p_Z s7 (p_R s7 (p_R s7 v0 3) 7) 3)), (0, p_r v0), (1, p_r v1), (2, p_r v2)] (dk_Step_run 14 rfl) rfl (by decide) rfl ?_
  refine p_ltG (P := fun q => p_Go K l m_Step_run 29 [(3, p_i q), (0, p_r v0), (1, p_r v1), (2, p_r v2)] [] s7 _) ?_ h
  intro x11 h
  refine g_aload_n (i := 0) (j := 1) (dk_Step_run 15 rfl) rfl rfl ?_
  refine g_getR fl_Step_18 (Or.inl ⟨_, rfl⟩) (dk_Step_run 16 rfl) (c1.up (hs3.trans (hs6.trans hs8))) ?_
  refine g_aload_n (i := 0) (j := 1) (dk_Step_run 17 rfl) rfl rfl ?_
  refine g_getR fl_Step_29 (Or.inl ⟨_, rfl⟩) (dk_Step_run 18 rfl) (c1.up (hs3.trans (hs6.trans hs8))) ?_
  obtain ⟨c12, h⟩ := p_gdE h
  refine g_getI fl_Step_45 (Or.inl rfl) (dk_Step_run 19 rfl) c12 ?_
  obtain ⟨c13, h⟩ := p_gdE h
  obtain ⟨s14, q15, h⟩ := p_bvE h
  have t16 := tF_Works_keep K l (p_R s7 v0 2) (p_Z s7 (p_R s7 v0 1) 1) s7 _ q15
  refine g_callV (a := (p_R s7 v0 2)) (ci := 9) (q0 := (RX9, TX9, 16)) (As := [p_i (p_Z s7 (p_R s7 v0 1) 1)]) (rest := []) [] mt_Works_keep rfl rfl tw_4_132 tw_4_133 tw_4_131 ⟨Nat.le_of_ble_eq_true rfl, Nat.le_of_ble_eq_true rfl⟩ rfl (Nat.le_of_ble_eq_true rfl) (dk_Step_run 20 rfl) rfl c13 rfl t16 ?_
  have hs17 : p_x s7 s14 := t16.1
  show p_Go K l m_Step_run 43 [(3, p_i x11), (0, p_r v0), (1, p_r v1), (2, p_r v2)] [] s14 _
  refine g_aload_n (i := 0) (j := 1) (dk_Step_run 21 rfl) rfl rfl ?_
  refine g_getR fl_Step_28 (Or.inl ⟨_, rfl⟩) (dk_Step_run 22 rfl) (c1.up (hs3.trans (hs6.trans (hs8.trans hs17)))) ?_
  refine g_dup (dk_Step_run 23 rfl) rfl ?_
  obtain ⟨c18, h⟩ := p_gdE h
  refine g_getI fl_Step_54 (Or.inl rfl) (dk_Step_run 24 rfl) c18 ?_
  refine g_iconst (dk_Step_run 25 rfl) (by decide) ?_
  refine g_iadd (dk_Step_run 26 rfl) ?_
  refine g_putI fl_Step_54 (Or.inl rfl) (dk_Step_run 27 rfl) c18 ?_
  refine p_ltS (P := fun q => p_Go K l m_Step_run 56 [(3, p_i x11), (0, p_r v0), (1, p_r v1), (2, p_r v2)] [] q _) (p_xZ _ _ _ _) ?_ h
  intro s19 hs20 h
  refine g_aload_n (i := 0) (j := 1) (dk_Step_run 28 rfl) rfl rfl ?_
  refine g_getR fl_Step_18 (Or.inl ⟨_, rfl⟩) (dk_Step_run 29 rfl) (c1.up (hs3.trans (hs6.trans (hs8.trans (hs17.trans hs20))))) ?_
  refine g_iconst (dk_Step_run 30 rfl) (by decide) ?_
  obtain ⟨c21, h⟩ := p_gdE h
  refine g_putI fl_Step_57 (Or.inl rfl) (dk_Step_run 31 rfl) c21 ?_
  refine p_ltS (P := fun q => p_Go K l m_Step_run 64 [(3, p_i x11), (0, p_r v0), (1, p_r v1), (2, p_r v2)] [] q _) (p_xZ _ _ _ _) ?_ h
  intro s22 hs23 h
  refine g_iconst (dk_Step_run 32 rfl) (by decide) ?_
  refine g_istore [(4, p_i 1), (3, p_i x11), (0, p_r v0), (1, p_r v1), (2, p_r v2)] (dk_Step_run 33 rfl) (by decide) rfl ?_
  refine g_sub [(0, p_r v0), (3, p_i x11), (4, p_i 1)] [2, 1, 0] rfl ?_
  exact tO_Step_run_67 K l 3000 v0 x11 1 s22 _ h
def m_SW_step : p_Me := (⟨"SortWorks", "step", "()I"⟩, prog_1_method_29_code, 1, (some .int), 7, 170)
theorem mt_SW_step : p_Mt m_SW_step 0 := ⟨p_mem (p_tb4 (List.mem_of_getElem? (i := 126) rfl)) rfl, tw_1_1, by decide +kernel, by decide +kernel, by decide +kernel⟩
def dt_SW_step : List (Nat × Instr × Nat) := [(0, .aload_n 0, 1), (1, .getfield 47, 3), (4, .sipush 5000, 3), (7, .if_icmp .lt 10, 3), (10, .aload_n 0, 1), (11, .bipush (-4), 2), (13, .invokevirtual 61, 3), (16, .ireturn, 1), (17, .aload_n 0, 1), (18, .dup, 1), (19, .getfield 47, 3), (22, .aload_n 0, 1), (23, .getfield 32, 3), (26, .aload_n 0, 1), (27, .getfield 18, 3), (30, .aload_n 0, 1), (31, .getfield 25, 3), (34, .invokevirtual 270, 3), (37, .iadd, 1), (38, .putfield 47, 3), (41, .aload_n 0, 1), (42, .aload_n 0, 1), (43, .getfield 18, 3), (46, .getfield 77, 3), (49, .getfield 274, 3), (52, .invokevirtual 57, 3), (55, .ireturn, 1)]
theorem dk_SW_step (i : Nat) {pc : Nat} {ins : Instr} {len : Nat} (h : dt_SW_step[i]? = some (pc, ins, len)) : decode m_SW_step.2.1 pc = .ok (ins, len) := p_dk (b := m_SW_step.2.1) (t := dt_SW_step) (by decide +kernel) i h
def F_SW_step (v0 : Nat) (s0 : p_Hp) : Option (Int × p_Hp) :=
  p_gd (p_is s0 v0 10) <|
  if (p_Z s0 v0 7) < 5000 then
    p_gd (p_is s0 (p_R s0 v0 3) 8) <|
    p_bd (F_Step_run (p_R s0 v0 3) (p_R s0 v0 1) (p_R s0 v0 2) s0) fun r8 s4 =>
    p_bi (p_wZ s4 v0 7 (p_w ((p_Z s0 v0 7) + r8))) fun s9 =>
    p_gd (p_is s9 (p_R s9 v0 1) 9) <|
    p_gd (p_is s9 (p_R s9 (p_R s9 v0 1) 1) 7) <|
    p_bd (F_SW_done v0 (p_Z s9 (p_R s9 (p_R s9 v0 1) 1) 0) s9) fun r17 s13 =>
    some (r17, s13)
  else
    p_bd (F_SW_refuse v0 (-4) s0) fun r22 s18 =>
    some (r22, s18)
set_option maxRecDepth 100000 in
set_option maxHeartbeats 4000000 in
theorem tF_SW_step (K : p_K) (l : Launch) (v0 : Nat) (s0 : p_Hp) (r : (Int × p_Hp)) (h : F_SW_step v0 s0 = some r) : p_Ct K l m_SW_step [p_r v0] s0 (some (p_i r.1), r.2) := by
  refine p_Ct.of (by decide) (Nat.le_of_ble_eq_true rfl) ?_
  unfold F_SW_step at h
  show p_Go K l m_SW_step 0 [(0, p_r v0)] [] s0 _
  refine g_aload_n (i := 0) (j := 0) (dk_SW_step 0 rfl) rfl rfl ?_
  obtain ⟨c1, h⟩ := p_gdE h
  refine g_getI fl_SW_47 (Or.inl rfl) (dk_SW_step 1 rfl) c1 ?_
  refine g_sipush (dk_SW_step 2 rfl) rfl (by decide) ?_
  refine g_icmp_lt 17 (dk_SW_step 3 rfl) (by decide) (fun b2 => ?_) (fun b2 => ?_)
  · have h := p_ifT b2 h
    refine g_aload_n (i := 0) (j := 0) (dk_SW_step 8 rfl) rfl rfl ?_
    refine g_dup (dk_SW_step 9 rfl) rfl ?_
    refine g_getI fl_SW_47 (Or.inl rfl) (dk_SW_step 10 rfl) c1 ?_
    refine g_aload_n (i := 0) (j := 0) (dk_SW_step 11 rfl) rfl rfl ?_
    refine g_getR fl_SW_32 (Or.inl ⟨_, rfl⟩) (dk_SW_step 12 rfl) c1 ?_
    refine g_aload_n (i := 0) (j := 0) (dk_SW_step 13 rfl) rfl rfl ?_
    refine g_getR fl_SW_18 (Or.inl ⟨_, rfl⟩) (dk_SW_step 14 rfl) c1 ?_
    refine g_aload_n (i := 0) (j := 0) (dk_SW_step 15 rfl) rfl rfl ?_
    refine g_getR fl_SW_25 (Or.inl ⟨_, rfl⟩) (dk_SW_step 16 rfl) c1 ?_
    obtain ⟨c3, h⟩ := p_gdE h
    obtain ⟨r8, s4, q5, h⟩ := p_bdE h
    have t6 := tF_Step_run K l (p_R s0 v0 3) (p_R s0 v0 1) (p_R s0 v0 2) s0 _ q5
    refine g_callV (a := (p_R s0 v0 3)) (ci := 8) (q0 := (RX8, TX8, 5)) (As := [p_r (p_R s0 v0 1), p_r (p_R s0 v0 2)]) (rest := [p_i (p_Z s0 v0 7), p_r v0]) [p_i r8, p_i (p_Z s0 v0 7), p_r v0] mt_Step_run rfl rfl tw_4_128 tw_4_129 tw_4_127 ⟨Nat.le_of_ble_eq_true rfl, Nat.le_of_ble_eq_true rfl⟩ rfl (Nat.le_of_ble_eq_true rfl) (dk_SW_step 17 rfl) rfl c3 rfl t6 ?_
    have hs7 : p_x s0 s4 := t6.1
    show p_Go K l m_SW_step 37 [(0, p_r v0)] [p_i r8, p_i (p_Z s0 v0 7), p_r v0] s4 _
    refine g_iadd (dk_SW_step 18 rfl) ?_
    refine g_putI fl_SW_47 (Or.inl rfl) (dk_SW_step 19 rfl) (c1.up hs7) ?_
    refine p_ltS (P := fun q => p_Go K l m_SW_step 41 [(0, p_r v0)] [] q _) (p_xZ _ _ _ _) ?_ h
    intro s9 hs10 h
    refine g_aload_n (i := 0) (j := 0) (dk_SW_step 20 rfl) rfl rfl ?_
    refine g_aload_n (i := 0) (j := 0) (dk_SW_step 21 rfl) rfl rfl ?_
    refine g_getR fl_SW_18 (Or.inl ⟨_, rfl⟩) (dk_SW_step 22 rfl) (c1.up (hs7.trans hs10)) ?_
    obtain ⟨c11, h⟩ := p_gdE h
    refine g_getR fl_SW_77 (Or.inl ⟨_, rfl⟩) (dk_SW_step 23 rfl) c11 ?_
    obtain ⟨c12, h⟩ := p_gdE h
    refine g_getI fl_SW_274 (Or.inl rfl) (dk_SW_step 24 rfl) c12 ?_
    obtain ⟨r17, s13, q14, h⟩ := p_bdE h
    have t15 := tF_SW_done K l v0 (p_Z s9 (p_R s9 (p_R s9 v0 1) 1) 0) s9 _ q14
    refine g_callV (a := v0) (ci := 10) (q0 := (RX10, TX10, 9)) (As := [p_i (p_Z s9 (p_R s9 (p_R s9 v0 1) 1) 0)]) (rest := []) [p_i r17] mt_SW_done rfl rfl tw_3_56 ts_1 tw_3_54 ⟨Nat.le_of_ble_eq_true rfl, Nat.le_of_ble_eq_true rfl⟩ rfl (Nat.le_of_ble_eq_true rfl) (dk_SW_step 25 rfl) rfl (c1.up (hs7.trans hs10)) rfl t15 ?_
    have hs16 : p_x s9 s13 := t15.1
    show p_Go K l m_SW_step 55 [(0, p_r v0)] [p_i r17] s13 _
    cases h
    exact g_ret rfl rfl (dk_SW_step 26 rfl) (fun os => ⟨_, rfl, p_okh os⟩)
  · have h := p_ifF b2 h
    refine g_aload_n (i := 0) (j := 0) (dk_SW_step 4 rfl) rfl rfl ?_
    refine g_bipush (dk_SW_step 5 rfl) rfl (by decide) ?_
    obtain ⟨r22, s18, q19, h⟩ := p_bdE h
    have t20 := tF_SW_refuse K l v0 (-4) s0 _ q19
    refine g_callV (a := v0) (ci := 10) (q0 := (RX10, TX10, 9)) (As := [p_i (-4)]) (rest := []) [p_i r22] mt_SW_refuse rfl rfl tw_3_52 ts_0 tw_3_50 ⟨Nat.le_of_ble_eq_true rfl, Nat.le_of_ble_eq_true rfl⟩ rfl (Nat.le_of_ble_eq_true rfl) (dk_SW_step 6 rfl) rfl c1 rfl t20 ?_
    have hs21 : p_x s0 s18 := t20.1
    show p_Go K l m_SW_step 16 [(0, p_r v0)] [p_i r22] s18 _
    cases h
    exact g_ret rfl rfl (dk_SW_step 7 rfl) (fun os => ⟨_, rfl, p_okh os⟩)
def m_Parcel_raiseLastByte : p_Me := (⟨"SortWorks$Parcel", "raiseLastByte", "()V"⟩, prog_6_method_7_code, 2, none, 0, 0)
theorem mt_Parcel_raiseLastByte : p_Mt m_Parcel_raiseLastByte 0 := ⟨p_mem (p_tb5 (List.mem_of_getElem? (i := 94) rfl)) rfl, tw_1_6, by decide +kernel, by decide +kernel, by decide +kernel⟩
def dt_Parcel_raiseLastByte : List (Nat × Instr × Nat) := [(0, .aload_n 0, 1), (1, .getfield 53, 3), (4, .iconst 1, 1), (5, .isub, 1), (6, .istore_n 1, 1), (7, .iload_n 1, 1), (8, .ifCond .lt 21, 3), (11, .aload_n 0, 1), (12, .getfield 15, 3), (15, .iload_n 1, 1), (16, .aload_n 0, 1), (17, .getfield 15, 3), (20, .iload_n 1, 1), (21, .iaload, 1), (22, .iconst 1, 1), (23, .iadd, 1), (24, .sipush 255, 3), (27, .iand, 1), (28, .iastore, 1), (29, .return_, 1)]
theorem dk_Parcel_raiseLastByte (i : Nat) {pc : Nat} {ins : Instr} {len : Nat} (h : dt_Parcel_raiseLastByte[i]? = some (pc, ins, len)) : decode m_Parcel_raiseLastByte.2.1 pc = .ok (ins, len) := p_dk (b := m_Parcel_raiseLastByte.2.1) (t := dt_Parcel_raiseLastByte) (by decide +kernel) i h
def F_Parcel_raiseLastByte (v0 : Nat) (s0 : p_Hp) : Option p_Hp :=
  p_gd (p_is s0 v0 4) <|
  p_bi ((p_w ((p_Z s0 v0 11) - 1))) fun x2 =>
  if x2 < 0 then
    some s0
  else
    p_gd (p_is s0 (p_R s0 v0 12) 100) <|
    p_gd (0 ≤ x2 ∧ x2 < (p_L s0 (p_R s0 v0 12) : Int)) <|
    p_gd (0 ≤ x2 ∧ x2 < (p_L s0 (p_R s0 v0 12) : Int)) <|
    p_bi (p_wZ s0 (p_R s0 v0 12) (x2).toNat (p_and (p_w ((p_Z s0 (p_R s0 v0 12) (x2).toNat) + 1)) 255)) fun s7 =>
    some s7
set_option maxRecDepth 100000 in
set_option maxHeartbeats 4000000 in
theorem tF_Parcel_raiseLastByte (K : p_K) (l : Launch) (v0 : Nat) (s0 : p_Hp) (r : p_Hp) (h : F_Parcel_raiseLastByte v0 s0 = some r) : p_Ct K l m_Parcel_raiseLastByte [p_r v0] s0 (none, r) := by
  refine p_Ct.of (by decide) (Nat.le_of_ble_eq_true rfl) ?_
  unfold F_Parcel_raiseLastByte at h
  show p_Go K l m_Parcel_raiseLastByte 0 [(0, p_r v0)] [] s0 _
  refine g_aload_n (i := 0) (j := 0) (dk_Parcel_raiseLastByte 0 rfl) rfl rfl ?_
  obtain ⟨c1, h⟩ := p_gdE h
  refine g_getI fl_Parcel_53 (Or.inl rfl) (dk_Parcel_raiseLastByte 1 rfl) c1 ?_
  refine g_iconst (dk_Parcel_raiseLastByte 2 rfl) (by decide) ?_
  refine g_isub (dk_Parcel_raiseLastByte 3 rfl) ?_
  refine g_istore_n (i := 1) [(1, p_i (p_w ((p_Z s0 v0 11) - 1))), (0, p_r v0)] (dk_Parcel_raiseLastByte 4 rfl) rfl (by decide) rfl ?_
  refine p_ltG (P := fun q => p_Go K l m_Parcel_raiseLastByte 7 [(1, p_i q), (0, p_r v0)] [] s0 _) ?_ h
  intro x2 h
  refine g_iload_n (i := 1) (j := 0) (dk_Parcel_raiseLastByte 5 rfl) rfl rfl ?_
  refine g_if_lt 29 (dk_Parcel_raiseLastByte 6 rfl) (by decide) (fun b3 => ?_) (fun b3 => ?_)
  · have h := p_ifT b3 h
    cases h
    exact g_ret rfl rfl (dk_Parcel_raiseLastByte 19 rfl) (fun _ => rfl)
  · have h := p_ifF b3 h
    refine g_aload_n (i := 0) (j := 1) (dk_Parcel_raiseLastByte 7 rfl) rfl rfl ?_
    refine g_getR fl_Parcel_15 (Or.inr ⟨_, rfl⟩) (dk_Parcel_raiseLastByte 8 rfl) c1 ?_
    refine g_iload_n (i := 1) (j := 0) (dk_Parcel_raiseLastByte 9 rfl) rfl rfl ?_
    refine g_aload_n (i := 0) (j := 1) (dk_Parcel_raiseLastByte 10 rfl) rfl rfl ?_
    refine g_getR fl_Parcel_15 (Or.inr ⟨_, rfl⟩) (dk_Parcel_raiseLastByte 11 rfl) c1 ?_
    refine g_iload_n (i := 1) (j := 0) (dk_Parcel_raiseLastByte 12 rfl) rfl rfl ?_
    obtain ⟨c4, h⟩ := p_gdE h
    obtain ⟨c5, h⟩ := p_gdE h
    refine g_iaload (dk_Parcel_raiseLastByte 13 rfl) c4 c5.1 c5.2 ?_
    refine g_iconst (dk_Parcel_raiseLastByte 14 rfl) (by decide) ?_
    refine g_iadd (dk_Parcel_raiseLastByte 15 rfl) ?_
    refine g_sipush (dk_Parcel_raiseLastByte 16 rfl) rfl (by decide) ?_
    refine g_iand (dk_Parcel_raiseLastByte 17 rfl) ?_
    obtain ⟨c6, h⟩ := p_gdE h
    refine g_iastore (dk_Parcel_raiseLastByte 18 rfl) c4 c6.1 c6.2 ?_
    refine p_ltS (P := fun q => p_Go K l m_Parcel_raiseLastByte 29 [(1, p_i x2), (0, p_r v0)] [] q _) (p_xZ _ _ _ _) ?_ h
    intro s7 hs8 h
    cases h
    exact g_ret rfl rfl (dk_Parcel_raiseLastByte 19 rfl) (fun _ => rfl)
def m_Parcel_spoil : p_Me := (⟨"SortWorks$Parcel", "spoil", "(I)V"⟩, prog_6_method_6_code, 2, none, 1, 21)
theorem mt_Parcel_spoil : p_Mt m_Parcel_spoil 1 := ⟨p_mem (p_tb5 (List.mem_of_getElem? (i := 90) rfl)) rfl, tw_1_6, by decide +kernel, by decide +kernel, by decide +kernel⟩
def dt_Parcel_spoil : List (Nat × Instr × Nat) := [(0, .iload_n 1, 1), (1, .bipush 8, 2), (3, .irem, 1), (4, .tableswitch 57 0 2 #[28, 36, 50], 28), (32, .aload_n 0, 1), (33, .iconst (-1), 1), (34, .putfield 53, 3), (37, .goto 24, 3), (40, .aload_n 0, 1), (41, .iload_n 1, 1), (42, .bipush 8, 2), (44, .idiv, 1), (45, .bipush 6, 2), (47, .irem, 1), (48, .putfield 53, 3), (51, .goto 10, 3), (54, .aload_n 0, 1), (55, .invokevirtual 63, 3), (58, .goto 3, 3), (61, .return_, 1)]
theorem dk_Parcel_spoil (i : Nat) {pc : Nat} {ins : Instr} {len : Nat} (h : dt_Parcel_spoil[i]? = some (pc, ins, len)) : decode m_Parcel_spoil.2.1 pc = .ok (ins, len) := p_dk (b := m_Parcel_spoil.2.1) (t := dt_Parcel_spoil) (by decide +kernel) i h
def F_Parcel_spoil (v0 : Nat) (v1 : Int) (s0 : p_Hp) : Option p_Hp :=
  if (p_rem v1 8) = 0 then
    p_gd (p_is s0 v0 4) <|
    p_bi (p_wZ s0 v0 11 (-1)) fun s3 =>
    some s3
  else if (p_rem v1 8) = 1 then
    p_gd (p_is s0 v0 4) <|
    p_bi (p_wZ s0 v0 11 (p_rem (p_div v1 8) 6)) fun s7 =>
    some s7
  else if (p_rem v1 8) = 2 then
    p_gd (p_is s0 v0 4) <|
    p_bv (F_Parcel_raiseLastByte v0 s0) fun s11 =>
    some s11
  else 
  some s0
set_option maxRecDepth 100000 in
set_option maxHeartbeats 4000000 in
theorem tF_Parcel_spoil (K : p_K) (l : Launch) (v0 : Nat) (v1 : Int) (s0 : p_Hp) (r : p_Hp) (h : F_Parcel_spoil v0 v1 s0 = some r) : p_Ct K l m_Parcel_spoil [p_r v0, p_i v1] s0 (none, r) := by
  refine p_Ct.of (by decide) (Nat.le_of_ble_eq_true rfl) ?_
  unfold F_Parcel_spoil at h
  show p_Go K l m_Parcel_spoil 0 [(0, p_r v0), (1, p_i v1)] [] s0 _
  refine g_iload_n (i := 1) (j := 1) (dk_Parcel_spoil 0 rfl) rfl rfl ?_
  refine g_bipush (dk_Parcel_spoil 1 rfl) rfl (by decide) ?_
  refine g_irem (dk_Parcel_spoil 2 rfl) (by decide) ?_
  rcases p_iteE h with ⟨b1, h⟩ | ⟨b1, h⟩
  · refine g_tableIn 32 (dk_Parcel_spoil 3 rfl) (by omega) (by omega) (by rw [b1]; rfl) (by decide) ?_
    refine g_aload_n (i := 0) (j := 0) (dk_Parcel_spoil 4 rfl) rfl rfl ?_
    refine g_iconst (dk_Parcel_spoil 5 rfl) (by decide) ?_
    obtain ⟨c2, h⟩ := p_gdE h
    refine g_putI fl_Parcel_53 (Or.inl rfl) (dk_Parcel_spoil 6 rfl) c2 ?_
    refine p_ltS (P := fun q => p_Go K l m_Parcel_spoil 37 [(0, p_r v0), (1, p_i v1)] [] q _) (p_xZ _ _ _ _) ?_ h
    intro s3 hs4 h
    refine g_goto 61 (dk_Parcel_spoil 7 rfl) (by decide) ?_
    cases h
    exact g_ret rfl rfl (dk_Parcel_spoil 19 rfl) (fun _ => rfl)
  rcases p_iteE h with ⟨b5, h⟩ | ⟨b5, h⟩
  · refine g_tableIn 40 (dk_Parcel_spoil 3 rfl) (by omega) (by omega) (by rw [b5]; rfl) (by decide) ?_
    refine g_aload_n (i := 0) (j := 0) (dk_Parcel_spoil 8 rfl) rfl rfl ?_
    refine g_iload_n (i := 1) (j := 1) (dk_Parcel_spoil 9 rfl) rfl rfl ?_
    refine g_bipush (dk_Parcel_spoil 10 rfl) rfl (by decide) ?_
    refine g_idiv (dk_Parcel_spoil 11 rfl) (by decide) ?_
    refine g_bipush (dk_Parcel_spoil 12 rfl) rfl (by decide) ?_
    refine g_irem (dk_Parcel_spoil 13 rfl) (by decide) ?_
    obtain ⟨c6, h⟩ := p_gdE h
    refine g_putI fl_Parcel_53 (Or.inl rfl) (dk_Parcel_spoil 14 rfl) c6 ?_
    refine p_ltS (P := fun q => p_Go K l m_Parcel_spoil 51 [(0, p_r v0), (1, p_i v1)] [] q _) (p_xZ _ _ _ _) ?_ h
    intro s7 hs8 h
    refine g_goto 61 (dk_Parcel_spoil 15 rfl) (by decide) ?_
    cases h
    exact g_ret rfl rfl (dk_Parcel_spoil 19 rfl) (fun _ => rfl)
  rcases p_iteE h with ⟨b9, h⟩ | ⟨b9, h⟩
  · refine g_tableIn 54 (dk_Parcel_spoil 3 rfl) (by omega) (by omega) (by rw [b9]; rfl) (by decide) ?_
    refine g_aload_n (i := 0) (j := 0) (dk_Parcel_spoil 16 rfl) rfl rfl ?_
    obtain ⟨c10, h⟩ := p_gdE h
    obtain ⟨s11, q12, h⟩ := p_bvE h
    have t13 := tF_Parcel_raiseLastByte K l v0 s0 _ q12
    refine g_callV (a := v0) (ci := 4) (q0 := (RX4, TX4, 13)) (As := []) (rest := []) [] mt_Parcel_raiseLastByte rfl rfl tw_5_93 ts_40 tw_5_91 ⟨Nat.le_of_ble_eq_true rfl, Nat.le_of_ble_eq_true rfl⟩ rfl (Nat.le_of_ble_eq_true rfl) (dk_Parcel_spoil 17 rfl) rfl c10 rfl t13 ?_
    have hs14 : p_x s0 s11 := t13.1
    show p_Go K l m_Parcel_spoil 58 [(0, p_r v0), (1, p_i v1)] [] s11 _
    refine g_goto 61 (dk_Parcel_spoil 18 rfl) (by decide) ?_
    cases h
    exact g_ret rfl rfl (dk_Parcel_spoil 19 rfl) (fun _ => rfl)
  refine g_tableOut 61 (dk_Parcel_spoil 3 rfl) (by omega) (by decide) ?_
  cases h
  exact g_ret rfl rfl (dk_Parcel_spoil 19 rfl) (fun _ => rfl)
def m_SW_comeByNight : p_Me := (⟨"SortWorks", "comeByNight", "(III)I"⟩, prog_1_method_32_code, 6, (some .int), 3, 62)
theorem mt_SW_comeByNight : p_Mt m_SW_comeByNight 3 := ⟨p_mem (p_tb5 (List.mem_of_getElem? (i := 86) rfl)) rfl, tw_1_1, by decide +kernel, by decide +kernel, by decide +kernel⟩
def dt_SW_comeByNight : List (Nat × Instr × Nat) := [(0, .aload_n 0, 1), (1, .getfield 18, 3), (4, .iconst 0, 1), (5, .invokevirtual 98, 3), (8, .astore 4, 2), (10, .aload 4, 2), (12, .ifnull 27, 3), (15, .aload 4, 2), (17, .invokevirtual 126, 3), (20, .ifCond .eq 19, 3), (23, .aload 4, 2), (25, .invokevirtual 174, 3), (28, .ifCond .ne 11, 3), (31, .aload 4, 2), (33, .invokevirtual 177, 3), (36, .ifCond .ne 5, 3), (39, .iconst 0, 1), (40, .ireturn, 1), (41, .aload_n 0, 1), (42, .invokevirtual 180, 3), (45, .astore 5, 2), (47, .aload 5, 2), (49, .ifnonnull 5, 3), (52, .iconst 0, 1), (53, .ireturn, 1), (54, .aload_n 0, 1), (55, .getfield 18, 3), (58, .getfield 77, 3), (61, .aload 5, 2), (63, .iconst 0, 1), (64, .iconst 1, 1), (65, .iload_n 1, 1), (66, .sipush 200, 3), (69, .irem, 1), (70, .iadd, 1), (71, .iload_n 1, 1), (72, .sipush 200, 3), (75, .idiv, 1), (76, .bipush 10, 2), (78, .irem, 1), (79, .invokevirtual 184, 3), (82, .aload 5, 2), (84, .iload_n 2, 1), (85, .bipush 100, 2), (87, .idiv, 1), (88, .iconst 2, 1), (89, .irem, 1), (90, .iload_n 2, 1), (91, .bipush 100, 2), (93, .irem, 1), (94, .invokevirtual 210, 3), (97, .aload 5, 2), (99, .iload_n 3, 1), (100, .invokevirtual 285, 3), (103, .iconst 1, 1), (104, .ireturn, 1)]
theorem dk_SW_comeByNight (i : Nat) {pc : Nat} {ins : Instr} {len : Nat} (h : dt_SW_comeByNight[i]? = some (pc, ins, len)) : decode m_SW_comeByNight.2.1 pc = .ok (ins, len) := p_dk (b := m_SW_comeByNight.2.1) (t := dt_SW_comeByNight) (by decide +kernel) i h
def F_SW_comeByNight (v0 : Nat) (v1 : Int) (v2 : Int) (v3 : Int) (s0 : p_Hp) : Option (Int × p_Hp) :=
  p_gd (p_is s0 v0 10) <|
  p_gd (p_is s0 (p_R s0 v0 1) 9) <|
  p_bd (F_Works_gearOf (p_R s0 v0 1) 0 s0) fun r7 s3 =>
  if r7 = 0 then
    some (0, s3)
  else
    p_gd (p_is s3 r7 0) <|
    p_bd (F_Gear_isTaker r7 s3) fun r14 s10 =>
    if r14 = 0 then
      some (0, s10)
    else
      p_bd (F_Gear_isChute r7 s10) fun r20 s16 =>
      if r20 ≠ 0 then
        some (0, s16)
      else
        p_bd (F_Gear_isFreeAtStart r7 s16) fun r26 s22 =>
        if r26 ≠ 0 then
          p_bd (F_SW_newParcel v0 s22) fun r32 s28 =>
          if r32 ≠ 0 then
            p_gd (p_is s28 (p_R s28 v0 1) 9) <|
            p_gd (p_is s28 (p_R s28 (p_R s28 v0 1) 1) 7) <|
            p_bv (F_State_bringIn (p_R s28 (p_R s28 v0 1) 1) r32 0 (p_w (1 + (p_rem v1 200))) (p_rem (p_div v1 200) 10) s28) fun s36 =>
            p_gd (p_is s36 r32 4) <|
            p_bv (F_Parcel_write r32 (p_rem (p_div v2 100) 2) (p_rem v2 100) s36) fun s41 =>
            p_bv (F_Parcel_spoil r32 v3 s41) fun s45 =>
            some (1, s45)
          else
            some (0, s28)
        else
          some (0, s22)
set_option maxRecDepth 100000 in
set_option maxHeartbeats 4000000 in
theorem tF_SW_comeByNight (K : p_K) (l : Launch) (v0 : Nat) (v1 : Int) (v2 : Int) (v3 : Int) (s0 : p_Hp) (r : (Int × p_Hp)) (h : F_SW_comeByNight v0 v1 v2 v3 s0 = some r) : p_Ct K l m_SW_comeByNight [p_r v0, p_i v1, p_i v2, p_i v3] s0 (some (p_i r.1), r.2) := by
  refine p_Ct.of (by decide) (Nat.le_of_ble_eq_true rfl) ?_
  unfold F_SW_comeByNight at h
  show p_Go K l m_SW_comeByNight 0 [(0, p_r v0), (1, p_i v1), (2, p_i v2), (3, p_i v3)] [] s0 _
  refine g_aload_n (i := 0) (j := 0) (dk_SW_comeByNight 0 rfl) rfl rfl ?_
  obtain ⟨c1, h⟩ := p_gdE h
  refine g_getR fl_SW_18 (Or.inl ⟨_, rfl⟩) (dk_SW_comeByNight 1 rfl) c1 ?_
  refine g_iconst (dk_SW_comeByNight 2 rfl) (by decide) ?_
  obtain ⟨c2, h⟩ := p_gdE h
  obtain ⟨r7, s3, q4, h⟩ := p_bdE h
  have t5 := tF_Works_gearOf K l (p_R s0 v0 1) 0 s0 _ q4
  refine g_callV (a := (p_R s0 v0 1)) (ci := 9) (q0 := (RX9, TX9, 16)) (As := [p_i 0]) (rest := []) [p_r r7] mt_Works_gearOf rfl rfl tw_3_87 tw_3_88 tw_3_86 ⟨Nat.le_of_ble_eq_true rfl, Nat.le_of_ble_eq_true rfl⟩ rfl (Nat.le_of_ble_eq_true rfl) (dk_SW_comeByNight 3 rfl) rfl c2 rfl t5 ?_
  have hs6 : p_x s0 s3 := t5.1
  show p_Go K l m_SW_comeByNight 8 [(0, p_r v0), (1, p_i v1), (2, p_i v2), (3, p_i v3)] [p_r r7] s3 _
  refine g_astore [(4, p_r r7), (0, p_r v0), (1, p_i v1), (2, p_i v2), (3, p_i v3)] (dk_SW_comeByNight 4 rfl) (by decide) rfl ?_
  refine g_aload (j := 0) (dk_SW_comeByNight 5 rfl) rfl ?_
  refine g_ifnull 39 (dk_SW_comeByNight 6 rfl) (by decide) (fun b8 => ?_) (fun b8 => ?_)
  · have h := p_ifT b8 h
    refine g_iconst (dk_SW_comeByNight 16 rfl) (by decide) ?_
    cases h
    exact g_ret rfl rfl (dk_SW_comeByNight 17 rfl) (fun os => ⟨_, rfl, p_okh os⟩)
  · have h := p_ifF b8 h
    refine g_aload (j := 0) (dk_SW_comeByNight 7 rfl) rfl ?_
    obtain ⟨c9, h⟩ := p_gdE h
    obtain ⟨r14, s10, q11, h⟩ := p_bdE h
    have t12 := tF_Gear_isTaker K l r7 s3 _ q11
    refine g_callV (a := r7) (ci := 0) (q0 := (RX0, TX0, 19)) (As := []) (rest := []) [p_i r14] mt_Gear_isTaker rfl rfl tw_3_125 tw_3_126 tw_3_124 ⟨Nat.le_of_ble_eq_true rfl, Nat.le_of_ble_eq_true rfl⟩ rfl (Nat.le_of_ble_eq_true rfl) (dk_SW_comeByNight 8 rfl) rfl c9 rfl t12 ?_
    have hs13 : p_x s3 s10 := t12.1
    show p_Go K l m_SW_comeByNight 20 [(4, p_r r7), (0, p_r v0), (1, p_i v1), (2, p_i v2), (3, p_i v3)] [p_i r14] s10 _
    refine g_if_eq 39 (dk_SW_comeByNight 9 rfl) (by decide) (fun b15 => ?_) (fun b15 => ?_)
    · have h := p_ifT b15 h
      refine g_iconst (dk_SW_comeByNight 16 rfl) (by decide) ?_
      cases h
      exact g_ret rfl rfl (dk_SW_comeByNight 17 rfl) (fun os => ⟨_, rfl, p_okh os⟩)
    · have h := p_ifF b15 h
      refine g_aload (j := 0) (dk_SW_comeByNight 10 rfl) rfl ?_
      obtain ⟨r20, s16, q17, h⟩ := p_bdE h
      have t18 := tF_Gear_isChute K l r7 s10 _ q17
      refine g_callV (a := r7) (ci := 0) (q0 := (RX0, TX0, 19)) (As := []) (rest := []) [p_i r20] mt_Gear_isChute rfl rfl tw_3_227 tw_3_228 tw_3_226 ⟨Nat.le_of_ble_eq_true rfl, Nat.le_of_ble_eq_true rfl⟩ rfl (Nat.le_of_ble_eq_true rfl) (dk_SW_comeByNight 11 rfl) rfl (c9.up hs13) rfl t18 ?_
      have hs19 : p_x s10 s16 := t18.1
      show p_Go K l m_SW_comeByNight 28 [(4, p_r r7), (0, p_r v0), (1, p_i v1), (2, p_i v2), (3, p_i v3)] [p_i r20] s16 _
      refine g_if_ne 39 (dk_SW_comeByNight 12 rfl) (by decide) (fun b21 => ?_) (fun b21 => ?_)
      · have h := p_ifT b21 h
        refine g_iconst (dk_SW_comeByNight 16 rfl) (by decide) ?_
        cases h
        exact g_ret rfl rfl (dk_SW_comeByNight 17 rfl) (fun os => ⟨_, rfl, p_okh os⟩)
      · have h := p_ifF b21 h
        refine g_aload (j := 0) (dk_SW_comeByNight 13 rfl) rfl ?_
        obtain ⟨r26, s22, q23, h⟩ := p_bdE h
        have t24 := tF_Gear_isFreeAtStart K l r7 s16 _ q23
        refine g_callV (a := r7) (ci := 0) (q0 := (RX0, TX0, 19)) (As := []) (rest := []) [p_i r26] mt_Gear_isFreeAtStart rfl rfl tw_3_231 tw_3_232 tw_3_230 ⟨Nat.le_of_ble_eq_true rfl, Nat.le_of_ble_eq_true rfl⟩ rfl (Nat.le_of_ble_eq_true rfl) (dk_SW_comeByNight 14 rfl) rfl (c9.up (hs13.trans hs19)) rfl t24 ?_
        have hs25 : p_x s16 s22 := t24.1
        show p_Go K l m_SW_comeByNight 36 [(4, p_r r7), (0, p_r v0), (1, p_i v1), (2, p_i v2), (3, p_i v3)] [p_i r26] s22 _
        refine g_if_ne 41 (dk_SW_comeByNight 15 rfl) (by decide) (fun b27 => ?_) (fun b27 => ?_)
        · have h := p_ifT b27 h
          refine g_aload_n (i := 0) (j := 1) (dk_SW_comeByNight 18 rfl) rfl rfl ?_
          obtain ⟨r32, s28, q29, h⟩ := p_bdE h
          have t30 := tF_SW_newParcel K l v0 s22 _ q29
          refine g_callV (a := v0) (ci := 10) (q0 := (RX10, TX10, 9)) (As := []) (rest := []) [p_r r32] mt_SW_newParcel rfl rfl tw_3_236 ts_10 tw_3_234 ⟨Nat.le_of_ble_eq_true rfl, Nat.le_of_ble_eq_true rfl⟩ rfl (Nat.le_of_ble_eq_true rfl) (dk_SW_comeByNight 19 rfl) rfl (c1.up (hs6.trans (hs13.trans (hs19.trans hs25)))) rfl t30 ?_
          have hs31 : p_x s22 s28 := t30.1
          show p_Go K l m_SW_comeByNight 45 [(4, p_r r7), (0, p_r v0), (1, p_i v1), (2, p_i v2), (3, p_i v3)] [p_r r32] s28 _
          refine g_astore [(5, p_r r32), (4, p_r r7), (0, p_r v0), (1, p_i v1), (2, p_i v2), (3, p_i v3)] (dk_SW_comeByNight 20 rfl) (by decide) rfl ?_
          refine g_aload (j := 0) (dk_SW_comeByNight 21 rfl) rfl ?_
          refine g_ifnonnull 54 (dk_SW_comeByNight 22 rfl) (by decide) (fun b33 => ?_) (fun b33 => ?_)
          · have h := p_ifT b33 h
            refine g_aload_n (i := 0) (j := 2) (dk_SW_comeByNight 25 rfl) rfl rfl ?_
            refine g_getR fl_SW_18 (Or.inl ⟨_, rfl⟩) (dk_SW_comeByNight 26 rfl) (c1.up (hs6.trans (hs13.trans (hs19.trans (hs25.trans hs31))))) ?_
            obtain ⟨c34, h⟩ := p_gdE h
            refine g_getR fl_SW_77 (Or.inl ⟨_, rfl⟩) (dk_SW_comeByNight 27 rfl) c34 ?_
            refine g_aload (j := 0) (dk_SW_comeByNight 28 rfl) rfl ?_
            refine g_iconst (dk_SW_comeByNight 29 rfl) (by decide) ?_
            refine g_iconst (dk_SW_comeByNight 30 rfl) (by decide) ?_
            refine g_iload_n (i := 1) (j := 3) (dk_SW_comeByNight 31 rfl) rfl rfl ?_
            refine g_sipush (dk_SW_comeByNight 32 rfl) rfl (by decide) ?_
            refine g_irem (dk_SW_comeByNight 33 rfl) (by decide) ?_
            refine g_iadd (dk_SW_comeByNight 34 rfl) ?_
            refine g_iload_n (i := 1) (j := 3) (dk_SW_comeByNight 35 rfl) rfl rfl ?_
            refine g_sipush (dk_SW_comeByNight 36 rfl) rfl (by decide) ?_
            refine g_idiv (dk_SW_comeByNight 37 rfl) (by decide) ?_
            refine g_bipush (dk_SW_comeByNight 38 rfl) rfl (by decide) ?_
            refine g_irem (dk_SW_comeByNight 39 rfl) (by decide) ?_
            obtain ⟨c35, h⟩ := p_gdE h
            obtain ⟨s36, q37, h⟩ := p_bvE h
            have t38 := tF_State_bringIn K l (p_R s28 (p_R s28 v0 1) 1) r32 0 (p_w (1 + (p_rem v1 200))) (p_rem (p_div v1 200) 10) s28 _ q37
            refine g_callV (a := (p_R s28 (p_R s28 v0 1) 1)) (ci := 7) (q0 := (RX7, TX7, 9)) (As := [p_r r32, p_i 0, p_i (p_w (1 + (p_rem v1 200))), p_i (p_rem (p_div v1 200) 10)]) (rest := []) [] mt_State_bringIn rfl rfl tw_4_10 tw_4_11 tw_4_9 ⟨Nat.le_of_ble_eq_true rfl, Nat.le_of_ble_eq_true rfl⟩ rfl (Nat.le_of_ble_eq_true rfl) (dk_SW_comeByNight 40 rfl) rfl c35 rfl t38 ?_
            have hs39 : p_x s28 s36 := t38.1
            show p_Go K l m_SW_comeByNight 82 [(5, p_r r32), (4, p_r r7), (0, p_r v0), (1, p_i v1), (2, p_i v2), (3, p_i v3)] [] s36 _
            refine g_aload (j := 0) (dk_SW_comeByNight 41 rfl) rfl ?_
            refine g_iload_n (i := 2) (j := 4) (dk_SW_comeByNight 42 rfl) rfl rfl ?_
            refine g_bipush (dk_SW_comeByNight 43 rfl) rfl (by decide) ?_
            refine g_idiv (dk_SW_comeByNight 44 rfl) (by decide) ?_
            refine g_iconst (dk_SW_comeByNight 45 rfl) (by decide) ?_
            refine g_irem (dk_SW_comeByNight 46 rfl) (by decide) ?_
            refine g_iload_n (i := 2) (j := 4) (dk_SW_comeByNight 47 rfl) rfl rfl ?_
            refine g_bipush (dk_SW_comeByNight 48 rfl) rfl (by decide) ?_
            refine g_irem (dk_SW_comeByNight 49 rfl) (by decide) ?_
            obtain ⟨c40, h⟩ := p_gdE h
            obtain ⟨s41, q42, h⟩ := p_bvE h
            have t43 := tF_Parcel_write K l r32 (p_rem (p_div v2 100) 2) (p_rem v2 100) s36 _ q42
            refine g_callV (a := r32) (ci := 4) (q0 := (RX4, TX4, 13)) (As := [p_i (p_rem (p_div v2 100) 2), p_i (p_rem v2 100)]) (rest := []) [] mt_Parcel_write rfl rfl tw_4_34 tw_4_35 tw_4_33 ⟨Nat.le_of_ble_eq_true rfl, Nat.le_of_ble_eq_true rfl⟩ rfl (Nat.le_of_ble_eq_true rfl) (dk_SW_comeByNight 50 rfl) rfl c40 rfl t43 ?_
            have hs44 : p_x s36 s41 := t43.1
            show p_Go K l m_SW_comeByNight 97 [(5, p_r r32), (4, p_r r7), (0, p_r v0), (1, p_i v1), (2, p_i v2), (3, p_i v3)] [] s41 _
            refine g_aload (j := 0) (dk_SW_comeByNight 51 rfl) rfl ?_
            refine g_iload_n (i := 3) (j := 5) (dk_SW_comeByNight 52 rfl) rfl rfl ?_
            obtain ⟨s45, q46, h⟩ := p_bvE h
            have t47 := tF_Parcel_spoil K l r32 v3 s41 _ q46
            refine g_callV (a := r32) (ci := 4) (q0 := (RX4, TX4, 13)) (As := [p_i v3]) (rest := []) [] mt_Parcel_spoil rfl rfl tw_5_88 tw_5_89 tw_5_87 ⟨Nat.le_of_ble_eq_true rfl, Nat.le_of_ble_eq_true rfl⟩ rfl (Nat.le_of_ble_eq_true rfl) (dk_SW_comeByNight 53 rfl) rfl (c40.up hs44) rfl t47 ?_
            have hs48 : p_x s41 s45 := t47.1
            show p_Go K l m_SW_comeByNight 103 [(5, p_r r32), (4, p_r r7), (0, p_r v0), (1, p_i v1), (2, p_i v2), (3, p_i v3)] [] s45 _
            refine g_iconst (dk_SW_comeByNight 54 rfl) (by decide) ?_
            cases h
            exact g_ret rfl rfl (dk_SW_comeByNight 55 rfl) (fun os => ⟨_, rfl, p_okh os⟩)
          · have h := p_ifF b33 h
            refine g_iconst (dk_SW_comeByNight 23 rfl) (by decide) ?_
            cases h
            exact g_ret rfl rfl (dk_SW_comeByNight 24 rfl) (fun os => ⟨_, rfl, p_okh os⟩)
        · have h := p_ifF b27 h
          refine g_iconst (dk_SW_comeByNight 16 rfl) (by decide) ?_
          cases h
          exact g_ret rfl rfl (dk_SW_comeByNight 17 rfl) (fun os => ⟨_, rfl, p_okh os⟩)
def m_SW_drawnAfter : p_Me := (⟨"SortWorks", "drawnAfter", "(I)I"⟩, prog_1_method_31_code, 1, (some .int), 0, 0)
theorem mt_SW_drawnAfter : p_Mt m_SW_drawnAfter 1 := ⟨p_mem (p_tb5 (List.mem_of_getElem? (i := 81) rfl)) rfl, tw_1_1, by decide +kernel, by decide +kernel, by decide +kernel⟩
def dt_SW_drawnAfter : List (Nat × Instr × Nat) := [(0, .iload_n 0, 1), (1, .ldc_w 284, 3), (4, .imul, 1), (5, .sipush 12345, 3), (8, .iadd, 1), (9, .ireturn, 1)]
theorem dk_SW_drawnAfter (i : Nat) {pc : Nat} {ins : Instr} {len : Nat} (h : dt_SW_drawnAfter[i]? = some (pc, ins, len)) : decode m_SW_drawnAfter.2.1 pc = .ok (ins, len) := p_dk (b := m_SW_drawnAfter.2.1) (t := dt_SW_drawnAfter) (by decide +kernel) i h
def F_SW_drawnAfter (v0 : Int) (s0 : p_Hp) : Option (Int × p_Hp) :=
  some ((p_w ((p_w (v0 * 1103515245)) + 12345)), s0)
set_option maxRecDepth 100000 in
set_option maxHeartbeats 4000000 in
theorem tF_SW_drawnAfter (K : p_K) (l : Launch) (v0 : Int) (s0 : p_Hp) (r : (Int × p_Hp)) (h : F_SW_drawnAfter v0 s0 = some r) : p_Ct K l m_SW_drawnAfter [p_i v0] s0 (some (p_i r.1), r.2) := by
  refine p_Ct.of (by decide) (Nat.le_of_ble_eq_true rfl) ?_
  unfold F_SW_drawnAfter at h
  show p_Go K l m_SW_drawnAfter 0 [(0, p_i v0)] [] s0 _
  refine g_iload_n (i := 0) (j := 0) (dk_SW_drawnAfter 0 rfl) rfl rfl ?_
  refine g_ldc_w (x := 1103515245) (dk_SW_drawnAfter 1 rfl) tw_5_82 (by decide) ?_
  refine g_imul (dk_SW_drawnAfter 2 rfl) ?_
  refine g_sipush (dk_SW_drawnAfter 3 rfl) rfl (by decide) ?_
  refine g_iadd (dk_SW_drawnAfter 4 rfl) ?_
  cases h
  exact g_ret rfl rfl (dk_SW_drawnAfter 5 rfl) (fun os => ⟨_, rfl, p_okh os⟩)
def m_SW_night : p_Me := (⟨"SortWorks", "night", "(II)I"⟩, prog_1_method_30_code, 9, (some .int), 7, 170)
theorem mt_SW_night : p_Mt m_SW_night 2 := ⟨p_mem (p_tb5 (List.mem_of_getElem? (i := 78) rfl)) rfl, tw_1_1, by decide +kernel, by decide +kernel, by decide +kernel⟩
def dt_SW_night : List (Nat × Instr × Nat) := [(0, .iload_n 2, 1), (1, .iconst 1, 1), (2, .if_icmp .lt 9, 3), (5, .iload_n 2, 1), (6, .bipush 20, 2), (8, .if_icmp .le 10, 3), (11, .aload_n 0, 1), (12, .bipush (-2), 2), (14, .invokevirtual 61, 3), (17, .ireturn, 1), (18, .iload_n 1, 1), (19, .istore_n 3, 1), (20, .iconst 0, 1), (21, .istore 4, 2), (23, .iconst 0, 1), (24, .istore 5, 2), (26, .iload 5, 2), (28, .iload_n 2, 1), (29, .if_icmp .ge 94, 3), (32, .iload_n 3, 1), (33, .invokestatic 277, 3), (36, .istore_n 3, 1), (37, .iload_n 3, 1), (38, .bipush 16, 2), (40, .iushr, 1), (41, .istore 6, 2), (43, .iload_n 3, 1), (44, .invokestatic 277, 3), (47, .istore_n 3, 1), (48, .iload_n 3, 1), (49, .bipush 16, 2), (51, .iushr, 1), (52, .istore 7, 2), (54, .iload_n 3, 1), (55, .invokestatic 277, 3), (58, .istore_n 3, 1), (59, .iload_n 3, 1), (60, .bipush 16, 2), (62, .iushr, 1), (63, .istore 8, 2), (65, .iload 4, 2), (67, .aload_n 0, 1), (68, .iload 6, 2), (70, .iload 7, 2), (72, .iload 8, 2), (74, .invokevirtual 280, 3), (77, .iadd, 1), (78, .istore 4, 2), (80, .aload_n 0, 1), (81, .getfield 47, 3), (84, .sipush 5000, 3), (87, .if_icmp .lt 6, 3), (90, .goto 33, 3), (93, .aload_n 0, 1), (94, .dup, 1), (95, .getfield 47, 3), (98, .aload_n 0, 1), (99, .getfield 32, 3), (102, .aload_n 0, 1), (103, .getfield 18, 3), (106, .aload_n 0, 1), (107, .getfield 25, 3), (110, .invokevirtual 270, 3), (113, .iadd, 1), (114, .putfield 47, 3), (117, .iinc 5 1, 3), (120, .goto (-94), 3), (123, .aload_n 0, 1), (124, .iload 4, 2), (126, .invokevirtual 57, 3), (129, .ireturn, 1)]
theorem dk_SW_night (i : Nat) {pc : Nat} {ins : Instr} {len : Nat} (h : dt_SW_night[i]? = some (pc, ins, len)) : decode m_SW_night.2.1 pc = .ok (ins, len) := p_dk (b := m_SW_night.2.1) (t := dt_SW_night) (by decide +kernel) i h
def B_SW_night_11  (v0 : Nat) (s0 : p_Hp) : Option (Int × p_Hp) :=
  p_gd (p_is s0 v0 10) <|
  p_bd (F_SW_refuse v0 (-2) s0) fun r6 s2 =>
  some (r6, s2)
def B_SW_night_123  (v0 : Nat) (v4 : Int) (s0 : p_Hp) : Option (Int × p_Hp) :=
  p_gd (p_is s0 v0 10) <|
  p_bd (F_SW_done v0 v4 s0) fun r6 s2 =>
  some (r6, s2)
def L_SW_night_26 (k26 : Nat → Int → Int → Int → Int → p_Hp → Option (Int × p_Hp)) (v0 : Nat) (v2 : Int) (v3 : Int) (v4 : Int) (v5 : Int) (s0 : p_Hp) : Option (Int × p_Hp) :=
  if v2 ≤ v5 then
    B_SW_night_123 v0 v4 s0
  else
    p_bd (F_SW_drawnAfter v3 s0) fun r6 s2 =>
    p_bi ((p_ushr r6 16)) fun x7 =>
    p_bd (F_SW_drawnAfter r6 s2) fun r12 s8 =>
    p_bi ((p_ushr r12 16)) fun x13 =>
    p_bd (F_SW_drawnAfter r12 s8) fun r18 s14 =>
    p_bi ((p_ushr r18 16)) fun x19 =>
    p_gd (p_is s14 v0 10) <|
    p_bd (F_SW_comeByNight v0 x7 x13 x19 s14) fun r25 s21 =>
    p_bi ((p_w (v4 + r25))) fun x26 =>
    if (p_Z s21 v0 7) < 5000 then
      p_gd (p_is s21 (p_R s21 v0 3) 8) <|
      p_bd (F_Step_run (p_R s21 v0 3) (p_R s21 v0 1) (p_R s21 v0 2) s21) fun r33 s29 =>
      p_bi (p_wZ s29 v0 7 (p_w ((p_Z s21 v0 7) + r33))) fun s34 =>
      p_bi (p_w (v5 + 1)) fun x36 =>
      k26 v0 v2 r18 x26 x36 s34
    else
      B_SW_night_123 v0 x26 s21
def O_SW_night_26  : Nat → Nat → Int → Int → Int → Int → p_Hp → Option (Int × p_Hp)
  | 0 => fun _ _ _ _ _ _ => none
  | n + 1 => L_SW_night_26 (O_SW_night_26 n)
def F_SW_night (v0 : Nat) (v1 : Int) (v2 : Int) (s0 : p_Hp) : Option (Int × p_Hp) :=
  if v2 < 1 then
    B_SW_night_11 v0 s0
  else
    if v2 ≤ 20 then
      O_SW_night_26 3000 v0 v2 v1 0 0 s0
    else
      B_SW_night_11 v0 s0
set_option maxRecDepth 100000 in
set_option maxHeartbeats 4000000 in
theorem tB_SW_night_11 (K : p_K) (l : Launch)  (v0 : Nat) (s0 : p_Hp) (r : (Int × p_Hp)) (h : B_SW_night_11 v0 s0 = some r) : p_Go K l m_SW_night 11 [(0, p_r v0)] [] s0 (some (p_i r.1), r.2) := by
  unfold B_SW_night_11 at h
  refine g_aload_n (i := 0) (j := 0) (dk_SW_night 6 rfl) rfl rfl ?_
  refine g_bipush (dk_SW_night 7 rfl) rfl (by decide) ?_
  obtain ⟨c1, h⟩ := p_gdE h
  obtain ⟨r6, s2, q3, h⟩ := p_bdE h
  have t4 := tF_SW_refuse K l v0 (-2) s0 _ q3
  refine g_callV (a := v0) (ci := 10) (q0 := (RX10, TX10, 9)) (As := [p_i (-2)]) (rest := []) [p_i r6] mt_SW_refuse rfl rfl tw_3_52 ts_0 tw_3_50 ⟨Nat.le_of_ble_eq_true rfl, Nat.le_of_ble_eq_true rfl⟩ rfl (Nat.le_of_ble_eq_true rfl) (dk_SW_night 8 rfl) rfl c1 rfl t4 ?_
  have hs5 : p_x s0 s2 := t4.1
  show p_Go K l m_SW_night 17 [(0, p_r v0)] [p_i r6] s2 _
  cases h
  exact g_ret rfl rfl (dk_SW_night 9 rfl) (fun os => ⟨_, rfl, p_okh os⟩)
set_option maxRecDepth 100000 in
set_option maxHeartbeats 4000000 in
theorem tB_SW_night_123 (K : p_K) (l : Launch)  (v0 : Nat) (v4 : Int) (s0 : p_Hp) (r : (Int × p_Hp)) (h : B_SW_night_123 v0 v4 s0 = some r) : p_Go K l m_SW_night 123 [(0, p_r v0), (4, p_i v4)] [] s0 (some (p_i r.1), r.2) := by
  unfold B_SW_night_123 at h
  refine g_aload_n (i := 0) (j := 0) (dk_SW_night 67 rfl) rfl rfl ?_
  refine g_iload (j := 1) (dk_SW_night 68 rfl) rfl ?_
  obtain ⟨c1, h⟩ := p_gdE h
  obtain ⟨r6, s2, q3, h⟩ := p_bdE h
  have t4 := tF_SW_done K l v0 v4 s0 _ q3
  refine g_callV (a := v0) (ci := 10) (q0 := (RX10, TX10, 9)) (As := [p_i v4]) (rest := []) [p_i r6] mt_SW_done rfl rfl tw_3_56 ts_1 tw_3_54 ⟨Nat.le_of_ble_eq_true rfl, Nat.le_of_ble_eq_true rfl⟩ rfl (Nat.le_of_ble_eq_true rfl) (dk_SW_night 69 rfl) rfl c1 rfl t4 ?_
  have hs5 : p_x s0 s2 := t4.1
  show p_Go K l m_SW_night 129 [(0, p_r v0), (4, p_i v4)] [p_i r6] s2 _
  cases h
  exact g_ret rfl rfl (dk_SW_night 70 rfl) (fun os => ⟨_, rfl, p_okh os⟩)
set_option maxRecDepth 100000 in
set_option maxHeartbeats 4000000 in
theorem tL_SW_night_26 (K : p_K) (l : Launch) (k26 : Nat → Int → Int → Int → Int → p_Hp → Option (Int × p_Hp)) (hk26 : ∀ (v0 : Nat) (v2 : Int) (v3 : Int) (v4 : Int) (v5 : Int)  (s0 : p_Hp) (r : (Int × p_Hp)), k26 v0 v2 v3 v4 v5 s0 = some r → p_Go K l m_SW_night 26 [(0, p_r v0), (2, p_i v2), (3, p_i v3), (4, p_i v4), (5, p_i v5)] [] s0 (some (p_i r.1), r.2)) (v0 : Nat) (v2 : Int) (v3 : Int) (v4 : Int) (v5 : Int) (s0 : p_Hp) (r : (Int × p_Hp)) (h : L_SW_night_26 k26 v0 v2 v3 v4 v5 s0 = some r) : p_Go K l m_SW_night 26 [(0, p_r v0), (2, p_i v2), (3, p_i v3), (4, p_i v4), (5, p_i v5)] [] s0 (some (p_i r.1), r.2) := by
  unfold L_SW_night_26 at h
  refine g_iload (j := 4) (dk_SW_night 16 rfl) rfl ?_
  refine g_iload_n (i := 2) (j := 1) (dk_SW_night 17 rfl) rfl rfl ?_
  refine g_icmp_ge 123 (dk_SW_night 18 rfl) (by decide) (fun b1 => ?_) (fun b1 => ?_)
  · have h := p_ifT b1 h
    refine g_sub [(0, p_r v0), (4, p_i v4)] [0, 3] rfl ?_
    exact tB_SW_night_123 K l v0 v4 s0 _ h
  · have h := p_ifF b1 h
    refine g_iload_n (i := 3) (j := 2) (dk_SW_night 19 rfl) rfl rfl ?_
    obtain ⟨r6, s2, q3, h⟩ := p_bdE h
    have t4 := tF_SW_drawnAfter K l v3 s0 _ q3
    refine g_callS (av := [p_i v3]) (rest := []) [p_i r6] mt_SW_drawnAfter tw_5_80 tw_5_79 ⟨Nat.le_of_ble_eq_true rfl, Nat.le_of_ble_eq_true rfl⟩ rfl (Nat.le_of_ble_eq_true rfl) (dk_SW_night 20 rfl) rfl rfl t4 ?_
    have hs5 : p_x s0 s2 := t4.1
    show p_Go K l m_SW_night 36 [(0, p_r v0), (2, p_i v2), (3, p_i v3), (4, p_i v4), (5, p_i v5)] [p_i r6] s2 _
    refine g_istore_n (i := 3) [(3, p_i r6), (0, p_r v0), (2, p_i v2), (4, p_i v4), (5, p_i v5)] (dk_SW_night 21 rfl) rfl (by decide) rfl ?_
    refine g_iload_n (i := 3) (j := 0) (dk_SW_night 22 rfl) rfl rfl ?_
    refine g_bipush (dk_SW_night 23 rfl) rfl (by decide) ?_
    refine g_iushr (dk_SW_night 24 rfl) ?_
    refine g_istore [(6, p_i (p_ushr r6 16)), (3, p_i r6), (0, p_r v0), (2, p_i v2), (4, p_i v4), (5, p_i v5)] (dk_SW_night 25 rfl) (by decide) rfl ?_
    refine p_ltG (P := fun q => p_Go K l m_SW_night 43 [(6, p_i q), (3, p_i r6), (0, p_r v0), (2, p_i v2), (4, p_i v4), (5, p_i v5)] [] s2 _) ?_ h
    intro x7 h
    refine g_iload_n (i := 3) (j := 1) (dk_SW_night 26 rfl) rfl rfl ?_
    obtain ⟨r12, s8, q9, h⟩ := p_bdE h
    have t10 := tF_SW_drawnAfter K l r6 s2 _ q9
    refine g_callS (av := [p_i r6]) (rest := []) [p_i r12] mt_SW_drawnAfter tw_5_80 tw_5_79 ⟨Nat.le_of_ble_eq_true rfl, Nat.le_of_ble_eq_true rfl⟩ rfl (Nat.le_of_ble_eq_true rfl) (dk_SW_night 27 rfl) rfl rfl t10 ?_
    have hs11 : p_x s2 s8 := t10.1
    show p_Go K l m_SW_night 47 [(6, p_i x7), (3, p_i r6), (0, p_r v0), (2, p_i v2), (4, p_i v4), (5, p_i v5)] [p_i r12] s8 _
    refine g_istore_n (i := 3) [(3, p_i r12), (6, p_i x7), (0, p_r v0), (2, p_i v2), (4, p_i v4), (5, p_i v5)] (dk_SW_night 28 rfl) rfl (by decide) rfl ?_
    refine g_iload_n (i := 3) (j := 0) (dk_SW_night 29 rfl) rfl rfl ?_
    refine g_bipush (dk_SW_night 30 rfl) rfl (by decide) ?_
    refine g_iushr (dk_SW_night 31 rfl) ?_
    refine g_istore [(7, p_i (p_ushr r12 16)), (3, p_i r12), (6, p_i x7), (0, p_r v0), (2, p_i v2), (4, p_i v4), (5, p_i v5)] (dk_SW_night 32 rfl) (by decide) rfl ?_
    refine p_ltG (P := fun q => p_Go K l m_SW_night 54 [(7, p_i q), (3, p_i r12), (6, p_i x7), (0, p_r v0), (2, p_i v2), (4, p_i v4), (5, p_i v5)] [] s8 _) ?_ h
    intro x13 h
    refine g_iload_n (i := 3) (j := 1) (dk_SW_night 33 rfl) rfl rfl ?_
    obtain ⟨r18, s14, q15, h⟩ := p_bdE h
    have t16 := tF_SW_drawnAfter K l r12 s8 _ q15
    refine g_callS (av := [p_i r12]) (rest := []) [p_i r18] mt_SW_drawnAfter tw_5_80 tw_5_79 ⟨Nat.le_of_ble_eq_true rfl, Nat.le_of_ble_eq_true rfl⟩ rfl (Nat.le_of_ble_eq_true rfl) (dk_SW_night 34 rfl) rfl rfl t16 ?_
    have hs17 : p_x s8 s14 := t16.1
    show p_Go K l m_SW_night 58 [(7, p_i x13), (3, p_i r12), (6, p_i x7), (0, p_r v0), (2, p_i v2), (4, p_i v4), (5, p_i v5)] [p_i r18] s14 _
    refine g_istore_n (i := 3) [(3, p_i r18), (7, p_i x13), (6, p_i x7), (0, p_r v0), (2, p_i v2), (4, p_i v4), (5, p_i v5)] (dk_SW_night 35 rfl) rfl (by decide) rfl ?_
    refine g_iload_n (i := 3) (j := 0) (dk_SW_night 36 rfl) rfl rfl ?_
    refine g_bipush (dk_SW_night 37 rfl) rfl (by decide) ?_
    refine g_iushr (dk_SW_night 38 rfl) ?_
    refine g_istore [(8, p_i (p_ushr r18 16)), (3, p_i r18), (7, p_i x13), (6, p_i x7), (0, p_r v0), (2, p_i v2), (4, p_i v4), (5, p_i v5)] (dk_SW_night 39 rfl) (by decide) rfl ?_
    refine p_ltG (P := fun q => p_Go K l m_SW_night 65 [(8, p_i q), (3, p_i r18), (7, p_i x13), (6, p_i x7), (0, p_r v0), (2, p_i v2), (4, p_i v4), (5, p_i v5)] [] s14 _) ?_ h
    intro x19 h
    refine g_iload (j := 6) (dk_SW_night 40 rfl) rfl ?_
    refine g_aload_n (i := 0) (j := 4) (dk_SW_night 41 rfl) rfl rfl ?_
    refine g_iload (j := 3) (dk_SW_night 42 rfl) rfl ?_
    refine g_iload (j := 2) (dk_SW_night 43 rfl) rfl ?_
    refine g_iload (j := 0) (dk_SW_night 44 rfl) rfl ?_
    obtain ⟨c20, h⟩ := p_gdE h
    obtain ⟨r25, s21, q22, h⟩ := p_bdE h
    have t23 := tF_SW_comeByNight K l v0 x7 x13 x19 s14 _ q22
    refine g_callV (a := v0) (ci := 10) (q0 := (RX10, TX10, 9)) (As := [p_i x7, p_i x13, p_i x19]) (rest := [p_i v4]) [p_i r25, p_i v4] mt_SW_comeByNight rfl rfl tw_5_85 ts_39 tw_5_83 ⟨Nat.le_of_ble_eq_true rfl, Nat.le_of_ble_eq_true rfl⟩ rfl (Nat.le_of_ble_eq_true rfl) (dk_SW_night 45 rfl) rfl c20 rfl t23 ?_
    have hs24 : p_x s14 s21 := t23.1
    show p_Go K l m_SW_night 77 [(8, p_i x19), (3, p_i r18), (7, p_i x13), (6, p_i x7), (0, p_r v0), (2, p_i v2), (4, p_i v4), (5, p_i v5)] [p_i r25, p_i v4] s21 _
    refine g_iadd (dk_SW_night 46 rfl) ?_
    refine g_istore [(4, p_i (p_w (v4 + r25))), (8, p_i x19), (3, p_i r18), (7, p_i x13), (6, p_i x7), (0, p_r v0), (2, p_i v2), (5, p_i v5)] (dk_SW_night 47 rfl) (by decide) rfl ?_
    refine p_ltG (P := fun q => p_Go K l m_SW_night 80 [(4, p_i q), (8, p_i x19), (3, p_i r18), (7, p_i x13), (6, p_i x7), (0, p_r v0), (2, p_i v2), (5, p_i v5)] [] s21 _) ?_ h
    intro x26 h
    refine g_aload_n (i := 0) (j := 5) (dk_SW_night 48 rfl) rfl rfl ?_
    refine g_getI fl_SW_47 (Or.inl rfl) (dk_SW_night 49 rfl) (c20.up hs24) ?_
    refine g_sipush (dk_SW_night 50 rfl) rfl (by decide) ?_
    refine g_icmp_lt 93 (dk_SW_night 51 rfl) (by decide) (fun b27 => ?_) (fun b27 => ?_)
    · have h := p_ifT b27 h
      refine g_aload_n (i := 0) (j := 5) (dk_SW_night 53 rfl) rfl rfl ?_
      refine g_dup (dk_SW_night 54 rfl) rfl ?_
      refine g_getI fl_SW_47 (Or.inl rfl) (dk_SW_night 55 rfl) (c20.up hs24) ?_
      refine g_aload_n (i := 0) (j := 5) (dk_SW_night 56 rfl) rfl rfl ?_
      refine g_getR fl_SW_32 (Or.inl ⟨_, rfl⟩) (dk_SW_night 57 rfl) (c20.up hs24) ?_
      refine g_aload_n (i := 0) (j := 5) (dk_SW_night 58 rfl) rfl rfl ?_
      refine g_getR fl_SW_18 (Or.inl ⟨_, rfl⟩) (dk_SW_night 59 rfl) (c20.up hs24) ?_
      refine g_aload_n (i := 0) (j := 5) (dk_SW_night 60 rfl) rfl rfl ?_
      refine g_getR fl_SW_25 (Or.inl ⟨_, rfl⟩) (dk_SW_night 61 rfl) (c20.up hs24) ?_
      obtain ⟨c28, h⟩ := p_gdE h
      obtain ⟨r33, s29, q30, h⟩ := p_bdE h
      have t31 := tF_Step_run K l (p_R s21 v0 3) (p_R s21 v0 1) (p_R s21 v0 2) s21 _ q30
      refine g_callV (a := (p_R s21 v0 3)) (ci := 8) (q0 := (RX8, TX8, 5)) (As := [p_r (p_R s21 v0 1), p_r (p_R s21 v0 2)]) (rest := [p_i (p_Z s21 v0 7), p_r v0]) [p_i r33, p_i (p_Z s21 v0 7), p_r v0] mt_Step_run rfl rfl tw_4_128 tw_4_129 tw_4_127 ⟨Nat.le_of_ble_eq_true rfl, Nat.le_of_ble_eq_true rfl⟩ rfl (Nat.le_of_ble_eq_true rfl) (dk_SW_night 62 rfl) rfl c28 rfl t31 ?_
      have hs32 : p_x s21 s29 := t31.1
      show p_Go K l m_SW_night 113 [(4, p_i x26), (8, p_i x19), (3, p_i r18), (7, p_i x13), (6, p_i x7), (0, p_r v0), (2, p_i v2), (5, p_i v5)] [p_i r33, p_i (p_Z s21 v0 7), p_r v0] s29 _
      refine g_iadd (dk_SW_night 63 rfl) ?_
      refine g_putI fl_SW_47 (Or.inl rfl) (dk_SW_night 64 rfl) (c20.up (hs24.trans hs32)) ?_
      refine p_ltS (P := fun q => p_Go K l m_SW_night 117 [(4, p_i x26), (8, p_i x19), (3, p_i r18), (7, p_i x13), (6, p_i x7), (0, p_r v0), (2, p_i v2), (5, p_i v5)] [] q _) (p_xZ _ _ _ _) ?_ h
      intro s34 hs35 h
      refine g_iinc (j := 7) [(5, p_i (p_w (v5 + 1))), (4, p_i x26), (8, p_i x19), (3, p_i r18), (7, p_i x13), (6, p_i x7), (0, p_r v0), (2, p_i v2)] (dk_SW_night 65 rfl) rfl (by decide) rfl ?_
      refine p_ltG (P := fun q => p_Go K l m_SW_night 120 [(5, p_i q), (4, p_i x26), (8, p_i x19), (3, p_i r18), (7, p_i x13), (6, p_i x7), (0, p_r v0), (2, p_i v2)] [] s34 _) ?_ h
      intro x36 h
      refine g_goto 26 (dk_SW_night 66 rfl) (by decide) ?_
      refine g_sub [(0, p_r v0), (2, p_i v2), (3, p_i r18), (4, p_i x26), (5, p_i x36)] [6, 7, 3, 1, 0] rfl ?_
      exact hk26 v0 v2 r18 x26 x36 s34 _ h
    · have h := p_ifF b27 h
      refine g_goto 123 (dk_SW_night 52 rfl) (by decide) ?_
      refine g_sub [(0, p_r v0), (4, p_i x26)] [5, 0] rfl ?_
      exact tB_SW_night_123 K l v0 x26 s21 _ h
set_option maxRecDepth 100000 in
set_option maxHeartbeats 4000000 in
theorem tO_SW_night_26 (K : p_K) (l : Launch)  : ∀ (n : Nat) (v0 : Nat) (v2 : Int) (v3 : Int) (v4 : Int) (v5 : Int) (s0 : p_Hp) (r : (Int × p_Hp)), O_SW_night_26 n v0 v2 v3 v4 v5 s0 = some r → p_Go K l m_SW_night 26 [(0, p_r v0), (2, p_i v2), (3, p_i v3), (4, p_i v4), (5, p_i v5)] [] s0 (some (p_i r.1), r.2) := by
  intro n
  induction n with
  | zero => intro v0 v2 v3 v4 v5 s0 r h; cases (show (none : Option (Int × p_Hp)) = some r from h)
  | succ n ih => intro v0 v2 v3 v4 v5 s0 r h; exact tL_SW_night_26 K l _ ih v0 v2 v3 v4 v5 s0 r h
set_option maxRecDepth 100000 in
set_option maxHeartbeats 4000000 in
theorem tF_SW_night (K : p_K) (l : Launch) (v0 : Nat) (v1 : Int) (v2 : Int) (s0 : p_Hp) (r : (Int × p_Hp)) (h : F_SW_night v0 v1 v2 s0 = some r) : p_Ct K l m_SW_night [p_r v0, p_i v1, p_i v2] s0 (some (p_i r.1), r.2) := by
  refine p_Ct.of (by decide) (Nat.le_of_ble_eq_true rfl) ?_
  unfold F_SW_night at h
  show p_Go K l m_SW_night 0 [(0, p_r v0), (1, p_i v1), (2, p_i v2)] [] s0 _
  refine g_iload_n (i := 2) (j := 2) (dk_SW_night 0 rfl) rfl rfl ?_
  refine g_iconst (dk_SW_night 1 rfl) (by decide) ?_
  refine g_icmp_lt 11 (dk_SW_night 2 rfl) (by decide) (fun b1 => ?_) (fun b1 => ?_)
  · have h := p_ifT b1 h
    refine g_sub [(0, p_r v0)] [0] rfl ?_
    exact tB_SW_night_11 K l v0 s0 _ h
  · have h := p_ifF b1 h
    refine g_iload_n (i := 2) (j := 2) (dk_SW_night 3 rfl) rfl rfl ?_
    refine g_bipush (dk_SW_night 4 rfl) rfl (by decide) ?_
    refine g_icmp_le 18 (dk_SW_night 5 rfl) (by decide) (fun b2 => ?_) (fun b2 => ?_)
    · have h := p_ifT b2 h
      refine g_iload_n (i := 1) (j := 1) (dk_SW_night 10 rfl) rfl rfl ?_
      refine g_istore_n (i := 3) [(3, p_i v1), (0, p_r v0), (1, p_i v1), (2, p_i v2)] (dk_SW_night 11 rfl) rfl (by decide) rfl ?_
      refine g_iconst (dk_SW_night 12 rfl) (by decide) ?_
      refine g_istore [(4, p_i 0), (3, p_i v1), (0, p_r v0), (1, p_i v1), (2, p_i v2)] (dk_SW_night 13 rfl) (by decide) rfl ?_
      refine g_iconst (dk_SW_night 14 rfl) (by decide) ?_
      refine g_istore [(5, p_i 0), (4, p_i 0), (3, p_i v1), (0, p_r v0), (1, p_i v1), (2, p_i v2)] (dk_SW_night 15 rfl) (by decide) rfl ?_
      refine g_sub [(0, p_r v0), (2, p_i v2), (3, p_i v1), (4, p_i 0), (5, p_i 0)] [3, 5, 2, 1, 0] rfl ?_
      exact tO_SW_night_26 K l 3000 v0 v2 v1 0 0 s0 _ h
    · have h := p_ifF b2 h
      refine g_sub [(0, p_r v0)] [0] rfl ?_
      exact tB_SW_night_11 K l v0 s0 _ h
def m_Numbers_undoSince : p_Me := (⟨"SortWorks$Numbers", "undoSince", "(ILSortWorks$State;)V"⟩, prog_5_method_4_code, 5, none, 1, 20)
theorem mt_Numbers_undoSince : p_Mt m_Numbers_undoSince 2 := ⟨p_mem (p_tb5 (List.mem_of_getElem? (i := 109) rfl)) rfl, tw_1_8, by decide +kernel, by decide +kernel, by decide +kernel⟩
def dt_Numbers_undoSince : List (Nat × Instr × Nat) := [(0, .aload_n 2, 1), (1, .getfield 23, 3), (4, .iconst 1, 1), (5, .iadd, 1), (6, .istore_n 3, 1), (7, .iload_n 3, 1), (8, .aload_n 0, 1), (9, .getfield 15, 3), (12, .if_icmp .gt 53, 3), (15, .aload_n 0, 1), (16, .getfield 9, 3), (19, .iload_n 3, 1), (20, .iaload, 1), (21, .iload_n 1, 1), (22, .invokestatic 19, 3), (25, .if_icmp .eq 26, 3), (28, .aload_n 0, 1), (29, .getfield 9, 3), (32, .iload_n 3, 1), (33, .iaload, 1), (34, .ifCond .lt 25, 3), (37, .aload_n 0, 1), (38, .getfield 9, 3), (41, .iload_n 3, 1), (42, .iaload, 1), (43, .sipush 1000, 3), (46, .idiv, 1), (47, .iload_n 1, 1), (48, .if_icmp .ne 11, 3), (51, .aload_n 0, 1), (52, .getfield 9, 3), (55, .iload_n 3, 1), (56, .bipush (-9), 2), (58, .iastore, 1), (59, .iinc 3 1, 3), (62, .goto (-55), 3), (65, .iconst 1, 1), (66, .istore_n 3, 1), (67, .iload_n 3, 1), (68, .bipush 30, 2), (70, .if_icmp .gt 36, 3), (73, .aload_n 2, 1), (74, .getfield 26, 3), (77, .iload_n 3, 1), (78, .aaload, 1), (79, .getfield 30, 3), (82, .istore 4, 2), (84, .iload 4, 2), (86, .ifCond .eq 14, 3), (89, .aload_n 0, 1), (90, .getfield 9, 3), (93, .iload 4, 2), (95, .iload_n 1, 1), (96, .invokestatic 19, 3), (99, .iastore, 1), (100, .iinc 3 1, 3), (103, .goto (-36), 3), (106, .return_, 1)]
theorem dk_Numbers_undoSince (i : Nat) {pc : Nat} {ins : Instr} {len : Nat} (h : dt_Numbers_undoSince[i]? = some (pc, ins, len)) : decode m_Numbers_undoSince.2.1 pc = .ok (ins, len) := p_dk (b := m_Numbers_undoSince.2.1) (t := dt_Numbers_undoSince) (by decide +kernel) i h
def B_Numbers_undoSince_59 (k7 : Nat → Int → Nat → Int → p_Hp → Option p_Hp) (v0 : Nat) (v1 : Int) (v2 : Nat) (v3 : Int) (s0 : p_Hp) : Option p_Hp :=
  p_bi (p_w (v3 + 1)) fun x1 =>
  k7 v0 v1 v2 x1 s0
def B_Numbers_undoSince_51 (k7 : Nat → Int → Nat → Int → p_Hp → Option p_Hp) (v0 : Nat) (v1 : Int) (v2 : Nat) (v3 : Int) (s0 : p_Hp) : Option p_Hp :=
  p_gd (p_is s0 v0 3) <|
  p_gd (p_is s0 (p_R s0 v0 0) 100) <|
  p_gd (0 ≤ v3 ∧ v3 < (p_L s0 (p_R s0 v0 0) : Int)) <|
  p_bi (p_wZ s0 (p_R s0 v0 0) (v3).toNat (-9)) fun s4 =>
  B_Numbers_undoSince_59 k7 v0 v1 v2 v3 s4
def B_Numbers_undoSince_100 (k67 : Nat → Int → Nat → Int → p_Hp → Option p_Hp) (v0 : Nat) (v1 : Int) (v2 : Nat) (v3 : Int) (s0 : p_Hp) : Option p_Hp :=
  p_bi (p_w (v3 + 1)) fun x1 =>
  k67 v0 v1 v2 x1 s0
def L_Numbers_undoSince_67 (k67 : Nat → Int → Nat → Int → p_Hp → Option p_Hp) (v0 : Nat) (v1 : Int) (v2 : Nat) (v3 : Int) (s0 : p_Hp) : Option p_Hp :=
  if 30 < v3 then
    some s0
  else
    p_gd (p_is s0 v2 7) <|
    p_gd (p_is s0 (p_R s0 v2 5) 107) <|
    p_gd (0 ≤ v3 ∧ v3 < (p_L s0 (p_R s0 v2 5) : Int)) <|
    p_gd (p_is s0 (p_R s0 (p_R s0 v2 5) (v3).toNat) 4) <|
    p_bi ((p_Z s0 (p_R s0 (p_R s0 v2 5) (v3).toNat) 1)) fun x6 =>
    if x6 = 0 then
      B_Numbers_undoSince_100 k67 v0 v1 v2 v3 s0
    else
      p_gd (p_is s0 v0 3) <|
      p_bd (F_Numbers_insideOf v1 s0) fun r13 s9 =>
      p_gd (p_is s9 (p_R s0 v0 0) 100) <|
      p_gd (0 ≤ x6 ∧ x6 < (p_L s9 (p_R s0 v0 0) : Int)) <|
      p_bi (p_wZ s9 (p_R s0 v0 0) (x6).toNat r13) fun s16 =>
      B_Numbers_undoSince_100 k67 v0 v1 v2 v3 s16
def O_Numbers_undoSince_67  : Nat → Nat → Int → Nat → Int → p_Hp → Option p_Hp
  | 0 => fun _ _ _ _ _ => none
  | n + 1 => L_Numbers_undoSince_67 (O_Numbers_undoSince_67 n)
def L_Numbers_undoSince_7 (k7 : Nat → Int → Nat → Int → p_Hp → Option p_Hp) (v0 : Nat) (v1 : Int) (v2 : Nat) (v3 : Int) (s0 : p_Hp) : Option p_Hp :=
  p_gd (p_is s0 v0 3) <|
  if (p_Z s0 v0 1) < v3 then
    O_Numbers_undoSince_67 3000 v0 v1 v2 1 s0
  else
    p_gd (p_is s0 (p_R s0 v0 0) 100) <|
    p_gd (0 ≤ v3 ∧ v3 < (p_L s0 (p_R s0 v0 0) : Int)) <|
    p_bd (F_Numbers_insideOf v1 s0) fun r9 s5 =>
    if (p_Z s0 (p_R s0 v0 0) (v3).toNat) = r9 then
      B_Numbers_undoSince_51 k7 v0 v1 v2 v3 s5
    else
      p_gd (p_is s5 (p_R s5 v0 0) 100) <|
      p_gd (0 ≤ v3 ∧ v3 < (p_L s5 (p_R s5 v0 0) : Int)) <|
      if (p_Z s5 (p_R s5 v0 0) (v3).toNat) < 0 then
        B_Numbers_undoSince_59 k7 v0 v1 v2 v3 s5
      else
        p_gd (0 ≤ v3 ∧ v3 < (p_L s5 (p_R s5 v0 0) : Int)) <|
        if (p_div (p_Z s5 (p_R s5 v0 0) (v3).toNat) 1000) ≠ v1 then
          B_Numbers_undoSince_59 k7 v0 v1 v2 v3 s5
        else
          B_Numbers_undoSince_51 k7 v0 v1 v2 v3 s5
def O_Numbers_undoSince_7  : Nat → Nat → Int → Nat → Int → p_Hp → Option p_Hp
  | 0 => fun _ _ _ _ _ => none
  | n + 1 => L_Numbers_undoSince_7 (O_Numbers_undoSince_7 n)
def F_Numbers_undoSince (v0 : Nat) (v1 : Int) (v2 : Nat) (s0 : p_Hp) : Option p_Hp :=
  p_gd (p_is s0 v2 7) <|
  p_bi ((p_w ((p_Z s0 v2 3) + 1))) fun x2 =>
  O_Numbers_undoSince_7 3000 v0 v1 v2 x2 s0
set_option maxRecDepth 100000 in
set_option maxHeartbeats 4000000 in
theorem tB_Numbers_undoSince_59 (K : p_K) (l : Launch) (k7 : Nat → Int → Nat → Int → p_Hp → Option p_Hp) (hk7 : ∀ (v0 : Nat) (v1 : Int) (v2 : Nat) (v3 : Int)  (s0 : p_Hp) (r : p_Hp), k7 v0 v1 v2 v3 s0 = some r → p_Go K l m_Numbers_undoSince 7 [(0, p_r v0), (1, p_i v1), (2, p_r v2), (3, p_i v3)] [] s0 (none, r)) (v0 : Nat) (v1 : Int) (v2 : Nat) (v3 : Int) (s0 : p_Hp) (r : p_Hp) (h : B_Numbers_undoSince_59 k7 v0 v1 v2 v3 s0 = some r) : p_Go K l m_Numbers_undoSince 59 [(0, p_r v0), (1, p_i v1), (2, p_r v2), (3, p_i v3)] [] s0 (none, r) := by
  unfold B_Numbers_undoSince_59 at h
  refine g_iinc (j := 3) [(3, p_i (p_w (v3 + 1))), (0, p_r v0), (1, p_i v1), (2, p_r v2)] (dk_Numbers_undoSince 34 rfl) rfl (by decide) rfl ?_
  refine p_ltG (P := fun q => p_Go K l m_Numbers_undoSince 62 [(3, p_i q), (0, p_r v0), (1, p_i v1), (2, p_r v2)] [] s0 _) ?_ h
  intro x1 h
  refine g_goto 7 (dk_Numbers_undoSince 35 rfl) (by decide) ?_
  refine g_sub [(0, p_r v0), (1, p_i v1), (2, p_r v2), (3, p_i x1)] [1, 2, 3, 0] rfl ?_
  exact hk7 v0 v1 v2 x1 s0 _ h
set_option maxRecDepth 100000 in
set_option maxHeartbeats 4000000 in
theorem tB_Numbers_undoSince_51 (K : p_K) (l : Launch) (k7 : Nat → Int → Nat → Int → p_Hp → Option p_Hp) (hk7 : ∀ (v0 : Nat) (v1 : Int) (v2 : Nat) (v3 : Int)  (s0 : p_Hp) (r : p_Hp), k7 v0 v1 v2 v3 s0 = some r → p_Go K l m_Numbers_undoSince 7 [(0, p_r v0), (1, p_i v1), (2, p_r v2), (3, p_i v3)] [] s0 (none, r)) (v0 : Nat) (v1 : Int) (v2 : Nat) (v3 : Int) (s0 : p_Hp) (r : p_Hp) (h : B_Numbers_undoSince_51 k7 v0 v1 v2 v3 s0 = some r) : p_Go K l m_Numbers_undoSince 51 [(0, p_r v0), (1, p_i v1), (2, p_r v2), (3, p_i v3)] [] s0 (none, r) := by
  unfold B_Numbers_undoSince_51 at h
  refine g_aload_n (i := 0) (j := 0) (dk_Numbers_undoSince 29 rfl) rfl rfl ?_
  obtain ⟨c1, h⟩ := p_gdE h
  refine g_getR fl_Numbers_9 (Or.inr ⟨_, rfl⟩) (dk_Numbers_undoSince 30 rfl) c1 ?_
  refine g_iload_n (i := 3) (j := 3) (dk_Numbers_undoSince 31 rfl) rfl rfl ?_
  refine g_bipush (dk_Numbers_undoSince 32 rfl) rfl (by decide) ?_
  obtain ⟨c2, h⟩ := p_gdE h
  obtain ⟨c3, h⟩ := p_gdE h
  refine g_iastore (dk_Numbers_undoSince 33 rfl) c2 c3.1 c3.2 ?_
  refine p_ltS (P := fun q => p_Go K l m_Numbers_undoSince 59 [(0, p_r v0), (1, p_i v1), (2, p_r v2), (3, p_i v3)] [] q _) (p_xZ _ _ _ _) ?_ h
  intro s4 hs5 h
  exact tB_Numbers_undoSince_59 K l k7 hk7 v0 v1 v2 v3 s4 _ h
set_option maxRecDepth 100000 in
set_option maxHeartbeats 4000000 in
theorem tB_Numbers_undoSince_100 (K : p_K) (l : Launch) (k67 : Nat → Int → Nat → Int → p_Hp → Option p_Hp) (hk67 : ∀ (v0 : Nat) (v1 : Int) (v2 : Nat) (v3 : Int)  (s0 : p_Hp) (r : p_Hp), k67 v0 v1 v2 v3 s0 = some r → p_Go K l m_Numbers_undoSince 67 [(0, p_r v0), (1, p_i v1), (2, p_r v2), (3, p_i v3)] [] s0 (none, r)) (v0 : Nat) (v1 : Int) (v2 : Nat) (v3 : Int) (s0 : p_Hp) (r : p_Hp) (h : B_Numbers_undoSince_100 k67 v0 v1 v2 v3 s0 = some r) : p_Go K l m_Numbers_undoSince 100 [(0, p_r v0), (1, p_i v1), (2, p_r v2), (3, p_i v3)] [] s0 (none, r) := by
  unfold B_Numbers_undoSince_100 at h
  refine g_iinc (j := 3) [(3, p_i (p_w (v3 + 1))), (0, p_r v0), (1, p_i v1), (2, p_r v2)] (dk_Numbers_undoSince 55 rfl) rfl (by decide) rfl ?_
  refine p_ltG (P := fun q => p_Go K l m_Numbers_undoSince 103 [(3, p_i q), (0, p_r v0), (1, p_i v1), (2, p_r v2)] [] s0 _) ?_ h
  intro x1 h
  refine g_goto 67 (dk_Numbers_undoSince 56 rfl) (by decide) ?_
  refine g_sub [(0, p_r v0), (1, p_i v1), (2, p_r v2), (3, p_i x1)] [1, 2, 3, 0] rfl ?_
  exact hk67 v0 v1 v2 x1 s0 _ h
set_option maxRecDepth 100000 in
set_option maxHeartbeats 4000000 in
theorem tL_Numbers_undoSince_67 (K : p_K) (l : Launch) (k67 : Nat → Int → Nat → Int → p_Hp → Option p_Hp) (hk67 : ∀ (v0 : Nat) (v1 : Int) (v2 : Nat) (v3 : Int)  (s0 : p_Hp) (r : p_Hp), k67 v0 v1 v2 v3 s0 = some r → p_Go K l m_Numbers_undoSince 67 [(0, p_r v0), (1, p_i v1), (2, p_r v2), (3, p_i v3)] [] s0 (none, r)) (v0 : Nat) (v1 : Int) (v2 : Nat) (v3 : Int) (s0 : p_Hp) (r : p_Hp) (h : L_Numbers_undoSince_67 k67 v0 v1 v2 v3 s0 = some r) : p_Go K l m_Numbers_undoSince 67 [(0, p_r v0), (1, p_i v1), (2, p_r v2), (3, p_i v3)] [] s0 (none, r) := by
  unfold L_Numbers_undoSince_67 at h
  refine g_iload_n (i := 3) (j := 3) (dk_Numbers_undoSince 38 rfl) rfl rfl ?_
  refine g_bipush (dk_Numbers_undoSince 39 rfl) rfl (by decide) ?_
  refine g_icmp_gt 106 (dk_Numbers_undoSince 40 rfl) (by decide) (fun b1 => ?_) (fun b1 => ?_)
  · have h := p_ifT b1 h
    cases h
    exact g_ret rfl rfl (dk_Numbers_undoSince 57 rfl) (fun _ => rfl)
  · have h := p_ifF b1 h
    refine g_aload_n (i := 2) (j := 2) (dk_Numbers_undoSince 41 rfl) rfl rfl ?_
    obtain ⟨c2, h⟩ := p_gdE h
    refine g_getR fl_Numbers_26 (Or.inr ⟨_, rfl⟩) (dk_Numbers_undoSince 42 rfl) c2 ?_
    refine g_iload_n (i := 3) (j := 3) (dk_Numbers_undoSince 43 rfl) rfl rfl ?_
    obtain ⟨c3, h⟩ := p_gdE h
    obtain ⟨c4, h⟩ := p_gdE h
    refine g_aaload (i := 7) rfl (Or.inl ⟨_, rfl⟩) (dk_Numbers_undoSince 44 rfl) c3 c4.1 c4.2 ?_
    obtain ⟨c5, h⟩ := p_gdE h
    refine g_getI fl_Numbers_30 (Or.inl rfl) (dk_Numbers_undoSince 45 rfl) c5 ?_
    refine g_istore [(4, p_i (p_Z s0 (p_R s0 (p_R s0 v2 5) (v3).toNat) 1)), (0, p_r v0), (1, p_i v1), (2, p_r v2), (3, p_i v3)] (dk_Numbers_undoSince 46 rfl) (by decide) rfl ?_
    refine p_ltG (P := fun q => p_Go K l m_Numbers_undoSince 84 [(4, p_i q), (0, p_r v0), (1, p_i v1), (2, p_r v2), (3, p_i v3)] [] s0 _) ?_ h
    intro x6 h
    refine g_iload (j := 0) (dk_Numbers_undoSince 47 rfl) rfl ?_
    refine g_if_eq 100 (dk_Numbers_undoSince 48 rfl) (by decide) (fun b7 => ?_) (fun b7 => ?_)
    · have h := p_ifT b7 h
      refine g_sub [(0, p_r v0), (1, p_i v1), (2, p_r v2), (3, p_i v3)] [1, 2, 3, 4] rfl ?_
      exact tB_Numbers_undoSince_100 K l k67 hk67 v0 v1 v2 v3 s0 _ h
    · have h := p_ifF b7 h
      refine g_aload_n (i := 0) (j := 1) (dk_Numbers_undoSince 49 rfl) rfl rfl ?_
      obtain ⟨c8, h⟩ := p_gdE h
      refine g_getR fl_Numbers_9 (Or.inr ⟨_, rfl⟩) (dk_Numbers_undoSince 50 rfl) c8 ?_
      refine g_iload (j := 0) (dk_Numbers_undoSince 51 rfl) rfl ?_
      refine g_iload_n (i := 1) (j := 2) (dk_Numbers_undoSince 52 rfl) rfl rfl ?_
      obtain ⟨r13, s9, q10, h⟩ := p_bdE h
      have t11 := tF_Numbers_insideOf K l v1 s0 _ q10
      refine g_callS (av := [p_i v1]) (rest := [p_i x6, p_r (p_R s0 v0 0)]) [p_i r13, p_i x6, p_r (p_R s0 v0 0)] mt_Numbers_insideOf tw_4_7 tw_4_6 ⟨Nat.le_of_ble_eq_true rfl, Nat.le_of_ble_eq_true rfl⟩ rfl (Nat.le_of_ble_eq_true rfl) (dk_Numbers_undoSince 53 rfl) rfl rfl t11 ?_
      have hs12 : p_x s0 s9 := t11.1
      show p_Go K l m_Numbers_undoSince 99 [(4, p_i x6), (0, p_r v0), (1, p_i v1), (2, p_r v2), (3, p_i v3)] [p_i r13, p_i x6, p_r (p_R s0 v0 0)] s9 _
      obtain ⟨c14, h⟩ := p_gdE h
      obtain ⟨c15, h⟩ := p_gdE h
      refine g_iastore (dk_Numbers_undoSince 54 rfl) c14 c15.1 c15.2 ?_
      refine p_ltS (P := fun q => p_Go K l m_Numbers_undoSince 100 [(4, p_i x6), (0, p_r v0), (1, p_i v1), (2, p_r v2), (3, p_i v3)] [] q _) (p_xZ _ _ _ _) ?_ h
      intro s16 hs17 h
      refine g_sub [(0, p_r v0), (1, p_i v1), (2, p_r v2), (3, p_i v3)] [1, 2, 3, 4] rfl ?_
      exact tB_Numbers_undoSince_100 K l k67 hk67 v0 v1 v2 v3 s16 _ h
set_option maxRecDepth 100000 in
set_option maxHeartbeats 4000000 in
theorem tO_Numbers_undoSince_67 (K : p_K) (l : Launch)  : ∀ (n : Nat) (v0 : Nat) (v1 : Int) (v2 : Nat) (v3 : Int) (s0 : p_Hp) (r : p_Hp), O_Numbers_undoSince_67 n v0 v1 v2 v3 s0 = some r → p_Go K l m_Numbers_undoSince 67 [(0, p_r v0), (1, p_i v1), (2, p_r v2), (3, p_i v3)] [] s0 (none, r) := by
  intro n
  induction n with
  | zero => intro v0 v1 v2 v3 s0 r h; cases (show (none : Option p_Hp) = some r from h)
  | succ n ih => intro v0 v1 v2 v3 s0 r h; exact tL_Numbers_undoSince_67 K l _ ih v0 v1 v2 v3 s0 r h
set_option maxRecDepth 100000 in
set_option maxHeartbeats 4000000 in
theorem tL_Numbers_undoSince_7 (K : p_K) (l : Launch) (k7 : Nat → Int → Nat → Int → p_Hp → Option p_Hp) (hk7 : ∀ (v0 : Nat) (v1 : Int) (v2 : Nat) (v3 : Int)  (s0 : p_Hp) (r : p_Hp), k7 v0 v1 v2 v3 s0 = some r → p_Go K l m_Numbers_undoSince 7 [(0, p_r v0), (1, p_i v1), (2, p_r v2), (3, p_i v3)] [] s0 (none, r)) (v0 : Nat) (v1 : Int) (v2 : Nat) (v3 : Int) (s0 : p_Hp) (r : p_Hp) (h : L_Numbers_undoSince_7 k7 v0 v1 v2 v3 s0 = some r) : p_Go K l m_Numbers_undoSince 7 [(0, p_r v0), (1, p_i v1), (2, p_r v2), (3, p_i v3)] [] s0 (none, r) := by
  unfold L_Numbers_undoSince_7 at h
  refine g_iload_n (i := 3) (j := 3) (dk_Numbers_undoSince 5 rfl) rfl rfl ?_
  refine g_aload_n (i := 0) (j := 0) (dk_Numbers_undoSince 6 rfl) rfl rfl ?_
  obtain ⟨c1, h⟩ := p_gdE h
  refine g_getI fl_Numbers_15 (Or.inl rfl) (dk_Numbers_undoSince 7 rfl) c1 ?_
  refine g_icmp_gt 65 (dk_Numbers_undoSince 8 rfl) (by decide) (fun b2 => ?_) (fun b2 => ?_)
  · have h := p_ifT b2 h
    refine g_iconst (dk_Numbers_undoSince 36 rfl) (by decide) ?_
    refine g_istore_n (i := 3) [(3, p_i 1), (0, p_r v0), (1, p_i v1), (2, p_r v2)] (dk_Numbers_undoSince 37 rfl) rfl (by decide) rfl ?_
    refine g_sub [(0, p_r v0), (1, p_i v1), (2, p_r v2), (3, p_i 1)] [1, 2, 3, 0] rfl ?_
    exact tO_Numbers_undoSince_67 K l 3000 v0 v1 v2 1 s0 _ h
  · have h := p_ifF b2 h
    refine g_aload_n (i := 0) (j := 0) (dk_Numbers_undoSince 9 rfl) rfl rfl ?_
    refine g_getR fl_Numbers_9 (Or.inr ⟨_, rfl⟩) (dk_Numbers_undoSince 10 rfl) c1 ?_
    refine g_iload_n (i := 3) (j := 3) (dk_Numbers_undoSince 11 rfl) rfl rfl ?_
    obtain ⟨c3, h⟩ := p_gdE h
    obtain ⟨c4, h⟩ := p_gdE h
    refine g_iaload (dk_Numbers_undoSince 12 rfl) c3 c4.1 c4.2 ?_
    refine g_iload_n (i := 1) (j := 1) (dk_Numbers_undoSince 13 rfl) rfl rfl ?_
    obtain ⟨r9, s5, q6, h⟩ := p_bdE h
    have t7 := tF_Numbers_insideOf K l v1 s0 _ q6
    refine g_callS (av := [p_i v1]) (rest := [p_i (p_Z s0 (p_R s0 v0 0) (v3).toNat)]) [p_i r9, p_i (p_Z s0 (p_R s0 v0 0) (v3).toNat)] mt_Numbers_insideOf tw_4_7 tw_4_6 ⟨Nat.le_of_ble_eq_true rfl, Nat.le_of_ble_eq_true rfl⟩ rfl (Nat.le_of_ble_eq_true rfl) (dk_Numbers_undoSince 14 rfl) rfl rfl t7 ?_
    have hs8 : p_x s0 s5 := t7.1
    show p_Go K l m_Numbers_undoSince 25 [(0, p_r v0), (1, p_i v1), (2, p_r v2), (3, p_i v3)] [p_i r9, p_i (p_Z s0 (p_R s0 v0 0) (v3).toNat)] s5 _
    refine g_icmp_eq 51 (dk_Numbers_undoSince 15 rfl) (by decide) (fun b10 => ?_) (fun b10 => ?_)
    · have h := p_ifT b10 h
      exact tB_Numbers_undoSince_51 K l k7 hk7 v0 v1 v2 v3 s5 _ h
    · have h := p_ifF b10 h
      refine g_aload_n (i := 0) (j := 0) (dk_Numbers_undoSince 16 rfl) rfl rfl ?_
      refine g_getR fl_Numbers_9 (Or.inr ⟨_, rfl⟩) (dk_Numbers_undoSince 17 rfl) (c1.up hs8) ?_
      refine g_iload_n (i := 3) (j := 3) (dk_Numbers_undoSince 18 rfl) rfl rfl ?_
      obtain ⟨c11, h⟩ := p_gdE h
      obtain ⟨c12, h⟩ := p_gdE h
      refine g_iaload (dk_Numbers_undoSince 19 rfl) c11 c12.1 c12.2 ?_
      refine g_if_lt 59 (dk_Numbers_undoSince 20 rfl) (by decide) (fun b13 => ?_) (fun b13 => ?_)
      · have h := p_ifT b13 h
        exact tB_Numbers_undoSince_59 K l k7 hk7 v0 v1 v2 v3 s5 _ h
      · have h := p_ifF b13 h
        refine g_aload_n (i := 0) (j := 0) (dk_Numbers_undoSince 21 rfl) rfl rfl ?_
        refine g_getR fl_Numbers_9 (Or.inr ⟨_, rfl⟩) (dk_Numbers_undoSince 22 rfl) (c1.up hs8) ?_
        refine g_iload_n (i := 3) (j := 3) (dk_Numbers_undoSince 23 rfl) rfl rfl ?_
        obtain ⟨c14, h⟩ := p_gdE h
        refine g_iaload (dk_Numbers_undoSince 24 rfl) c11 c14.1 c14.2 ?_
        refine g_sipush (dk_Numbers_undoSince 25 rfl) rfl (by decide) ?_
        refine g_idiv (dk_Numbers_undoSince 26 rfl) (by decide) ?_
        refine g_iload_n (i := 1) (j := 1) (dk_Numbers_undoSince 27 rfl) rfl rfl ?_
        refine g_icmp_ne 59 (dk_Numbers_undoSince 28 rfl) (by decide) (fun b15 => ?_) (fun b15 => ?_)
        · have h := p_ifT b15 h
          exact tB_Numbers_undoSince_59 K l k7 hk7 v0 v1 v2 v3 s5 _ h
        · have h := p_ifF b15 h
          exact tB_Numbers_undoSince_51 K l k7 hk7 v0 v1 v2 v3 s5 _ h
set_option maxRecDepth 100000 in
set_option maxHeartbeats 4000000 in
theorem tO_Numbers_undoSince_7 (K : p_K) (l : Launch)  : ∀ (n : Nat) (v0 : Nat) (v1 : Int) (v2 : Nat) (v3 : Int) (s0 : p_Hp) (r : p_Hp), O_Numbers_undoSince_7 n v0 v1 v2 v3 s0 = some r → p_Go K l m_Numbers_undoSince 7 [(0, p_r v0), (1, p_i v1), (2, p_r v2), (3, p_i v3)] [] s0 (none, r) := by
  intro n
  induction n with
  | zero => intro v0 v1 v2 v3 s0 r h; cases (show (none : Option p_Hp) = some r from h)
  | succ n ih => intro v0 v1 v2 v3 s0 r h; exact tL_Numbers_undoSince_7 K l _ ih v0 v1 v2 v3 s0 r h
set_option maxRecDepth 100000 in
set_option maxHeartbeats 4000000 in
theorem tF_Numbers_undoSince (K : p_K) (l : Launch) (v0 : Nat) (v1 : Int) (v2 : Nat) (s0 : p_Hp) (r : p_Hp) (h : F_Numbers_undoSince v0 v1 v2 s0 = some r) : p_Ct K l m_Numbers_undoSince [p_r v0, p_i v1, p_r v2] s0 (none, r) := by
  refine p_Ct.of (by decide) (Nat.le_of_ble_eq_true rfl) ?_
  unfold F_Numbers_undoSince at h
  show p_Go K l m_Numbers_undoSince 0 [(0, p_r v0), (1, p_i v1), (2, p_r v2)] [] s0 _
  refine g_aload_n (i := 2) (j := 2) (dk_Numbers_undoSince 0 rfl) rfl rfl ?_
  obtain ⟨c1, h⟩ := p_gdE h
  refine g_getI fl_Numbers_23 (Or.inl rfl) (dk_Numbers_undoSince 1 rfl) c1 ?_
  refine g_iconst (dk_Numbers_undoSince 2 rfl) (by decide) ?_
  refine g_iadd (dk_Numbers_undoSince 3 rfl) ?_
  refine g_istore_n (i := 3) [(3, p_i (p_w ((p_Z s0 v2 3) + 1))), (0, p_r v0), (1, p_i v1), (2, p_r v2)] (dk_Numbers_undoSince 4 rfl) rfl (by decide) rfl ?_
  refine p_ltG (P := fun q => p_Go K l m_Numbers_undoSince 7 [(3, p_i q), (0, p_r v0), (1, p_i v1), (2, p_r v2)] [] s0 _) ?_ h
  intro x2 h
  refine g_sub [(0, p_r v0), (1, p_i v1), (2, p_r v2), (3, p_i x2)] [1, 2, 3, 0] rfl ?_
  exact tO_Numbers_undoSince_7 K l 3000 v0 v1 v2 x2 s0 _ h
def m_Ma_floorMod : p_Me := (⟨"java/lang/Math", "floorMod", "(II)I"⟩, prog_16_method_50_code, 3, (some .int), 0, 0)
theorem mt_Ma_floorMod : p_Mt m_Ma_floorMod 2 := ⟨p_mem (p_tb5 (List.mem_of_getElem? (i := 105) rfl)) rfl, tw_1_14, by decide +kernel, by decide +kernel, by decide +kernel⟩
def dt_Ma_floorMod : List (Nat × Instr × Nat) := [(0, .iload_n 0, 1), (1, .iload_n 1, 1), (2, .irem, 1), (3, .istore_n 2, 1), (4, .iload_n 0, 1), (5, .iload_n 1, 1), (6, .ixor, 1), (7, .ifCond .ge 11, 3), (10, .iload_n 2, 1), (11, .ifCond .eq 7, 3), (14, .iload_n 2, 1), (15, .iload_n 1, 1), (16, .iadd, 1), (17, .ireturn, 1), (18, .iload_n 2, 1), (19, .ireturn, 1)]
theorem dk_Ma_floorMod (i : Nat) {pc : Nat} {ins : Instr} {len : Nat} (h : dt_Ma_floorMod[i]? = some (pc, ins, len)) : decode m_Ma_floorMod.2.1 pc = .ok (ins, len) := p_dk (b := m_Ma_floorMod.2.1) (t := dt_Ma_floorMod) (by decide +kernel) i h
def F_Ma_floorMod (v0 : Int) (v1 : Int) (s0 : p_Hp) : Option (Int × p_Hp) :=
  p_gd (v1 ≠ 0) <|
  p_bi ((p_rem v0 v1)) fun x2 =>
  if 0 ≤ (p_xor v0 v1) then
    some (x2, s0)
  else
    if x2 = 0 then
      some (x2, s0)
    else
      some ((p_w (x2 + v1)), s0)
set_option maxRecDepth 100000 in
set_option maxHeartbeats 4000000 in
theorem tF_Ma_floorMod (K : p_K) (l : Launch) (v0 : Int) (v1 : Int) (s0 : p_Hp) (r : (Int × p_Hp)) (h : F_Ma_floorMod v0 v1 s0 = some r) : p_Ct K l m_Ma_floorMod [p_i v0, p_i v1] s0 (some (p_i r.1), r.2) := by
  refine p_Ct.of (by decide) (Nat.le_of_ble_eq_true rfl) ?_
  unfold F_Ma_floorMod at h
  show p_Go K l m_Ma_floorMod 0 [(0, p_i v0), (1, p_i v1)] [] s0 _
  refine g_iload_n (i := 0) (j := 0) (dk_Ma_floorMod 0 rfl) rfl rfl ?_
  refine g_iload_n (i := 1) (j := 1) (dk_Ma_floorMod 1 rfl) rfl rfl ?_
  obtain ⟨c1, h⟩ := p_gdE h
  refine g_irem (dk_Ma_floorMod 2 rfl) c1 ?_
  refine g_istore_n (i := 2) [(2, p_i (p_rem v0 v1)), (0, p_i v0), (1, p_i v1)] (dk_Ma_floorMod 3 rfl) rfl (by decide) rfl ?_
  refine p_ltG (P := fun q => p_Go K l m_Ma_floorMod 4 [(2, p_i q), (0, p_i v0), (1, p_i v1)] [] s0 _) ?_ h
  intro x2 h
  refine g_iload_n (i := 0) (j := 1) (dk_Ma_floorMod 4 rfl) rfl rfl ?_
  refine g_iload_n (i := 1) (j := 2) (dk_Ma_floorMod 5 rfl) rfl rfl ?_
  refine g_ixor (dk_Ma_floorMod 6 rfl) ?_
  refine g_if_ge 18 (dk_Ma_floorMod 7 rfl) (by decide) (fun b3 => ?_) (fun b3 => ?_)
  · have h := p_ifT b3 h
    refine g_iload_n (i := 2) (j := 0) (dk_Ma_floorMod 14 rfl) rfl rfl ?_
    cases h
    exact g_ret rfl rfl (dk_Ma_floorMod 15 rfl) (fun os => ⟨_, rfl, p_okh os⟩)
  · have h := p_ifF b3 h
    refine g_iload_n (i := 2) (j := 0) (dk_Ma_floorMod 8 rfl) rfl rfl ?_
    refine g_if_eq 18 (dk_Ma_floorMod 9 rfl) (by decide) (fun b4 => ?_) (fun b4 => ?_)
    · have h := p_ifT b4 h
      refine g_iload_n (i := 2) (j := 0) (dk_Ma_floorMod 14 rfl) rfl rfl ?_
      cases h
      exact g_ret rfl rfl (dk_Ma_floorMod 15 rfl) (fun os => ⟨_, rfl, p_okh os⟩)
    · have h := p_ifF b4 h
      refine g_iload_n (i := 2) (j := 0) (dk_Ma_floorMod 10 rfl) rfl rfl ?_
      refine g_iload_n (i := 1) (j := 2) (dk_Ma_floorMod 11 rfl) rfl rfl ?_
      refine g_iadd (dk_Ma_floorMod 12 rfl) ?_
      cases h
      exact g_ret rfl rfl (dk_Ma_floorMod 13 rfl) (fun os => ⟨_, rfl, p_okh os⟩)
def m_Works_goBack : p_Me := (⟨"SortWorks$Works", "goBack", "(I)V"⟩, prog_11_method_7_code, 2, none, 3, 104)
theorem mt_Works_goBack : p_Mt m_Works_goBack 1 := ⟨p_mem (p_tb5 (List.mem_of_getElem? (i := 102) rfl)) rfl, tw_1_2, by decide +kernel, by decide +kernel, by decide +kernel⟩
def dt_Works_goBack : List (Nat × Instr × Nat) := [(0, .aload_n 0, 1), (1, .aload_n 0, 1), (2, .getfield 95, 3), (5, .iload_n 1, 1), (6, .isub, 1), (7, .bipush 30, 2), (9, .invokestatic 113, 3), (12, .putfield 95, 3), (15, .aload_n 0, 1), (16, .dup, 1), (17, .getfield 104, 3), (20, .iload_n 1, 1), (21, .isub, 1), (22, .putfield 104, 3), (25, .aload_n 0, 1), (26, .iconst 0, 1), (27, .putfield 116, 3), (30, .aload_n 0, 1), (31, .getfield 46, 3), (34, .aload_n 0, 1), (35, .getfield 95, 3), (38, .aaload, 1), (39, .ifnull 23, 3), (42, .aload_n 0, 1), (43, .getfield 12, 3), (46, .aload_n 0, 1), (47, .getfield 46, 3), (50, .aload_n 0, 1), (51, .getfield 95, 3), (54, .aaload, 1), (55, .aload_n 0, 1), (56, .getfield 57, 3), (59, .invokevirtual 101, 3), (62, .return_, 1)]
theorem dk_Works_goBack (i : Nat) {pc : Nat} {ins : Instr} {len : Nat} (h : dt_Works_goBack[i]? = some (pc, ins, len)) : decode m_Works_goBack.2.1 pc = .ok (ins, len) := p_dk (b := m_Works_goBack.2.1) (t := dt_Works_goBack) (by decide +kernel) i h
def F_Works_goBack (v0 : Nat) (v1 : Int) (s0 : p_Hp) : Option p_Hp :=
  p_gd (p_is s0 v0 9) <|
  p_bd (F_Ma_floorMod (p_w ((p_Z s0 v0 13) - v1)) 30 s0) fun r6 s2 =>
  p_bi (p_wZ s2 v0 13 r6) fun s7 =>
  p_bi (p_wZ s7 v0 14 (p_w ((p_Z s7 v0 14) - v1))) fun s9 =>
  p_bi (p_wZ s9 v0 11 0) fun s11 =>
  p_gd (p_is s11 (p_R s11 v0 12) 105) <|
  p_gd (0 ≤ (p_Z s11 v0 13) ∧ (p_Z s11 v0 13) < (p_L s11 (p_R s11 v0 12) : Int)) <|
  if (p_R s11 (p_R s11 v0 12) ((p_Z s11 v0 13)).toNat) = 0 then
    some s11
  else
    p_gd (0 ≤ (p_Z s11 v0 13) ∧ (p_Z s11 v0 13) < (p_L s11 (p_R s11 v0 12) : Int)) <|
    p_gd (p_is s11 (p_R s11 v0 1) 7) <|
    p_bv (F_State_becomeAs (p_R s11 v0 1) (p_R s11 (p_R s11 v0 12) ((p_Z s11 v0 13)).toNat) (p_Z s11 v0 2) s11) fun s18 =>
    some s18
set_option maxRecDepth 100000 in
set_option maxHeartbeats 4000000 in
theorem tF_Works_goBack (K : p_K) (l : Launch) (v0 : Nat) (v1 : Int) (s0 : p_Hp) (r : p_Hp) (h : F_Works_goBack v0 v1 s0 = some r) : p_Ct K l m_Works_goBack [p_r v0, p_i v1] s0 (none, r) := by
  refine p_Ct.of (by decide) (Nat.le_of_ble_eq_true rfl) ?_
  unfold F_Works_goBack at h
  show p_Go K l m_Works_goBack 0 [(0, p_r v0), (1, p_i v1)] [] s0 _
  refine g_aload_n (i := 0) (j := 0) (dk_Works_goBack 0 rfl) rfl rfl ?_
  refine g_aload_n (i := 0) (j := 0) (dk_Works_goBack 1 rfl) rfl rfl ?_
  obtain ⟨c1, h⟩ := p_gdE h
  refine g_getI fl_Works_95 (Or.inl rfl) (dk_Works_goBack 2 rfl) c1 ?_
  refine g_iload_n (i := 1) (j := 1) (dk_Works_goBack 3 rfl) rfl rfl ?_
  refine g_isub (dk_Works_goBack 4 rfl) ?_
  refine g_bipush (dk_Works_goBack 5 rfl) rfl (by decide) ?_
  obtain ⟨r6, s2, q3, h⟩ := p_bdE h
  have t4 := tF_Ma_floorMod K l (p_w ((p_Z s0 v0 13) - v1)) 30 s0 _ q3
  refine g_callS (av := [p_i (p_w ((p_Z s0 v0 13) - v1)), p_i 30]) (rest := [p_r v0]) [p_i r6, p_r v0] mt_Ma_floorMod tw_5_104 tw_5_103 ⟨Nat.le_of_ble_eq_true rfl, Nat.le_of_ble_eq_true rfl⟩ rfl (Nat.le_of_ble_eq_true rfl) (dk_Works_goBack 6 rfl) rfl rfl t4 ?_
  have hs5 : p_x s0 s2 := t4.1
  show p_Go K l m_Works_goBack 12 [(0, p_r v0), (1, p_i v1)] [p_i r6, p_r v0] s2 _
  refine g_putI fl_Works_95 (Or.inl rfl) (dk_Works_goBack 7 rfl) (c1.up hs5) ?_
  refine p_ltS (P := fun q => p_Go K l m_Works_goBack 15 [(0, p_r v0), (1, p_i v1)] [] q _) (p_xZ _ _ _ _) ?_ h
  intro s7 hs8 h
  refine g_aload_n (i := 0) (j := 0) (dk_Works_goBack 8 rfl) rfl rfl ?_
  refine g_dup (dk_Works_goBack 9 rfl) rfl ?_
  refine g_getI fl_Works_104 (Or.inl rfl) (dk_Works_goBack 10 rfl) (c1.up (hs5.trans hs8)) ?_
  refine g_iload_n (i := 1) (j := 1) (dk_Works_goBack 11 rfl) rfl rfl ?_
  refine g_isub (dk_Works_goBack 12 rfl) ?_
  refine g_putI fl_Works_104 (Or.inl rfl) (dk_Works_goBack 13 rfl) (c1.up (hs5.trans hs8)) ?_
  refine p_ltS (P := fun q => p_Go K l m_Works_goBack 25 [(0, p_r v0), (1, p_i v1)] [] q _) (p_xZ _ _ _ _) ?_ h
  intro s9 hs10 h
  refine g_aload_n (i := 0) (j := 0) (dk_Works_goBack 14 rfl) rfl rfl ?_
  refine g_iconst (dk_Works_goBack 15 rfl) (by decide) ?_
  refine g_putI fl_Works_116 (Or.inl rfl) (dk_Works_goBack 16 rfl) (c1.up (hs5.trans (hs8.trans hs10))) ?_
  refine p_ltS (P := fun q => p_Go K l m_Works_goBack 30 [(0, p_r v0), (1, p_i v1)] [] q _) (p_xZ _ _ _ _) ?_ h
  intro s11 hs12 h
  refine g_aload_n (i := 0) (j := 0) (dk_Works_goBack 17 rfl) rfl rfl ?_
  refine g_getR fl_Works_46 (Or.inr ⟨_, rfl⟩) (dk_Works_goBack 18 rfl) (c1.up (hs5.trans (hs8.trans (hs10.trans hs12)))) ?_
  refine g_aload_n (i := 0) (j := 0) (dk_Works_goBack 19 rfl) rfl rfl ?_
  refine g_getI fl_Works_95 (Or.inl rfl) (dk_Works_goBack 20 rfl) (c1.up (hs5.trans (hs8.trans (hs10.trans hs12)))) ?_
  obtain ⟨c13, h⟩ := p_gdE h
  obtain ⟨c14, h⟩ := p_gdE h
  refine g_aaload (i := 5) rfl (Or.inl ⟨_, rfl⟩) (dk_Works_goBack 21 rfl) c13 c14.1 c14.2 ?_
  refine g_ifnull 62 (dk_Works_goBack 22 rfl) (by decide) (fun b15 => ?_) (fun b15 => ?_)
  · have h := p_ifT b15 h
    cases h
    exact g_ret rfl rfl (dk_Works_goBack 33 rfl) (fun _ => rfl)
  · have h := p_ifF b15 h
    refine g_aload_n (i := 0) (j := 0) (dk_Works_goBack 23 rfl) rfl rfl ?_
    refine g_getR fl_Works_12 (Or.inl ⟨_, rfl⟩) (dk_Works_goBack 24 rfl) (c1.up (hs5.trans (hs8.trans (hs10.trans hs12)))) ?_
    refine g_aload_n (i := 0) (j := 0) (dk_Works_goBack 25 rfl) rfl rfl ?_
    refine g_getR fl_Works_46 (Or.inr ⟨_, rfl⟩) (dk_Works_goBack 26 rfl) (c1.up (hs5.trans (hs8.trans (hs10.trans hs12)))) ?_
    refine g_aload_n (i := 0) (j := 0) (dk_Works_goBack 27 rfl) rfl rfl ?_
    refine g_getI fl_Works_95 (Or.inl rfl) (dk_Works_goBack 28 rfl) (c1.up (hs5.trans (hs8.trans (hs10.trans hs12)))) ?_
    obtain ⟨c16, h⟩ := p_gdE h
    refine g_aaload (i := 5) rfl (Or.inl ⟨_, rfl⟩) (dk_Works_goBack 29 rfl) c13 c16.1 c16.2 ?_
    refine g_aload_n (i := 0) (j := 0) (dk_Works_goBack 30 rfl) rfl rfl ?_
    refine g_getI fl_Works_57 (Or.inl rfl) (dk_Works_goBack 31 rfl) (c1.up (hs5.trans (hs8.trans (hs10.trans hs12)))) ?_
    obtain ⟨c17, h⟩ := p_gdE h
    obtain ⟨s18, q19, h⟩ := p_bvE h
    have t20 := tF_State_becomeAs K l (p_R s11 v0 1) (p_R s11 (p_R s11 v0 12) ((p_Z s11 v0 13)).toNat) (p_Z s11 v0 2) s11 _ q19
    refine g_callV (a := (p_R s11 v0 1)) (ci := 7) (q0 := (RX7, TX7, 9)) (As := [p_r (p_R s11 (p_R s11 v0 12) ((p_Z s11 v0 13)).toNat), p_i (p_Z s11 v0 2)]) (rest := []) [] mt_State_becomeAs rfl rfl tw_4_136 tw_4_137 tw_4_135 ⟨Nat.le_of_ble_eq_true rfl, Nat.le_of_ble_eq_true rfl⟩ rfl (Nat.le_of_ble_eq_true rfl) (dk_Works_goBack 32 rfl) rfl c17 rfl t20 ?_
    have hs21 : p_x s11 s18 := t20.1
    show p_Go K l m_Works_goBack 62 [(0, p_r v0), (1, p_i v1)] [] s18 _
    cases h
    exact g_ret rfl rfl (dk_Works_goBack 33 rfl) (fun _ => rfl)
def m_SW_back : p_Me := (⟨"SortWorks", "back", "(I)I"⟩, prog_1_method_33_code, 2, (some .int), 4, 125)
theorem mt_SW_back : p_Mt m_SW_back 1 := ⟨p_mem (p_tb5 (List.mem_of_getElem? (i := 98) rfl)) rfl, tw_1_1, by decide +kernel, by decide +kernel, by decide +kernel⟩
def dt_SW_back : List (Nat × Instr × Nat) := [(0, .iload_n 1, 1), (1, .iconst 1, 1), (2, .if_icmp .lt 9, 3), (5, .iload_n 1, 1), (6, .bipush 30, 2), (8, .if_icmp .le 10, 3), (11, .aload_n 0, 1), (12, .bipush (-2), 2), (14, .invokevirtual 61, 3), (17, .ireturn, 1), (18, .iload_n 1, 1), (19, .aload_n 0, 1), (20, .getfield 18, 3), (23, .getfield 288, 3), (26, .if_icmp .le 10, 3), (29, .aload_n 0, 1), (30, .bipush (-3), 2), (32, .invokevirtual 61, 3), (35, .ireturn, 1), (36, .aload_n 0, 1), (37, .getfield 18, 3), (40, .iload_n 1, 1), (41, .invokevirtual 291, 3), (44, .aload_n 0, 1), (45, .getfield 25, 3), (48, .aload_n 0, 1), (49, .getfield 18, 3), (52, .getfield 64, 3), (55, .aload_n 0, 1), (56, .getfield 18, 3), (59, .getfield 77, 3), (62, .invokevirtual 294, 3), (65, .aload_n 0, 1), (66, .aload_n 0, 1), (67, .getfield 18, 3), (70, .getfield 77, 3), (73, .getfield 274, 3), (76, .invokevirtual 57, 3), (79, .ireturn, 1)]
theorem dk_SW_back (i : Nat) {pc : Nat} {ins : Instr} {len : Nat} (h : dt_SW_back[i]? = some (pc, ins, len)) : decode m_SW_back.2.1 pc = .ok (ins, len) := p_dk (b := m_SW_back.2.1) (t := dt_SW_back) (by decide +kernel) i h
def B_SW_back_11  (v0 : Nat) (s0 : p_Hp) : Option (Int × p_Hp) :=
  p_gd (p_is s0 v0 10) <|
  p_bd (F_SW_refuse v0 (-2) s0) fun r6 s2 =>
  some (r6, s2)
def F_SW_back (v0 : Nat) (v1 : Int) (s0 : p_Hp) : Option (Int × p_Hp) :=
  if v1 < 1 then
    B_SW_back_11 v0 s0
  else
    if v1 ≤ 30 then
      p_gd (p_is s0 v0 10) <|
      p_gd (p_is s0 (p_R s0 v0 1) 9) <|
      if v1 ≤ (p_Z s0 (p_R s0 v0 1) 14) then
        p_bv (F_Works_goBack (p_R s0 v0 1) v1 s0) fun s6 =>
        p_gd (p_is s6 (p_R s6 v0 1) 9) <|
        p_gd (p_is s6 (p_R s6 v0 2) 3) <|
        p_bv (F_Numbers_undoSince (p_R s6 v0 2) (p_Z s6 (p_R s6 v0 1) 0) (p_R s6 (p_R s6 v0 1) 1) s6) fun s12 =>
        p_gd (p_is s12 (p_R s12 v0 1) 9) <|
        p_gd (p_is s12 (p_R s12 (p_R s12 v0 1) 1) 7) <|
        p_bd (F_SW_done v0 (p_Z s12 (p_R s12 (p_R s12 v0 1) 1) 0) s12) fun r22 s18 =>
        some (r22, s18)
      else
        p_bd (F_SW_refuse v0 (-3) s0) fun r27 s23 =>
        some (r27, s23)
    else
      B_SW_back_11 v0 s0
set_option maxRecDepth 100000 in
set_option maxHeartbeats 4000000 in
theorem tB_SW_back_11 (K : p_K) (l : Launch)  (v0 : Nat) (s0 : p_Hp) (r : (Int × p_Hp)) (h : B_SW_back_11 v0 s0 = some r) : p_Go K l m_SW_back 11 [(0, p_r v0)] [] s0 (some (p_i r.1), r.2) := by
  unfold B_SW_back_11 at h
  refine g_aload_n (i := 0) (j := 0) (dk_SW_back 6 rfl) rfl rfl ?_
  refine g_bipush (dk_SW_back 7 rfl) rfl (by decide) ?_
  obtain ⟨c1, h⟩ := p_gdE h
  obtain ⟨r6, s2, q3, h⟩ := p_bdE h
  have t4 := tF_SW_refuse K l v0 (-2) s0 _ q3
  refine g_callV (a := v0) (ci := 10) (q0 := (RX10, TX10, 9)) (As := [p_i (-2)]) (rest := []) [p_i r6] mt_SW_refuse rfl rfl tw_3_52 ts_0 tw_3_50 ⟨Nat.le_of_ble_eq_true rfl, Nat.le_of_ble_eq_true rfl⟩ rfl (Nat.le_of_ble_eq_true rfl) (dk_SW_back 8 rfl) rfl c1 rfl t4 ?_
  have hs5 : p_x s0 s2 := t4.1
  show p_Go K l m_SW_back 17 [(0, p_r v0)] [p_i r6] s2 _
  cases h
  exact g_ret rfl rfl (dk_SW_back 9 rfl) (fun os => ⟨_, rfl, p_okh os⟩)
set_option maxRecDepth 100000 in
set_option maxHeartbeats 4000000 in
theorem tF_SW_back (K : p_K) (l : Launch) (v0 : Nat) (v1 : Int) (s0 : p_Hp) (r : (Int × p_Hp)) (h : F_SW_back v0 v1 s0 = some r) : p_Ct K l m_SW_back [p_r v0, p_i v1] s0 (some (p_i r.1), r.2) := by
  refine p_Ct.of (by decide) (Nat.le_of_ble_eq_true rfl) ?_
  unfold F_SW_back at h
  show p_Go K l m_SW_back 0 [(0, p_r v0), (1, p_i v1)] [] s0 _
  refine g_iload_n (i := 1) (j := 1) (dk_SW_back 0 rfl) rfl rfl ?_
  refine g_iconst (dk_SW_back 1 rfl) (by decide) ?_
  refine g_icmp_lt 11 (dk_SW_back 2 rfl) (by decide) (fun b1 => ?_) (fun b1 => ?_)
  · have h := p_ifT b1 h
    refine g_sub [(0, p_r v0)] [0] rfl ?_
    exact tB_SW_back_11 K l v0 s0 _ h
  · have h := p_ifF b1 h
    refine g_iload_n (i := 1) (j := 1) (dk_SW_back 3 rfl) rfl rfl ?_
    refine g_bipush (dk_SW_back 4 rfl) rfl (by decide) ?_
    refine g_icmp_le 18 (dk_SW_back 5 rfl) (by decide) (fun b2 => ?_) (fun b2 => ?_)
    · have h := p_ifT b2 h
      refine g_iload_n (i := 1) (j := 1) (dk_SW_back 10 rfl) rfl rfl ?_
      refine g_aload_n (i := 0) (j := 0) (dk_SW_back 11 rfl) rfl rfl ?_
      obtain ⟨c3, h⟩ := p_gdE h
      refine g_getR fl_SW_18 (Or.inl ⟨_, rfl⟩) (dk_SW_back 12 rfl) c3 ?_
      obtain ⟨c4, h⟩ := p_gdE h
      refine g_getI fl_SW_288 (Or.inl rfl) (dk_SW_back 13 rfl) c4 ?_
      refine g_icmp_le 36 (dk_SW_back 14 rfl) (by decide) (fun b5 => ?_) (fun b5 => ?_)
      · have h := p_ifT b5 h
        refine g_aload_n (i := 0) (j := 0) (dk_SW_back 19 rfl) rfl rfl ?_
        refine g_getR fl_SW_18 (Or.inl ⟨_, rfl⟩) (dk_SW_back 20 rfl) c3 ?_
        refine g_iload_n (i := 1) (j := 1) (dk_SW_back 21 rfl) rfl rfl ?_
        obtain ⟨s6, q7, h⟩ := p_bvE h
        have t8 := tF_Works_goBack K l (p_R s0 v0 1) v1 s0 _ q7
        refine g_callV (a := (p_R s0 v0 1)) (ci := 9) (q0 := (RX9, TX9, 16)) (As := [p_i v1]) (rest := []) [] mt_Works_goBack rfl rfl tw_5_100 tw_5_101 tw_5_99 ⟨Nat.le_of_ble_eq_true rfl, Nat.le_of_ble_eq_true rfl⟩ rfl (Nat.le_of_ble_eq_true rfl) (dk_SW_back 22 rfl) rfl c4 rfl t8 ?_
        have hs9 : p_x s0 s6 := t8.1
        show p_Go K l m_SW_back 44 [(0, p_r v0), (1, p_i v1)] [] s6 _
        refine g_aload_n (i := 0) (j := 0) (dk_SW_back 23 rfl) rfl rfl ?_
        refine g_getR fl_SW_25 (Or.inl ⟨_, rfl⟩) (dk_SW_back 24 rfl) (c3.up hs9) ?_
        refine g_aload_n (i := 0) (j := 0) (dk_SW_back 25 rfl) rfl rfl ?_
        refine g_getR fl_SW_18 (Or.inl ⟨_, rfl⟩) (dk_SW_back 26 rfl) (c3.up hs9) ?_
        obtain ⟨c10, h⟩ := p_gdE h
        refine g_getI fl_SW_64 (Or.inl rfl) (dk_SW_back 27 rfl) c10 ?_
        refine g_aload_n (i := 0) (j := 0) (dk_SW_back 28 rfl) rfl rfl ?_
        refine g_getR fl_SW_18 (Or.inl ⟨_, rfl⟩) (dk_SW_back 29 rfl) (c3.up hs9) ?_
        refine g_getR fl_SW_77 (Or.inl ⟨_, rfl⟩) (dk_SW_back 30 rfl) c10 ?_
        obtain ⟨c11, h⟩ := p_gdE h
        obtain ⟨s12, q13, h⟩ := p_bvE h
        have t14 := tF_Numbers_undoSince K l (p_R s6 v0 2) (p_Z s6 (p_R s6 v0 1) 0) (p_R s6 (p_R s6 v0 1) 1) s6 _ q13
        refine g_callV (a := (p_R s6 v0 2)) (ci := 3) (q0 := (RX3, TX3, 2)) (As := [p_i (p_Z s6 (p_R s6 v0 1) 0), p_r (p_R s6 (p_R s6 v0 1) 1)]) (rest := []) [] mt_Numbers_undoSince rfl rfl tw_5_107 tw_5_108 tw_5_106 ⟨Nat.le_of_ble_eq_true rfl, Nat.le_of_ble_eq_true rfl⟩ rfl (Nat.le_of_ble_eq_true rfl) (dk_SW_back 31 rfl) rfl c11 rfl t14 ?_
        have hs15 : p_x s6 s12 := t14.1
        show p_Go K l m_SW_back 65 [(0, p_r v0), (1, p_i v1)] [] s12 _
        refine g_aload_n (i := 0) (j := 0) (dk_SW_back 32 rfl) rfl rfl ?_
        refine g_aload_n (i := 0) (j := 0) (dk_SW_back 33 rfl) rfl rfl ?_
        refine g_getR fl_SW_18 (Or.inl ⟨_, rfl⟩) (dk_SW_back 34 rfl) (c3.up (hs9.trans hs15)) ?_
        obtain ⟨c16, h⟩ := p_gdE h
        refine g_getR fl_SW_77 (Or.inl ⟨_, rfl⟩) (dk_SW_back 35 rfl) c16 ?_
        obtain ⟨c17, h⟩ := p_gdE h
        refine g_getI fl_SW_274 (Or.inl rfl) (dk_SW_back 36 rfl) c17 ?_
        obtain ⟨r22, s18, q19, h⟩ := p_bdE h
        have t20 := tF_SW_done K l v0 (p_Z s12 (p_R s12 (p_R s12 v0 1) 1) 0) s12 _ q19
        refine g_callV (a := v0) (ci := 10) (q0 := (RX10, TX10, 9)) (As := [p_i (p_Z s12 (p_R s12 (p_R s12 v0 1) 1) 0)]) (rest := []) [p_i r22] mt_SW_done rfl rfl tw_3_56 ts_1 tw_3_54 ⟨Nat.le_of_ble_eq_true rfl, Nat.le_of_ble_eq_true rfl⟩ rfl (Nat.le_of_ble_eq_true rfl) (dk_SW_back 37 rfl) rfl (c3.up (hs9.trans hs15)) rfl t20 ?_
        have hs21 : p_x s12 s18 := t20.1
        show p_Go K l m_SW_back 79 [(0, p_r v0), (1, p_i v1)] [p_i r22] s18 _
        cases h
        exact g_ret rfl rfl (dk_SW_back 38 rfl) (fun os => ⟨_, rfl, p_okh os⟩)
      · have h := p_ifF b5 h
        refine g_aload_n (i := 0) (j := 0) (dk_SW_back 15 rfl) rfl rfl ?_
        refine g_bipush (dk_SW_back 16 rfl) rfl (by decide) ?_
        obtain ⟨r27, s23, q24, h⟩ := p_bdE h
        have t25 := tF_SW_refuse K l v0 (-3) s0 _ q24
        refine g_callV (a := v0) (ci := 10) (q0 := (RX10, TX10, 9)) (As := [p_i (-3)]) (rest := []) [p_i r27] mt_SW_refuse rfl rfl tw_3_52 ts_0 tw_3_50 ⟨Nat.le_of_ble_eq_true rfl, Nat.le_of_ble_eq_true rfl⟩ rfl (Nat.le_of_ble_eq_true rfl) (dk_SW_back 17 rfl) rfl c3 rfl t25 ?_
        have hs26 : p_x s0 s23 := t25.1
        show p_Go K l m_SW_back 35 [(0, p_r v0), (1, p_i v1)] [p_i r27] s23 _
        cases h
        exact g_ret rfl rfl (dk_SW_back 18 rfl) (fun os => ⟨_, rfl, p_okh os⟩)
    · have h := p_ifF b2 h
      refine g_sub [(0, p_r v0)] [0] rfl ?_
      exact tB_SW_back_11 K l v0 s0 _ h
def m_SW_status : p_Me := (⟨"SortWorks", "status", "()I"⟩, prog_1_method_34_code, 1, (some .int), 0, 0)
theorem mt_SW_status : p_Mt m_SW_status 0 := ⟨p_mem (p_tb5 (List.mem_of_getElem? (i := 113) rfl)) rfl, tw_1_1, by decide +kernel, by decide +kernel, by decide +kernel⟩
def dt_SW_status : List (Nat × Instr × Nat) := [(0, .aload_n 0, 1), (1, .getfield 51, 3), (4, .ireturn, 1)]
theorem dk_SW_status (i : Nat) {pc : Nat} {ins : Instr} {len : Nat} (h : dt_SW_status[i]? = some (pc, ins, len)) : decode m_SW_status.2.1 pc = .ok (ins, len) := p_dk (b := m_SW_status.2.1) (t := dt_SW_status) (by decide +kernel) i h
def F_SW_status (v0 : Nat) (s0 : p_Hp) : Option (Int × p_Hp) :=
  p_gd (p_is s0 v0 10) <|
  some ((p_Z s0 v0 8), s0)
set_option maxRecDepth 100000 in
set_option maxHeartbeats 4000000 in
theorem tF_SW_status (K : p_K) (l : Launch) (v0 : Nat) (s0 : p_Hp) (r : (Int × p_Hp)) (h : F_SW_status v0 s0 = some r) : p_Ct K l m_SW_status [p_r v0] s0 (some (p_i r.1), r.2) := by
  refine p_Ct.of (by decide) (Nat.le_of_ble_eq_true rfl) ?_
  unfold F_SW_status at h
  show p_Go K l m_SW_status 0 [(0, p_r v0)] [] s0 _
  refine g_aload_n (i := 0) (j := 0) (dk_SW_status 0 rfl) rfl rfl ?_
  obtain ⟨c1, h⟩ := p_gdE h
  refine g_getI fl_SW_51 (Or.inl rfl) (dk_SW_status 1 rfl) c1 ?_
  cases h
  exact g_ret rfl rfl (dk_SW_status 2 rfl) (fun os => ⟨_, rfl, p_okh os⟩)
def m_Gear_tell : p_Me := (⟨"SortWorks$Gear", "tell", "(I)I"⟩, prog_2_method_21_code, 2, (some .int), 1, 22)
theorem mt_Gear_tell : p_Mt m_Gear_tell 1 := ⟨p_mem (p_tb5 (List.mem_of_getElem? (i := 121) rfl)) rfl, tw_1_5, by decide +kernel, by decide +kernel, by decide +kernel⟩
def dt_Gear_tell : List (Nat × Instr × Nat) := [(0, .iload_n 1, 1), (1, .tableswitch 198 0 15 #[79, 84, 89, 114, 119, 124, 129, 134, 139, 144, 149, 154, 159, 168, 175, 180], 79), (80, .aload_n 0, 1), (81, .getfield 22, 3), (84, .ireturn, 1), (85, .aload_n 0, 1), (86, .getfield 73, 3), (89, .ireturn, 1), (90, .aload_n 0, 1), (91, .getfield 22, 3), (94, .bipush 9, 2), (96, .if_icmp .ne 14, 3), (99, .aload_n 0, 1), (100, .getfield 41, 3), (103, .ifCond .eq 7, 3), (106, .iconst 1, 1), (107, .goto 7, 3), (110, .aload_n 0, 1), (111, .getfield 38, 3), (114, .ireturn, 1), (115, .aload_n 0, 1), (116, .getfield 45, 3), (119, .ireturn, 1), (120, .aload_n 0, 1), (121, .getfield 48, 3), (124, .ireturn, 1), (125, .aload_n 0, 1), (126, .getfield 51, 3), (129, .ireturn, 1), (130, .aload_n 0, 1), (131, .getfield 54, 3), (134, .ireturn, 1), (135, .aload_n 0, 1), (136, .getfield 57, 3), (139, .ireturn, 1), (140, .aload_n 0, 1), (141, .getfield 60, 3), (144, .ireturn, 1), (145, .aload_n 0, 1), (146, .invokevirtual 120, 3), (149, .ireturn, 1), (150, .aload_n 0, 1), (151, .getfield 63, 3), (154, .ireturn, 1), (155, .aload_n 0, 1), (156, .getfield 28, 3), (159, .ireturn, 1), (160, .getstatic 124, 3), (163, .aload_n 0, 1), (164, .getfield 22, 3), (167, .iaload, 1), (168, .ireturn, 1), (169, .aload_n 0, 1), (170, .getfield 9, 3), (173, .iconst 1, 1), (174, .iadd, 1), (175, .ireturn, 1), (176, .aload_n 0, 1), (177, .getfield 66, 3), (180, .ireturn, 1), (181, .aload_n 0, 1), (182, .getfield 76, 3), (185, .ifnonnull 8, 3), (188, .bipush (-9), 2), (190, .goto 8, 3), (193, .aload_n 0, 1), (194, .getfield 76, 3), (197, .arraylength, 1), (198, .ireturn, 1), (199, .bipush (-2), 2), (201, .ireturn, 1)]
theorem dk_Gear_tell (i : Nat) {pc : Nat} {ins : Instr} {len : Nat} (h : dt_Gear_tell[i]? = some (pc, ins, len)) : decode m_Gear_tell.2.1 pc = .ok (ins, len) := p_dk (b := m_Gear_tell.2.1) (t := dt_Gear_tell) (by decide +kernel) i h
def F_Gear_tell (v0 : Nat) (v1 : Int) (s0 : p_Hp) : Option (Int × p_Hp) :=
  if v1 = 0 then
    p_gd (p_is s0 v0 0) <|
    some ((p_Z s0 v0 0), s0)
  else if v1 = 1 then
    p_gd (p_is s0 v0 0) <|
    some ((p_Z s0 v0 1), s0)
  else if v1 = 2 then
    p_gd (p_is s0 v0 0) <|
    if (p_Z s0 v0 0) ≠ 9 then
      some ((p_Z s0 v0 6), s0)
    else
      if (p_Z s0 v0 7) = 0 then
        some ((p_Z s0 v0 6), s0)
      else
        some (1, s0)
  else if v1 = 3 then
    p_gd (p_is s0 v0 0) <|
    some ((p_Z s0 v0 8), s0)
  else if v1 = 4 then
    p_gd (p_is s0 v0 0) <|
    some ((p_Z s0 v0 9), s0)
  else if v1 = 5 then
    p_gd (p_is s0 v0 0) <|
    some ((p_Z s0 v0 10), s0)
  else if v1 = 6 then
    p_gd (p_is s0 v0 0) <|
    some ((p_Z s0 v0 11), s0)
  else if v1 = 7 then
    p_gd (p_is s0 v0 0) <|
    some ((p_Z s0 v0 12), s0)
  else if v1 = 8 then
    p_gd (p_is s0 v0 0) <|
    some ((p_Z s0 v0 13), s0)
  else if v1 = 9 then
    p_gd (p_is s0 v0 0) <|
    p_bd (F_Gear_parcels v0 s0) fun r27 s23 =>
    some (r27, s23)
  else if v1 = 10 then
    p_gd (p_is s0 v0 0) <|
    some ((p_Z s0 v0 14), s0)
  else if v1 = 11 then
    p_gd (p_is s0 v0 0) <|
    some ((p_Z s0 v0 2), s0)
  else if v1 = 12 then
    p_gd (p_is s0 v0 0) <|
    p_gd (0 ≤ (p_Z s0 v0 0) ∧ (p_Z s0 v0 0) < (sw_tl 0 : Int)) <|
    some ((sw_tab 0 ((p_Z s0 v0 0)).toNat), s0)
  else if v1 = 13 then
    p_gd (p_is s0 v0 0) <|
    some ((p_w ((p_Z s0 v0 15) + 1)), s0)
  else if v1 = 14 then
    p_gd (p_is s0 v0 0) <|
    some ((p_Z s0 v0 16), s0)
  else if v1 = 15 then
    p_gd (p_is s0 v0 0) <|
    if (p_R s0 v0 3) ≠ 0 then
      p_gd (p_is s0 (p_R s0 v0 3) 100) <|
      some ((p_L s0 (p_R s0 v0 3) : Int), s0)
    else
      some ((-9), s0)
  else 
  some ((-2), s0)
set_option maxRecDepth 100000 in
set_option maxHeartbeats 4000000 in
theorem tF_Gear_tell (K : p_K) (l : Launch) (v0 : Nat) (v1 : Int) (s0 : p_Hp) (r : (Int × p_Hp)) (h : F_Gear_tell v0 v1 s0 = some r) : p_Ct K l m_Gear_tell [p_r v0, p_i v1] s0 (some (p_i r.1), r.2) := by
  refine p_Ct.of (by decide) (Nat.le_of_ble_eq_true rfl) ?_
  unfold F_Gear_tell at h
  show p_Go K l m_Gear_tell 0 [(0, p_r v0), (1, p_i v1)] [] s0 _
  refine g_iload_n (i := 1) (j := 1) (dk_Gear_tell 0 rfl) rfl rfl ?_
  rcases p_iteE h with ⟨b1, h⟩ | ⟨b1, h⟩
  · refine g_tableIn 80 (dk_Gear_tell 1 rfl) (by omega) (by omega) (by rw [b1]; rfl) (by decide) ?_
    refine g_aload_n (i := 0) (j := 0) (dk_Gear_tell 2 rfl) rfl rfl ?_
    obtain ⟨c2, h⟩ := p_gdE h
    refine g_getI fl_Gear_22 (Or.inl rfl) (dk_Gear_tell 3 rfl) c2 ?_
    cases h
    exact g_ret rfl rfl (dk_Gear_tell 4 rfl) (fun os => ⟨_, rfl, p_okh os⟩)
  rcases p_iteE h with ⟨b3, h⟩ | ⟨b3, h⟩
  · refine g_tableIn 85 (dk_Gear_tell 1 rfl) (by omega) (by omega) (by rw [b3]; rfl) (by decide) ?_
    refine g_aload_n (i := 0) (j := 0) (dk_Gear_tell 5 rfl) rfl rfl ?_
    obtain ⟨c4, h⟩ := p_gdE h
    refine g_getI fl_Gear_73 (Or.inl rfl) (dk_Gear_tell 6 rfl) c4 ?_
    cases h
    exact g_ret rfl rfl (dk_Gear_tell 7 rfl) (fun os => ⟨_, rfl, p_okh os⟩)
  rcases p_iteE h with ⟨b5, h⟩ | ⟨b5, h⟩
  · refine g_tableIn 90 (dk_Gear_tell 1 rfl) (by omega) (by omega) (by rw [b5]; rfl) (by decide) ?_
    refine g_aload_n (i := 0) (j := 0) (dk_Gear_tell 8 rfl) rfl rfl ?_
    obtain ⟨c6, h⟩ := p_gdE h
    refine g_getI fl_Gear_22 (Or.inl rfl) (dk_Gear_tell 9 rfl) c6 ?_
    refine g_bipush (dk_Gear_tell 10 rfl) rfl (by decide) ?_
    refine g_icmp_ne 110 (dk_Gear_tell 11 rfl) (by decide) (fun b7 => ?_) (fun b7 => ?_)
    · have h := p_ifT b7 h
      refine g_aload_n (i := 0) (j := 0) (dk_Gear_tell 17 rfl) rfl rfl ?_
      refine g_getI fl_Gear_38 (Or.inl rfl) (dk_Gear_tell 18 rfl) c6 ?_
      cases h
      exact g_ret rfl rfl (dk_Gear_tell 19 rfl) (fun os => ⟨_, rfl, p_okh os⟩)
    · have h := p_ifF b7 h
      refine g_aload_n (i := 0) (j := 0) (dk_Gear_tell 12 rfl) rfl rfl ?_
      refine g_getI fl_Gear_41 (Or.inr rfl) (dk_Gear_tell 13 rfl) c6 ?_
      refine g_if_eq 110 (dk_Gear_tell 14 rfl) (by decide) (fun b8 => ?_) (fun b8 => ?_)
      · have h := p_ifT b8 h
        refine g_aload_n (i := 0) (j := 0) (dk_Gear_tell 17 rfl) rfl rfl ?_
        refine g_getI fl_Gear_38 (Or.inl rfl) (dk_Gear_tell 18 rfl) c6 ?_
        cases h
        exact g_ret rfl rfl (dk_Gear_tell 19 rfl) (fun os => ⟨_, rfl, p_okh os⟩)
      · have h := p_ifF b8 h
        refine g_iconst (dk_Gear_tell 15 rfl) (by decide) ?_
        refine g_goto 114 (dk_Gear_tell 16 rfl) (by decide) ?_
        cases h
        exact g_ret rfl rfl (dk_Gear_tell 19 rfl) (fun os => ⟨_, rfl, p_okh os⟩)
  rcases p_iteE h with ⟨b9, h⟩ | ⟨b9, h⟩
  · refine g_tableIn 115 (dk_Gear_tell 1 rfl) (by omega) (by omega) (by rw [b9]; rfl) (by decide) ?_
    refine g_aload_n (i := 0) (j := 0) (dk_Gear_tell 20 rfl) rfl rfl ?_
    obtain ⟨c10, h⟩ := p_gdE h
    refine g_getI fl_Gear_45 (Or.inl rfl) (dk_Gear_tell 21 rfl) c10 ?_
    cases h
    exact g_ret rfl rfl (dk_Gear_tell 22 rfl) (fun os => ⟨_, rfl, p_okh os⟩)
  rcases p_iteE h with ⟨b11, h⟩ | ⟨b11, h⟩
  · refine g_tableIn 120 (dk_Gear_tell 1 rfl) (by omega) (by omega) (by rw [b11]; rfl) (by decide) ?_
    refine g_aload_n (i := 0) (j := 0) (dk_Gear_tell 23 rfl) rfl rfl ?_
    obtain ⟨c12, h⟩ := p_gdE h
    refine g_getI fl_Gear_48 (Or.inl rfl) (dk_Gear_tell 24 rfl) c12 ?_
    cases h
    exact g_ret rfl rfl (dk_Gear_tell 25 rfl) (fun os => ⟨_, rfl, p_okh os⟩)
  rcases p_iteE h with ⟨b13, h⟩ | ⟨b13, h⟩
  · refine g_tableIn 125 (dk_Gear_tell 1 rfl) (by omega) (by omega) (by rw [b13]; rfl) (by decide) ?_
    refine g_aload_n (i := 0) (j := 0) (dk_Gear_tell 26 rfl) rfl rfl ?_
    obtain ⟨c14, h⟩ := p_gdE h
    refine g_getI fl_Gear_51 (Or.inl rfl) (dk_Gear_tell 27 rfl) c14 ?_
    cases h
    exact g_ret rfl rfl (dk_Gear_tell 28 rfl) (fun os => ⟨_, rfl, p_okh os⟩)
  rcases p_iteE h with ⟨b15, h⟩ | ⟨b15, h⟩
  · refine g_tableIn 130 (dk_Gear_tell 1 rfl) (by omega) (by omega) (by rw [b15]; rfl) (by decide) ?_
    refine g_aload_n (i := 0) (j := 0) (dk_Gear_tell 29 rfl) rfl rfl ?_
    obtain ⟨c16, h⟩ := p_gdE h
    refine g_getI fl_Gear_54 (Or.inl rfl) (dk_Gear_tell 30 rfl) c16 ?_
    cases h
    exact g_ret rfl rfl (dk_Gear_tell 31 rfl) (fun os => ⟨_, rfl, p_okh os⟩)
  rcases p_iteE h with ⟨b17, h⟩ | ⟨b17, h⟩
  · refine g_tableIn 135 (dk_Gear_tell 1 rfl) (by omega) (by omega) (by rw [b17]; rfl) (by decide) ?_
    refine g_aload_n (i := 0) (j := 0) (dk_Gear_tell 32 rfl) rfl rfl ?_
    obtain ⟨c18, h⟩ := p_gdE h
    refine g_getI fl_Gear_57 (Or.inl rfl) (dk_Gear_tell 33 rfl) c18 ?_
    cases h
    exact g_ret rfl rfl (dk_Gear_tell 34 rfl) (fun os => ⟨_, rfl, p_okh os⟩)
  rcases p_iteE h with ⟨b19, h⟩ | ⟨b19, h⟩
  · refine g_tableIn 140 (dk_Gear_tell 1 rfl) (by omega) (by omega) (by rw [b19]; rfl) (by decide) ?_
    refine g_aload_n (i := 0) (j := 0) (dk_Gear_tell 35 rfl) rfl rfl ?_
    obtain ⟨c20, h⟩ := p_gdE h
    refine g_getI fl_Gear_60 (Or.inl rfl) (dk_Gear_tell 36 rfl) c20 ?_
    cases h
    exact g_ret rfl rfl (dk_Gear_tell 37 rfl) (fun os => ⟨_, rfl, p_okh os⟩)
  rcases p_iteE h with ⟨b21, h⟩ | ⟨b21, h⟩
  · refine g_tableIn 145 (dk_Gear_tell 1 rfl) (by omega) (by omega) (by rw [b21]; rfl) (by decide) ?_
    refine g_aload_n (i := 0) (j := 0) (dk_Gear_tell 38 rfl) rfl rfl ?_
    obtain ⟨c22, h⟩ := p_gdE h
    obtain ⟨r27, s23, q24, h⟩ := p_bdE h
    have t25 := tF_Gear_parcels K l v0 s0 _ q24
    refine g_callV (a := v0) (ci := 0) (q0 := (RX0, TX0, 19)) (As := []) (rest := []) [p_i r27] mt_Gear_parcels rfl rfl tw_3_134 tw_3_135 tw_5_122 ⟨Nat.le_of_ble_eq_true rfl, Nat.le_of_ble_eq_true rfl⟩ rfl (Nat.le_of_ble_eq_true rfl) (dk_Gear_tell 39 rfl) rfl c22 rfl t25 ?_
    have hs26 : p_x s0 s23 := t25.1
    show p_Go K l m_Gear_tell 149 [(0, p_r v0), (1, p_i v1)] [p_i r27] s23 _
    cases h
    exact g_ret rfl rfl (dk_Gear_tell 40 rfl) (fun os => ⟨_, rfl, p_okh os⟩)
  rcases p_iteE h with ⟨b28, h⟩ | ⟨b28, h⟩
  · refine g_tableIn 150 (dk_Gear_tell 1 rfl) (by omega) (by omega) (by rw [b28]; rfl) (by decide) ?_
    refine g_aload_n (i := 0) (j := 0) (dk_Gear_tell 41 rfl) rfl rfl ?_
    obtain ⟨c29, h⟩ := p_gdE h
    refine g_getI fl_Gear_63 (Or.inl rfl) (dk_Gear_tell 42 rfl) c29 ?_
    cases h
    exact g_ret rfl rfl (dk_Gear_tell 43 rfl) (fun os => ⟨_, rfl, p_okh os⟩)
  rcases p_iteE h with ⟨b30, h⟩ | ⟨b30, h⟩
  · refine g_tableIn 155 (dk_Gear_tell 1 rfl) (by omega) (by omega) (by rw [b30]; rfl) (by decide) ?_
    refine g_aload_n (i := 0) (j := 0) (dk_Gear_tell 44 rfl) rfl rfl ?_
    obtain ⟨c31, h⟩ := p_gdE h
    refine g_getI fl_Gear_28 (Or.inl rfl) (dk_Gear_tell 45 rfl) c31 ?_
    cases h
    exact g_ret rfl rfl (dk_Gear_tell 46 rfl) (fun os => ⟨_, rfl, p_okh os⟩)
  rcases p_iteE h with ⟨b32, h⟩ | ⟨b32, h⟩
  · refine g_tableIn 160 (dk_Gear_tell 1 rfl) (by omega) (by omega) (by rw [b32]; rfl) (by decide) ?_
    refine g_getstatic (j := 0) rfl (by decide) (dk_Gear_tell 47 rfl) ?_
    refine g_aload_n (i := 0) (j := 0) (dk_Gear_tell 48 rfl) rfl rfl ?_
    obtain ⟨c33, h⟩ := p_gdE h
    refine g_getI fl_Gear_22 (Or.inl rfl) (dk_Gear_tell 49 rfl) c33 ?_
    obtain ⟨c34, h⟩ := p_gdE h
    refine g_tabS (by decide) (dk_Gear_tell 50 rfl) c34.1 c34.2 ?_
    cases h
    exact g_ret rfl rfl (dk_Gear_tell 51 rfl) (fun os => ⟨_, rfl, p_okh os⟩)
  rcases p_iteE h with ⟨b35, h⟩ | ⟨b35, h⟩
  · refine g_tableIn 169 (dk_Gear_tell 1 rfl) (by omega) (by omega) (by rw [b35]; rfl) (by decide) ?_
    refine g_aload_n (i := 0) (j := 0) (dk_Gear_tell 52 rfl) rfl rfl ?_
    obtain ⟨c36, h⟩ := p_gdE h
    refine g_getI fl_Gear_9 (Or.inl rfl) (dk_Gear_tell 53 rfl) c36 ?_
    refine g_iconst (dk_Gear_tell 54 rfl) (by decide) ?_
    refine g_iadd (dk_Gear_tell 55 rfl) ?_
    cases h
    exact g_ret rfl rfl (dk_Gear_tell 56 rfl) (fun os => ⟨_, rfl, p_okh os⟩)
  rcases p_iteE h with ⟨b37, h⟩ | ⟨b37, h⟩
  · refine g_tableIn 176 (dk_Gear_tell 1 rfl) (by omega) (by omega) (by rw [b37]; rfl) (by decide) ?_
    refine g_aload_n (i := 0) (j := 0) (dk_Gear_tell 57 rfl) rfl rfl ?_
    obtain ⟨c38, h⟩ := p_gdE h
    refine g_getI fl_Gear_66 (Or.inl rfl) (dk_Gear_tell 58 rfl) c38 ?_
    cases h
    exact g_ret rfl rfl (dk_Gear_tell 59 rfl) (fun os => ⟨_, rfl, p_okh os⟩)
  rcases p_iteE h with ⟨b39, h⟩ | ⟨b39, h⟩
  · refine g_tableIn 181 (dk_Gear_tell 1 rfl) (by omega) (by omega) (by rw [b39]; rfl) (by decide) ?_
    refine g_aload_n (i := 0) (j := 0) (dk_Gear_tell 60 rfl) rfl rfl ?_
    obtain ⟨c40, h⟩ := p_gdE h
    refine g_getR fl_Gear_76 (Or.inr ⟨_, rfl⟩) (dk_Gear_tell 61 rfl) c40 ?_
    refine g_ifnonnull 193 (dk_Gear_tell 62 rfl) (by decide) (fun b41 => ?_) (fun b41 => ?_)
    · have h := p_ifT b41 h
      refine g_aload_n (i := 0) (j := 0) (dk_Gear_tell 65 rfl) rfl rfl ?_
      refine g_getR fl_Gear_76 (Or.inr ⟨_, rfl⟩) (dk_Gear_tell 66 rfl) c40 ?_
      obtain ⟨c42, h⟩ := p_gdE h
      refine g_alen (i := 0) rfl (dk_Gear_tell 67 rfl) c42 ?_
      cases h
      exact g_ret rfl rfl (dk_Gear_tell 68 rfl) (fun os => ⟨_, rfl, p_okh os⟩)
    · have h := p_ifF b41 h
      refine g_bipush (dk_Gear_tell 63 rfl) rfl (by decide) ?_
      refine g_goto 198 (dk_Gear_tell 64 rfl) (by decide) ?_
      cases h
      exact g_ret rfl rfl (dk_Gear_tell 68 rfl) (fun os => ⟨_, rfl, p_okh os⟩)
  refine g_tableOut 199 (dk_Gear_tell 1 rfl) (by omega) (by decide) ?_
  refine g_bipush (dk_Gear_tell 69 rfl) rfl (by decide) ?_
  cases h
  exact g_ret rfl rfl (dk_Gear_tell 70 rfl) (fun os => ⟨_, rfl, p_okh os⟩)
def m_SW_told : p_Me := (⟨"SortWorks", "told", "(II)I"⟩, prog_1_method_35_code, 4, (some .int), 2, 43)
theorem mt_SW_told : p_Mt m_SW_told 2 := ⟨p_mem (p_tb5 (List.mem_of_getElem? (i := 117) rfl)) rfl, tw_1_1, by decide +kernel, by decide +kernel, by decide +kernel⟩
def dt_SW_told : List (Nat × Instr × Nat) := [(0, .aload_n 0, 1), (1, .getfield 18, 3), (4, .iload_n 1, 1), (5, .invokevirtual 98, 3), (8, .astore_n 3, 1), (9, .aload_n 3, 1), (10, .ifnonnull 5, 3), (13, .iconst (-1), 1), (14, .ireturn, 1), (15, .aload_n 3, 1), (16, .iload_n 2, 1), (17, .invokevirtual 298, 3), (20, .ireturn, 1)]
theorem dk_SW_told (i : Nat) {pc : Nat} {ins : Instr} {len : Nat} (h : dt_SW_told[i]? = some (pc, ins, len)) : decode m_SW_told.2.1 pc = .ok (ins, len) := p_dk (b := m_SW_told.2.1) (t := dt_SW_told) (by decide +kernel) i h
def F_SW_told (v0 : Nat) (v1 : Int) (v2 : Int) (s0 : p_Hp) : Option (Int × p_Hp) :=
  p_gd (p_is s0 v0 10) <|
  p_gd (p_is s0 (p_R s0 v0 1) 9) <|
  p_bd (F_Works_gearOf (p_R s0 v0 1) v1 s0) fun r7 s3 =>
  if r7 ≠ 0 then
    p_gd (p_is s3 r7 0) <|
    p_bd (F_Gear_tell r7 v2 s3) fun r14 s10 =>
    some (r14, s10)
  else
    some ((-1), s3)
set_option maxRecDepth 100000 in
set_option maxHeartbeats 4000000 in
theorem tF_SW_told (K : p_K) (l : Launch) (v0 : Nat) (v1 : Int) (v2 : Int) (s0 : p_Hp) (r : (Int × p_Hp)) (h : F_SW_told v0 v1 v2 s0 = some r) : p_Ct K l m_SW_told [p_r v0, p_i v1, p_i v2] s0 (some (p_i r.1), r.2) := by
  refine p_Ct.of (by decide) (Nat.le_of_ble_eq_true rfl) ?_
  unfold F_SW_told at h
  show p_Go K l m_SW_told 0 [(0, p_r v0), (1, p_i v1), (2, p_i v2)] [] s0 _
  refine g_aload_n (i := 0) (j := 0) (dk_SW_told 0 rfl) rfl rfl ?_
  obtain ⟨c1, h⟩ := p_gdE h
  refine g_getR fl_SW_18 (Or.inl ⟨_, rfl⟩) (dk_SW_told 1 rfl) c1 ?_
  refine g_iload_n (i := 1) (j := 1) (dk_SW_told 2 rfl) rfl rfl ?_
  obtain ⟨c2, h⟩ := p_gdE h
  obtain ⟨r7, s3, q4, h⟩ := p_bdE h
  have t5 := tF_Works_gearOf K l (p_R s0 v0 1) v1 s0 _ q4
  refine g_callV (a := (p_R s0 v0 1)) (ci := 9) (q0 := (RX9, TX9, 16)) (As := [p_i v1]) (rest := []) [p_r r7] mt_Works_gearOf rfl rfl tw_3_87 tw_3_88 tw_3_86 ⟨Nat.le_of_ble_eq_true rfl, Nat.le_of_ble_eq_true rfl⟩ rfl (Nat.le_of_ble_eq_true rfl) (dk_SW_told 3 rfl) rfl c2 rfl t5 ?_
  have hs6 : p_x s0 s3 := t5.1
  show p_Go K l m_SW_told 8 [(0, p_r v0), (1, p_i v1), (2, p_i v2)] [p_r r7] s3 _
  refine g_astore_n (i := 3) [(3, p_r r7), (0, p_r v0), (1, p_i v1), (2, p_i v2)] (dk_SW_told 4 rfl) rfl (by decide) rfl ?_
  refine g_aload_n (i := 3) (j := 0) (dk_SW_told 5 rfl) rfl rfl ?_
  refine g_ifnonnull 15 (dk_SW_told 6 rfl) (by decide) (fun b8 => ?_) (fun b8 => ?_)
  · have h := p_ifT b8 h
    refine g_aload_n (i := 3) (j := 0) (dk_SW_told 9 rfl) rfl rfl ?_
    refine g_iload_n (i := 2) (j := 3) (dk_SW_told 10 rfl) rfl rfl ?_
    obtain ⟨c9, h⟩ := p_gdE h
    obtain ⟨r14, s10, q11, h⟩ := p_bdE h
    have t12 := tF_Gear_tell K l r7 v2 s3 _ q11
    refine g_callV (a := r7) (ci := 0) (q0 := (RX0, TX0, 19)) (As := [p_i v2]) (rest := []) [p_i r14] mt_Gear_tell rfl rfl tw_5_119 tw_5_120 tw_5_118 ⟨Nat.le_of_ble_eq_true rfl, Nat.le_of_ble_eq_true rfl⟩ rfl (Nat.le_of_ble_eq_true rfl) (dk_SW_told 11 rfl) rfl c9 rfl t12 ?_
    have hs13 : p_x s3 s10 := t12.1
    show p_Go K l m_SW_told 20 [(3, p_r r7), (0, p_r v0), (1, p_i v1), (2, p_i v2)] [p_i r14] s10 _
    cases h
    exact g_ret rfl rfl (dk_SW_told 12 rfl) (fun os => ⟨_, rfl, p_okh os⟩)
  · have h := p_ifF b8 h
    refine g_iconst (dk_SW_told 7 rfl) (by decide) ?_
    cases h
    exact g_ret rfl rfl (dk_SW_told 8 rfl) (fun os => ⟨_, rfl, p_okh os⟩)
def m_SW_slot : p_Me := (⟨"SortWorks", "slot", "(II)I"⟩, prog_1_method_36_code, 5, (some .int), 1, 22)
theorem mt_SW_slot : p_Mt m_SW_slot 2 := ⟨p_mem (p_tb5 (List.mem_of_getElem? (i := 127) rfl)) rfl, tw_1_1, by decide +kernel, by decide +kernel, by decide +kernel⟩
def dt_SW_slot : List (Nat × Instr × Nat) := [(0, .aload_n 0, 1), (1, .getfield 18, 3), (4, .iload_n 1, 1), (5, .invokevirtual 98, 3), (8, .astore_n 3, 1), (9, .aload_n 3, 1), (10, .ifnonnull 5, 3), (13, .iconst (-1), 1), (14, .ireturn, 1), (15, .iload_n 2, 1), (16, .ifCond .lt 11, 3), (19, .iload_n 2, 1), (20, .aload_n 3, 1), (21, .getfield 92, 3), (24, .if_icmp .lt 6, 3), (27, .bipush (-2), 2), (29, .ireturn, 1), (30, .aload_n 0, 1), (31, .getfield 18, 3), (34, .getfield 77, 3), (37, .aload_n 3, 1), (38, .iload_n 2, 1), (39, .invokevirtual 301, 3), (42, .astore 4, 2), (44, .aload 4, 2), (46, .ifnonnull 7, 3), (49, .iconst 0, 1), (50, .goto 8, 3), (53, .aload 4, 2), (55, .getfield 188, 3), (58, .ireturn, 1)]
theorem dk_SW_slot (i : Nat) {pc : Nat} {ins : Instr} {len : Nat} (h : dt_SW_slot[i]? = some (pc, ins, len)) : decode m_SW_slot.2.1 pc = .ok (ins, len) := p_dk (b := m_SW_slot.2.1) (t := dt_SW_slot) (by decide +kernel) i h
def F_SW_slot (v0 : Nat) (v1 : Int) (v2 : Int) (s0 : p_Hp) : Option (Int × p_Hp) :=
  p_gd (p_is s0 v0 10) <|
  p_gd (p_is s0 (p_R s0 v0 1) 9) <|
  p_bd (F_Works_gearOf (p_R s0 v0 1) v1 s0) fun r7 s3 =>
  if r7 ≠ 0 then
    if v2 < 0 then
      some ((-2), s3)
    else
      p_gd (p_is s3 r7 0) <|
      if v2 < (p_Z s3 r7 1) then
        p_gd (p_is s3 (p_R s3 v0 1) 9) <|
        p_gd (p_is s3 (p_R s3 (p_R s3 v0 1) 1) 7) <|
        p_bd (F_State_inSlot (p_R s3 (p_R s3 v0 1) 1) r7 v2 s3) fun r18 s14 =>
        if r18 ≠ 0 then
          p_gd (p_is s14 r18 4) <|
          some ((p_Z s14 r18 1), s14)
        else
          some (0, s14)
      else
        some ((-2), s3)
  else
    some ((-1), s3)
set_option maxRecDepth 100000 in
set_option maxHeartbeats 4000000 in
theorem tF_SW_slot (K : p_K) (l : Launch) (v0 : Nat) (v1 : Int) (v2 : Int) (s0 : p_Hp) (r : (Int × p_Hp)) (h : F_SW_slot v0 v1 v2 s0 = some r) : p_Ct K l m_SW_slot [p_r v0, p_i v1, p_i v2] s0 (some (p_i r.1), r.2) := by
  refine p_Ct.of (by decide) (Nat.le_of_ble_eq_true rfl) ?_
  unfold F_SW_slot at h
  show p_Go K l m_SW_slot 0 [(0, p_r v0), (1, p_i v1), (2, p_i v2)] [] s0 _
  refine g_aload_n (i := 0) (j := 0) (dk_SW_slot 0 rfl) rfl rfl ?_
  obtain ⟨c1, h⟩ := p_gdE h
  refine g_getR fl_SW_18 (Or.inl ⟨_, rfl⟩) (dk_SW_slot 1 rfl) c1 ?_
  refine g_iload_n (i := 1) (j := 1) (dk_SW_slot 2 rfl) rfl rfl ?_
  obtain ⟨c2, h⟩ := p_gdE h
  obtain ⟨r7, s3, q4, h⟩ := p_bdE h
  have t5 := tF_Works_gearOf K l (p_R s0 v0 1) v1 s0 _ q4
  refine g_callV (a := (p_R s0 v0 1)) (ci := 9) (q0 := (RX9, TX9, 16)) (As := [p_i v1]) (rest := []) [p_r r7] mt_Works_gearOf rfl rfl tw_3_87 tw_3_88 tw_3_86 ⟨Nat.le_of_ble_eq_true rfl, Nat.le_of_ble_eq_true rfl⟩ rfl (Nat.le_of_ble_eq_true rfl) (dk_SW_slot 3 rfl) rfl c2 rfl t5 ?_
  have hs6 : p_x s0 s3 := t5.1
  show p_Go K l m_SW_slot 8 [(0, p_r v0), (1, p_i v1), (2, p_i v2)] [p_r r7] s3 _
  refine g_astore_n (i := 3) [(3, p_r r7), (0, p_r v0), (1, p_i v1), (2, p_i v2)] (dk_SW_slot 4 rfl) rfl (by decide) rfl ?_
  refine g_aload_n (i := 3) (j := 0) (dk_SW_slot 5 rfl) rfl rfl ?_
  refine g_ifnonnull 15 (dk_SW_slot 6 rfl) (by decide) (fun b8 => ?_) (fun b8 => ?_)
  · have h := p_ifT b8 h
    refine g_iload_n (i := 2) (j := 3) (dk_SW_slot 9 rfl) rfl rfl ?_
    refine g_if_lt 27 (dk_SW_slot 10 rfl) (by decide) (fun b9 => ?_) (fun b9 => ?_)
    · have h := p_ifT b9 h
      refine g_bipush (dk_SW_slot 15 rfl) rfl (by decide) ?_
      cases h
      exact g_ret rfl rfl (dk_SW_slot 16 rfl) (fun os => ⟨_, rfl, p_okh os⟩)
    · have h := p_ifF b9 h
      refine g_iload_n (i := 2) (j := 3) (dk_SW_slot 11 rfl) rfl rfl ?_
      refine g_aload_n (i := 3) (j := 0) (dk_SW_slot 12 rfl) rfl rfl ?_
      obtain ⟨c10, h⟩ := p_gdE h
      refine g_getI fl_SW_92 (Or.inl rfl) (dk_SW_slot 13 rfl) c10 ?_
      refine g_icmp_lt 30 (dk_SW_slot 14 rfl) (by decide) (fun b11 => ?_) (fun b11 => ?_)
      · have h := p_ifT b11 h
        refine g_aload_n (i := 0) (j := 1) (dk_SW_slot 17 rfl) rfl rfl ?_
        refine g_getR fl_SW_18 (Or.inl ⟨_, rfl⟩) (dk_SW_slot 18 rfl) (c1.up hs6) ?_
        obtain ⟨c12, h⟩ := p_gdE h
        refine g_getR fl_SW_77 (Or.inl ⟨_, rfl⟩) (dk_SW_slot 19 rfl) c12 ?_
        refine g_aload_n (i := 3) (j := 0) (dk_SW_slot 20 rfl) rfl rfl ?_
        refine g_iload_n (i := 2) (j := 3) (dk_SW_slot 21 rfl) rfl rfl ?_
        obtain ⟨c13, h⟩ := p_gdE h
        obtain ⟨r18, s14, q15, h⟩ := p_bdE h
        have t16 := tF_State_inSlot K l (p_R s3 (p_R s3 v0 1) 1) r7 v2 s3 _ q15
        refine g_callV (a := (p_R s3 (p_R s3 v0 1) 1)) (ci := 7) (q0 := (RX7, TX7, 9)) (As := [p_r r7, p_i v2]) (rest := []) [p_r r18] mt_State_inSlot rfl rfl tw_4_66 tw_4_67 tw_5_128 ⟨Nat.le_of_ble_eq_true rfl, Nat.le_of_ble_eq_true rfl⟩ rfl (Nat.le_of_ble_eq_true rfl) (dk_SW_slot 22 rfl) rfl c13 rfl t16 ?_
        have hs17 : p_x s3 s14 := t16.1
        show p_Go K l m_SW_slot 42 [(3, p_r r7), (0, p_r v0), (1, p_i v1), (2, p_i v2)] [p_r r18] s14 _
        refine g_astore [(4, p_r r18), (3, p_r r7), (0, p_r v0), (1, p_i v1), (2, p_i v2)] (dk_SW_slot 23 rfl) (by decide) rfl ?_
        refine g_aload (j := 0) (dk_SW_slot 24 rfl) rfl ?_
        refine g_ifnonnull 53 (dk_SW_slot 25 rfl) (by decide) (fun b19 => ?_) (fun b19 => ?_)
        · have h := p_ifT b19 h
          refine g_aload (j := 0) (dk_SW_slot 28 rfl) rfl ?_
          obtain ⟨c20, h⟩ := p_gdE h
          refine g_getI fl_SW_188 (Or.inl rfl) (dk_SW_slot 29 rfl) c20 ?_
          cases h
          exact g_ret rfl rfl (dk_SW_slot 30 rfl) (fun os => ⟨_, rfl, p_okh os⟩)
        · have h := p_ifF b19 h
          refine g_iconst (dk_SW_slot 26 rfl) (by decide) ?_
          refine g_goto 58 (dk_SW_slot 27 rfl) (by decide) ?_
          cases h
          exact g_ret rfl rfl (dk_SW_slot 30 rfl) (fun os => ⟨_, rfl, p_okh os⟩)
      · have h := p_ifF b11 h
        refine g_bipush (dk_SW_slot 15 rfl) rfl (by decide) ?_
        cases h
        exact g_ret rfl rfl (dk_SW_slot 16 rfl) (fun os => ⟨_, rfl, p_okh os⟩)
  · have h := p_ifF b8 h
    refine g_iconst (dk_SW_slot 7 rfl) (by decide) ?_
    cases h
    exact g_ret rfl rfl (dk_SW_slot 8 rfl) (fun os => ⟨_, rfl, p_okh os⟩)
def m_SW_linkOf : p_Me := (⟨"SortWorks", "linkOf", "(II)I"⟩, prog_1_method_37_code, 4, (some .int), 1, 21)
theorem mt_SW_linkOf : p_Mt m_SW_linkOf 2 := ⟨p_mem (p_tb5 (List.mem_of_getElem? (i := 132) rfl)) rfl, tw_1_1, by decide +kernel, by decide +kernel, by decide +kernel⟩
def dt_SW_linkOf : List (Nat × Instr × Nat) := [(0, .aload_n 0, 1), (1, .getfield 18, 3), (4, .iload_n 1, 1), (5, .invokevirtual 98, 3), (8, .astore_n 3, 1), (9, .aload_n 3, 1), (10, .ifnonnull 5, 3), (13, .iconst (-1), 1), (14, .ireturn, 1), (15, .aload_n 3, 1), (16, .getfield 102, 3), (19, .ifnull 16, 3), (22, .iload_n 2, 1), (23, .ifCond .lt 12, 3), (26, .iload_n 2, 1), (27, .aload_n 3, 1), (28, .getfield 102, 3), (31, .arraylength, 1), (32, .if_icmp .lt 6, 3), (35, .bipush (-9), 2), (37, .ireturn, 1), (38, .aload_n 3, 1), (39, .getfield 102, 3), (42, .iload_n 2, 1), (43, .iaload, 1), (44, .iconst 1, 1), (45, .iadd, 1), (46, .ireturn, 1)]
theorem dk_SW_linkOf (i : Nat) {pc : Nat} {ins : Instr} {len : Nat} (h : dt_SW_linkOf[i]? = some (pc, ins, len)) : decode m_SW_linkOf.2.1 pc = .ok (ins, len) := p_dk (b := m_SW_linkOf.2.1) (t := dt_SW_linkOf) (by decide +kernel) i h
def F_SW_linkOf (v0 : Nat) (v1 : Int) (v2 : Int) (s0 : p_Hp) : Option (Int × p_Hp) :=
  p_gd (p_is s0 v0 10) <|
  p_gd (p_is s0 (p_R s0 v0 1) 9) <|
  p_bd (F_Works_gearOf (p_R s0 v0 1) v1 s0) fun r7 s3 =>
  if r7 ≠ 0 then
    p_gd (p_is s3 r7 0) <|
    if (p_R s3 r7 3) = 0 then
      some ((-9), s3)
    else
      if v2 < 0 then
        some ((-9), s3)
      else
        p_gd (p_is s3 (p_R s3 r7 3) 100) <|
        if v2 < (p_L s3 (p_R s3 r7 3) : Int) then
          p_gd (0 ≤ v2 ∧ v2 < (p_L s3 (p_R s3 r7 3) : Int)) <|
          some ((p_w ((p_Z s3 (p_R s3 r7 3) (v2).toNat) + 1)), s3)
        else
          some ((-9), s3)
  else
    some ((-1), s3)
set_option maxRecDepth 100000 in
set_option maxHeartbeats 4000000 in
theorem tF_SW_linkOf (K : p_K) (l : Launch) (v0 : Nat) (v1 : Int) (v2 : Int) (s0 : p_Hp) (r : (Int × p_Hp)) (h : F_SW_linkOf v0 v1 v2 s0 = some r) : p_Ct K l m_SW_linkOf [p_r v0, p_i v1, p_i v2] s0 (some (p_i r.1), r.2) := by
  refine p_Ct.of (by decide) (Nat.le_of_ble_eq_true rfl) ?_
  unfold F_SW_linkOf at h
  show p_Go K l m_SW_linkOf 0 [(0, p_r v0), (1, p_i v1), (2, p_i v2)] [] s0 _
  refine g_aload_n (i := 0) (j := 0) (dk_SW_linkOf 0 rfl) rfl rfl ?_
  obtain ⟨c1, h⟩ := p_gdE h
  refine g_getR fl_SW_18 (Or.inl ⟨_, rfl⟩) (dk_SW_linkOf 1 rfl) c1 ?_
  refine g_iload_n (i := 1) (j := 1) (dk_SW_linkOf 2 rfl) rfl rfl ?_
  obtain ⟨c2, h⟩ := p_gdE h
  obtain ⟨r7, s3, q4, h⟩ := p_bdE h
  have t5 := tF_Works_gearOf K l (p_R s0 v0 1) v1 s0 _ q4
  refine g_callV (a := (p_R s0 v0 1)) (ci := 9) (q0 := (RX9, TX9, 16)) (As := [p_i v1]) (rest := []) [p_r r7] mt_Works_gearOf rfl rfl tw_3_87 tw_3_88 tw_3_86 ⟨Nat.le_of_ble_eq_true rfl, Nat.le_of_ble_eq_true rfl⟩ rfl (Nat.le_of_ble_eq_true rfl) (dk_SW_linkOf 3 rfl) rfl c2 rfl t5 ?_
  have hs6 : p_x s0 s3 := t5.1
  show p_Go K l m_SW_linkOf 8 [(0, p_r v0), (1, p_i v1), (2, p_i v2)] [p_r r7] s3 _
  refine g_astore_n (i := 3) [(3, p_r r7), (0, p_r v0), (1, p_i v1), (2, p_i v2)] (dk_SW_linkOf 4 rfl) rfl (by decide) rfl ?_
  refine g_aload_n (i := 3) (j := 0) (dk_SW_linkOf 5 rfl) rfl rfl ?_
  refine g_ifnonnull 15 (dk_SW_linkOf 6 rfl) (by decide) (fun b8 => ?_) (fun b8 => ?_)
  · have h := p_ifT b8 h
    refine g_aload_n (i := 3) (j := 0) (dk_SW_linkOf 9 rfl) rfl rfl ?_
    obtain ⟨c9, h⟩ := p_gdE h
    refine g_getR fl_SW_102 (Or.inr ⟨_, rfl⟩) (dk_SW_linkOf 10 rfl) c9 ?_
    refine g_ifnull 35 (dk_SW_linkOf 11 rfl) (by decide) (fun b10 => ?_) (fun b10 => ?_)
    · have h := p_ifT b10 h
      refine g_bipush (dk_SW_linkOf 19 rfl) rfl (by decide) ?_
      cases h
      exact g_ret rfl rfl (dk_SW_linkOf 20 rfl) (fun os => ⟨_, rfl, p_okh os⟩)
    · have h := p_ifF b10 h
      refine g_iload_n (i := 2) (j := 3) (dk_SW_linkOf 12 rfl) rfl rfl ?_
      refine g_if_lt 35 (dk_SW_linkOf 13 rfl) (by decide) (fun b11 => ?_) (fun b11 => ?_)
      · have h := p_ifT b11 h
        refine g_bipush (dk_SW_linkOf 19 rfl) rfl (by decide) ?_
        cases h
        exact g_ret rfl rfl (dk_SW_linkOf 20 rfl) (fun os => ⟨_, rfl, p_okh os⟩)
      · have h := p_ifF b11 h
        refine g_iload_n (i := 2) (j := 3) (dk_SW_linkOf 14 rfl) rfl rfl ?_
        refine g_aload_n (i := 3) (j := 0) (dk_SW_linkOf 15 rfl) rfl rfl ?_
        refine g_getR fl_SW_102 (Or.inr ⟨_, rfl⟩) (dk_SW_linkOf 16 rfl) c9 ?_
        obtain ⟨c12, h⟩ := p_gdE h
        refine g_alen (i := 0) rfl (dk_SW_linkOf 17 rfl) c12 ?_
        refine g_icmp_lt 38 (dk_SW_linkOf 18 rfl) (by decide) (fun b13 => ?_) (fun b13 => ?_)
        · have h := p_ifT b13 h
          refine g_aload_n (i := 3) (j := 0) (dk_SW_linkOf 21 rfl) rfl rfl ?_
          refine g_getR fl_SW_102 (Or.inr ⟨_, rfl⟩) (dk_SW_linkOf 22 rfl) c9 ?_
          refine g_iload_n (i := 2) (j := 3) (dk_SW_linkOf 23 rfl) rfl rfl ?_
          obtain ⟨c14, h⟩ := p_gdE h
          refine g_iaload (dk_SW_linkOf 24 rfl) c12 c14.1 c14.2 ?_
          refine g_iconst (dk_SW_linkOf 25 rfl) (by decide) ?_
          refine g_iadd (dk_SW_linkOf 26 rfl) ?_
          cases h
          exact g_ret rfl rfl (dk_SW_linkOf 27 rfl) (fun os => ⟨_, rfl, p_okh os⟩)
        · have h := p_ifF b13 h
          refine g_bipush (dk_SW_linkOf 19 rfl) rfl (by decide) ?_
          cases h
          exact g_ret rfl rfl (dk_SW_linkOf 20 rfl) (fun os => ⟨_, rfl, p_okh os⟩)
  · have h := p_ifF b8 h
    refine g_iconst (dk_SW_linkOf 7 rfl) (by decide) ?_
    cases h
    exact g_ret rfl rfl (dk_SW_linkOf 8 rfl) (fun os => ⟨_, rfl, p_okh os⟩)
def m_Parcel_tell : p_Me := (⟨"SortWorks$Parcel", "tell", "(I)I"⟩, prog_6_method_8_code, 2, (some .int), 0, 0)
theorem mt_Parcel_tell : p_Mt m_Parcel_tell 1 := ⟨p_mem (p_tb5 (List.mem_of_getElem? (i := 140) rfl)) rfl, tw_1_6, by decide +kernel, by decide +kernel, by decide +kernel⟩
def dt_Parcel_tell : List (Nat × Instr × Nat) := [(0, .iload_n 1, 1), (1, .tableswitch 108 0 7 #[47, 52, 57, 62, 67, 72, 77, 95], 47), (48, .aload_n 0, 1), (49, .getfield 34, 3), (52, .ireturn, 1), (53, .aload_n 0, 1), (54, .getfield 37, 3), (57, .ireturn, 1), (58, .aload_n 0, 1), (59, .getfield 25, 3), (62, .ireturn, 1), (63, .aload_n 0, 1), (64, .getfield 28, 3), (67, .ireturn, 1), (68, .aload_n 0, 1), (69, .getfield 31, 3), (72, .ireturn, 1), (73, .aload_n 0, 1), (74, .getfield 44, 3), (77, .ireturn, 1), (78, .aload_n 0, 1), (79, .getfield 53, 3), (82, .iconst (-1), 1), (83, .if_icmp .ne 8, 3), (86, .bipush (-9), 2), (88, .goto 7, 3), (91, .aload_n 0, 1), (92, .getfield 53, 3), (95, .ireturn, 1), (96, .aload_n 0, 1), (97, .getfield 40, 3), (100, .ifCond .eq 7, 3), (103, .iconst 1, 1), (104, .goto 4, 3), (107, .iconst 0, 1), (108, .ireturn, 1), (109, .bipush (-2), 2), (111, .ireturn, 1)]
theorem dk_Parcel_tell (i : Nat) {pc : Nat} {ins : Instr} {len : Nat} (h : dt_Parcel_tell[i]? = some (pc, ins, len)) : decode m_Parcel_tell.2.1 pc = .ok (ins, len) := p_dk (b := m_Parcel_tell.2.1) (t := dt_Parcel_tell) (by decide +kernel) i h
def F_Parcel_tell (v0 : Nat) (v1 : Int) (s0 : p_Hp) : Option (Int × p_Hp) :=
  if v1 = 0 then
    p_gd (p_is s0 v0 4) <|
    some ((p_Z s0 v0 5), s0)
  else if v1 = 1 then
    p_gd (p_is s0 v0 4) <|
    some ((p_Z s0 v0 6), s0)
  else if v1 = 2 then
    p_gd (p_is s0 v0 4) <|
    some ((p_Z s0 v0 2), s0)
  else if v1 = 3 then
    p_gd (p_is s0 v0 4) <|
    some ((p_Z s0 v0 3), s0)
  else if v1 = 4 then
    p_gd (p_is s0 v0 4) <|
    some ((p_Z s0 v0 4), s0)
  else if v1 = 5 then
    p_gd (p_is s0 v0 4) <|
    some ((p_Z s0 v0 9), s0)
  else if v1 = 6 then
    p_gd (p_is s0 v0 4) <|
    if (p_Z s0 v0 11) ≠ (-1) then
      some ((p_Z s0 v0 11), s0)
    else
      some ((-9), s0)
  else if v1 = 7 then
    p_gd (p_is s0 v0 4) <|
    if (p_Z s0 v0 7) = 0 then
      some (0, s0)
    else
      some (1, s0)
  else 
  some ((-2), s0)
set_option maxRecDepth 100000 in
set_option maxHeartbeats 4000000 in
theorem tF_Parcel_tell (K : p_K) (l : Launch) (v0 : Nat) (v1 : Int) (s0 : p_Hp) (r : (Int × p_Hp)) (h : F_Parcel_tell v0 v1 s0 = some r) : p_Ct K l m_Parcel_tell [p_r v0, p_i v1] s0 (some (p_i r.1), r.2) := by
  refine p_Ct.of (by decide) (Nat.le_of_ble_eq_true rfl) ?_
  unfold F_Parcel_tell at h
  show p_Go K l m_Parcel_tell 0 [(0, p_r v0), (1, p_i v1)] [] s0 _
  refine g_iload_n (i := 1) (j := 1) (dk_Parcel_tell 0 rfl) rfl rfl ?_
  rcases p_iteE h with ⟨b1, h⟩ | ⟨b1, h⟩
  · refine g_tableIn 48 (dk_Parcel_tell 1 rfl) (by omega) (by omega) (by rw [b1]; rfl) (by decide) ?_
    refine g_aload_n (i := 0) (j := 0) (dk_Parcel_tell 2 rfl) rfl rfl ?_
    obtain ⟨c2, h⟩ := p_gdE h
    refine g_getI fl_Parcel_34 (Or.inl rfl) (dk_Parcel_tell 3 rfl) c2 ?_
    cases h
    exact g_ret rfl rfl (dk_Parcel_tell 4 rfl) (fun os => ⟨_, rfl, p_okh os⟩)
  rcases p_iteE h with ⟨b3, h⟩ | ⟨b3, h⟩
  · refine g_tableIn 53 (dk_Parcel_tell 1 rfl) (by omega) (by omega) (by rw [b3]; rfl) (by decide) ?_
    refine g_aload_n (i := 0) (j := 0) (dk_Parcel_tell 5 rfl) rfl rfl ?_
    obtain ⟨c4, h⟩ := p_gdE h
    refine g_getI fl_Parcel_37 (Or.inl rfl) (dk_Parcel_tell 6 rfl) c4 ?_
    cases h
    exact g_ret rfl rfl (dk_Parcel_tell 7 rfl) (fun os => ⟨_, rfl, p_okh os⟩)
  rcases p_iteE h with ⟨b5, h⟩ | ⟨b5, h⟩
  · refine g_tableIn 58 (dk_Parcel_tell 1 rfl) (by omega) (by omega) (by rw [b5]; rfl) (by decide) ?_
    refine g_aload_n (i := 0) (j := 0) (dk_Parcel_tell 8 rfl) rfl rfl ?_
    obtain ⟨c6, h⟩ := p_gdE h
    refine g_getI fl_Parcel_25 (Or.inl rfl) (dk_Parcel_tell 9 rfl) c6 ?_
    cases h
    exact g_ret rfl rfl (dk_Parcel_tell 10 rfl) (fun os => ⟨_, rfl, p_okh os⟩)
  rcases p_iteE h with ⟨b7, h⟩ | ⟨b7, h⟩
  · refine g_tableIn 63 (dk_Parcel_tell 1 rfl) (by omega) (by omega) (by rw [b7]; rfl) (by decide) ?_
    refine g_aload_n (i := 0) (j := 0) (dk_Parcel_tell 11 rfl) rfl rfl ?_
    obtain ⟨c8, h⟩ := p_gdE h
    refine g_getI fl_Parcel_28 (Or.inl rfl) (dk_Parcel_tell 12 rfl) c8 ?_
    cases h
    exact g_ret rfl rfl (dk_Parcel_tell 13 rfl) (fun os => ⟨_, rfl, p_okh os⟩)
  rcases p_iteE h with ⟨b9, h⟩ | ⟨b9, h⟩
  · refine g_tableIn 68 (dk_Parcel_tell 1 rfl) (by omega) (by omega) (by rw [b9]; rfl) (by decide) ?_
    refine g_aload_n (i := 0) (j := 0) (dk_Parcel_tell 14 rfl) rfl rfl ?_
    obtain ⟨c10, h⟩ := p_gdE h
    refine g_getI fl_Parcel_31 (Or.inl rfl) (dk_Parcel_tell 15 rfl) c10 ?_
    cases h
    exact g_ret rfl rfl (dk_Parcel_tell 16 rfl) (fun os => ⟨_, rfl, p_okh os⟩)
  rcases p_iteE h with ⟨b11, h⟩ | ⟨b11, h⟩
  · refine g_tableIn 73 (dk_Parcel_tell 1 rfl) (by omega) (by omega) (by rw [b11]; rfl) (by decide) ?_
    refine g_aload_n (i := 0) (j := 0) (dk_Parcel_tell 17 rfl) rfl rfl ?_
    obtain ⟨c12, h⟩ := p_gdE h
    refine g_getI fl_Parcel_44 (Or.inl rfl) (dk_Parcel_tell 18 rfl) c12 ?_
    cases h
    exact g_ret rfl rfl (dk_Parcel_tell 19 rfl) (fun os => ⟨_, rfl, p_okh os⟩)
  rcases p_iteE h with ⟨b13, h⟩ | ⟨b13, h⟩
  · refine g_tableIn 78 (dk_Parcel_tell 1 rfl) (by omega) (by omega) (by rw [b13]; rfl) (by decide) ?_
    refine g_aload_n (i := 0) (j := 0) (dk_Parcel_tell 20 rfl) rfl rfl ?_
    obtain ⟨c14, h⟩ := p_gdE h
    refine g_getI fl_Parcel_53 (Or.inl rfl) (dk_Parcel_tell 21 rfl) c14 ?_
    refine g_iconst (dk_Parcel_tell 22 rfl) (by decide) ?_
    refine g_icmp_ne 91 (dk_Parcel_tell 23 rfl) (by decide) (fun b15 => ?_) (fun b15 => ?_)
    · have h := p_ifT b15 h
      refine g_aload_n (i := 0) (j := 0) (dk_Parcel_tell 26 rfl) rfl rfl ?_
      refine g_getI fl_Parcel_53 (Or.inl rfl) (dk_Parcel_tell 27 rfl) c14 ?_
      cases h
      exact g_ret rfl rfl (dk_Parcel_tell 28 rfl) (fun os => ⟨_, rfl, p_okh os⟩)
    · have h := p_ifF b15 h
      refine g_bipush (dk_Parcel_tell 24 rfl) rfl (by decide) ?_
      refine g_goto 95 (dk_Parcel_tell 25 rfl) (by decide) ?_
      cases h
      exact g_ret rfl rfl (dk_Parcel_tell 28 rfl) (fun os => ⟨_, rfl, p_okh os⟩)
  rcases p_iteE h with ⟨b16, h⟩ | ⟨b16, h⟩
  · refine g_tableIn 96 (dk_Parcel_tell 1 rfl) (by omega) (by omega) (by rw [b16]; rfl) (by decide) ?_
    refine g_aload_n (i := 0) (j := 0) (dk_Parcel_tell 29 rfl) rfl rfl ?_
    obtain ⟨c17, h⟩ := p_gdE h
    refine g_getI fl_Parcel_40 (Or.inr rfl) (dk_Parcel_tell 30 rfl) c17 ?_
    refine g_if_eq 107 (dk_Parcel_tell 31 rfl) (by decide) (fun b18 => ?_) (fun b18 => ?_)
    · have h := p_ifT b18 h
      refine g_iconst (dk_Parcel_tell 34 rfl) (by decide) ?_
      cases h
      exact g_ret rfl rfl (dk_Parcel_tell 35 rfl) (fun os => ⟨_, rfl, p_okh os⟩)
    · have h := p_ifF b18 h
      refine g_iconst (dk_Parcel_tell 32 rfl) (by decide) ?_
      refine g_goto 108 (dk_Parcel_tell 33 rfl) (by decide) ?_
      cases h
      exact g_ret rfl rfl (dk_Parcel_tell 35 rfl) (fun os => ⟨_, rfl, p_okh os⟩)
  refine g_tableOut 109 (dk_Parcel_tell 1 rfl) (by omega) (by decide) ?_
  refine g_bipush (dk_Parcel_tell 36 rfl) rfl (by decide) ?_
  cases h
  exact g_ret rfl rfl (dk_Parcel_tell 37 rfl) (fun os => ⟨_, rfl, p_okh os⟩)
def m_SW_parcel : p_Me := (⟨"SortWorks", "parcel", "(II)I"⟩, prog_1_method_38_code, 4, (some .int), 1, 22)
theorem mt_SW_parcel : p_Mt m_SW_parcel 2 := ⟨p_mem (p_tb5 (List.mem_of_getElem? (i := 136) rfl)) rfl, tw_1_1, by decide +kernel, by decide +kernel, by decide +kernel⟩
def dt_SW_parcel : List (Nat × Instr × Nat) := [(0, .aload_n 0, 1), (1, .getfield 18, 3), (4, .getfield 77, 3), (7, .iload_n 1, 1), (8, .invokevirtual 200, 3), (11, .astore_n 3, 1), (12, .aload_n 3, 1), (13, .ifnonnull 5, 3), (16, .iconst (-1), 1), (17, .ireturn, 1), (18, .aload_n 3, 1), (19, .iload_n 2, 1), (20, .invokevirtual 305, 3), (23, .ireturn, 1)]
theorem dk_SW_parcel (i : Nat) {pc : Nat} {ins : Instr} {len : Nat} (h : dt_SW_parcel[i]? = some (pc, ins, len)) : decode m_SW_parcel.2.1 pc = .ok (ins, len) := p_dk (b := m_SW_parcel.2.1) (t := dt_SW_parcel) (by decide +kernel) i h
def F_SW_parcel (v0 : Nat) (v1 : Int) (v2 : Int) (s0 : p_Hp) : Option (Int × p_Hp) :=
  p_gd (p_is s0 v0 10) <|
  p_gd (p_is s0 (p_R s0 v0 1) 9) <|
  p_gd (p_is s0 (p_R s0 (p_R s0 v0 1) 1) 7) <|
  p_bd (F_State_find (p_R s0 (p_R s0 v0 1) 1) v1 s0) fun r8 s4 =>
  if r8 ≠ 0 then
    p_gd (p_is s4 r8 4) <|
    p_bd (F_Parcel_tell r8 v2 s4) fun r15 s11 =>
    some (r15, s11)
  else
    some ((-1), s4)
set_option maxRecDepth 100000 in
set_option maxHeartbeats 4000000 in
theorem tF_SW_parcel (K : p_K) (l : Launch) (v0 : Nat) (v1 : Int) (v2 : Int) (s0 : p_Hp) (r : (Int × p_Hp)) (h : F_SW_parcel v0 v1 v2 s0 = some r) : p_Ct K l m_SW_parcel [p_r v0, p_i v1, p_i v2] s0 (some (p_i r.1), r.2) := by
  refine p_Ct.of (by decide) (Nat.le_of_ble_eq_true rfl) ?_
  unfold F_SW_parcel at h
  show p_Go K l m_SW_parcel 0 [(0, p_r v0), (1, p_i v1), (2, p_i v2)] [] s0 _
  refine g_aload_n (i := 0) (j := 0) (dk_SW_parcel 0 rfl) rfl rfl ?_
  obtain ⟨c1, h⟩ := p_gdE h
  refine g_getR fl_SW_18 (Or.inl ⟨_, rfl⟩) (dk_SW_parcel 1 rfl) c1 ?_
  obtain ⟨c2, h⟩ := p_gdE h
  refine g_getR fl_SW_77 (Or.inl ⟨_, rfl⟩) (dk_SW_parcel 2 rfl) c2 ?_
  refine g_iload_n (i := 1) (j := 1) (dk_SW_parcel 3 rfl) rfl rfl ?_
  obtain ⟨c3, h⟩ := p_gdE h
  obtain ⟨r8, s4, q5, h⟩ := p_bdE h
  have t6 := tF_State_find K l (p_R s0 (p_R s0 v0 1) 1) v1 s0 _ q5
  refine g_callV (a := (p_R s0 (p_R s0 v0 1) 1)) (ci := 7) (q0 := (RX7, TX7, 9)) (As := [p_i v1]) (rest := []) [p_r r8] mt_State_find rfl rfl tw_4_22 tw_4_23 tw_4_21 ⟨Nat.le_of_ble_eq_true rfl, Nat.le_of_ble_eq_true rfl⟩ rfl (Nat.le_of_ble_eq_true rfl) (dk_SW_parcel 4 rfl) rfl c3 rfl t6 ?_
  have hs7 : p_x s0 s4 := t6.1
  show p_Go K l m_SW_parcel 11 [(0, p_r v0), (1, p_i v1), (2, p_i v2)] [p_r r8] s4 _
  refine g_astore_n (i := 3) [(3, p_r r8), (0, p_r v0), (1, p_i v1), (2, p_i v2)] (dk_SW_parcel 5 rfl) rfl (by decide) rfl ?_
  refine g_aload_n (i := 3) (j := 0) (dk_SW_parcel 6 rfl) rfl rfl ?_
  refine g_ifnonnull 18 (dk_SW_parcel 7 rfl) (by decide) (fun b9 => ?_) (fun b9 => ?_)
  · have h := p_ifT b9 h
    refine g_aload_n (i := 3) (j := 0) (dk_SW_parcel 10 rfl) rfl rfl ?_
    refine g_iload_n (i := 2) (j := 3) (dk_SW_parcel 11 rfl) rfl rfl ?_
    obtain ⟨c10, h⟩ := p_gdE h
    obtain ⟨r15, s11, q12, h⟩ := p_bdE h
    have t13 := tF_Parcel_tell K l r8 v2 s4 _ q12
    refine g_callV (a := r8) (ci := 4) (q0 := (RX4, TX4, 13)) (As := [p_i v2]) (rest := []) [p_i r15] mt_Parcel_tell rfl rfl tw_5_138 tw_5_139 tw_5_137 ⟨Nat.le_of_ble_eq_true rfl, Nat.le_of_ble_eq_true rfl⟩ rfl (Nat.le_of_ble_eq_true rfl) (dk_SW_parcel 12 rfl) rfl c10 rfl t13 ?_
    have hs14 : p_x s4 s11 := t13.1
    show p_Go K l m_SW_parcel 23 [(3, p_r r8), (0, p_r v0), (1, p_i v1), (2, p_i v2)] [p_i r15] s11 _
    cases h
    exact g_ret rfl rfl (dk_SW_parcel 13 rfl) (fun os => ⟨_, rfl, p_okh os⟩)
  · have h := p_ifF b9 h
    refine g_iconst (dk_SW_parcel 8 rfl) (by decide) ?_
    cases h
    exact g_ret rfl rfl (dk_SW_parcel 9 rfl) (fun os => ⟨_, rfl, p_okh os⟩)
def m_SW_way : p_Me := (⟨"SortWorks", "way", "(II)I"⟩, prog_1_method_39_code, 4, (some .int), 1, 22)
theorem mt_SW_way : p_Mt m_SW_way 2 := ⟨p_mem (p_tb5 (List.mem_of_getElem? (i := 144) rfl)) rfl, tw_1_1, by decide +kernel, by decide +kernel, by decide +kernel⟩
def dt_SW_way : List (Nat × Instr × Nat) := [(0, .aload_n 0, 1), (1, .getfield 18, 3), (4, .getfield 77, 3), (7, .iload_n 1, 1), (8, .invokevirtual 200, 3), (11, .astore_n 3, 1), (12, .aload_n 3, 1), (13, .ifnonnull 5, 3), (16, .iconst (-1), 1), (17, .ireturn, 1), (18, .iload_n 2, 1), (19, .ifCond .lt 17, 3), (22, .iload_n 2, 1), (23, .aload_n 3, 1), (24, .getfield 306, 3), (27, .if_icmp .ge 9, 3), (30, .iload_n 2, 1), (31, .bipush 16, 2), (33, .if_icmp .lt 8, 3), (36, .bipush (-9), 2), (38, .goto 9, 3), (41, .aload_n 3, 1), (42, .getfield 309, 3), (45, .iload_n 2, 1), (46, .iaload, 1), (47, .ireturn, 1)]
theorem dk_SW_way (i : Nat) {pc : Nat} {ins : Instr} {len : Nat} (h : dt_SW_way[i]? = some (pc, ins, len)) : decode m_SW_way.2.1 pc = .ok (ins, len) := p_dk (b := m_SW_way.2.1) (t := dt_SW_way) (by decide +kernel) i h
def B_SW_way_36   (s0 : p_Hp) : Option (Int × p_Hp) :=
  some ((-9), s0)
def F_SW_way (v0 : Nat) (v1 : Int) (v2 : Int) (s0 : p_Hp) : Option (Int × p_Hp) :=
  p_gd (p_is s0 v0 10) <|
  p_gd (p_is s0 (p_R s0 v0 1) 9) <|
  p_gd (p_is s0 (p_R s0 (p_R s0 v0 1) 1) 7) <|
  p_bd (F_State_find (p_R s0 (p_R s0 v0 1) 1) v1 s0) fun r8 s4 =>
  if r8 ≠ 0 then
    if v2 < 0 then
      B_SW_way_36 s4
    else
      p_gd (p_is s4 r8 4) <|
      if (p_Z s4 r8 9) ≤ v2 then
        B_SW_way_36 s4
      else
        if v2 < 16 then
          p_gd (p_is s4 (p_R s4 r8 10) 100) <|
          p_gd (0 ≤ v2 ∧ v2 < (p_L s4 (p_R s4 r8 10) : Int)) <|
          some ((p_Z s4 (p_R s4 r8 10) (v2).toNat), s4)
        else
          B_SW_way_36 s4
  else
    some ((-1), s4)
set_option maxRecDepth 100000 in
set_option maxHeartbeats 4000000 in
theorem tB_SW_way_36 (K : p_K) (l : Launch)   (s0 : p_Hp) (r : (Int × p_Hp)) (h : B_SW_way_36  s0 = some r) : p_Go K l m_SW_way 36 [] [] s0 (some (p_i r.1), r.2) := by
  unfold B_SW_way_36 at h
  refine g_bipush (dk_SW_way 19 rfl) rfl (by decide) ?_
  refine g_goto 47 (dk_SW_way 20 rfl) (by decide) ?_
  cases h
  exact g_ret rfl rfl (dk_SW_way 25 rfl) (fun os => ⟨_, rfl, p_okh os⟩)
set_option maxRecDepth 100000 in
set_option maxHeartbeats 4000000 in
theorem tF_SW_way (K : p_K) (l : Launch) (v0 : Nat) (v1 : Int) (v2 : Int) (s0 : p_Hp) (r : (Int × p_Hp)) (h : F_SW_way v0 v1 v2 s0 = some r) : p_Ct K l m_SW_way [p_r v0, p_i v1, p_i v2] s0 (some (p_i r.1), r.2) := by
  refine p_Ct.of (by decide) (Nat.le_of_ble_eq_true rfl) ?_
  unfold F_SW_way at h
  show p_Go K l m_SW_way 0 [(0, p_r v0), (1, p_i v1), (2, p_i v2)] [] s0 _
  refine g_aload_n (i := 0) (j := 0) (dk_SW_way 0 rfl) rfl rfl ?_
  obtain ⟨c1, h⟩ := p_gdE h
  refine g_getR fl_SW_18 (Or.inl ⟨_, rfl⟩) (dk_SW_way 1 rfl) c1 ?_
  obtain ⟨c2, h⟩ := p_gdE h
  refine g_getR fl_SW_77 (Or.inl ⟨_, rfl⟩) (dk_SW_way 2 rfl) c2 ?_
  refine g_iload_n (i := 1) (j := 1) (dk_SW_way 3 rfl) rfl rfl ?_
  obtain ⟨c3, h⟩ := p_gdE h
  obtain ⟨r8, s4, q5, h⟩ := p_bdE h
  have t6 := tF_State_find K l (p_R s0 (p_R s0 v0 1) 1) v1 s0 _ q5
  refine g_callV (a := (p_R s0 (p_R s0 v0 1) 1)) (ci := 7) (q0 := (RX7, TX7, 9)) (As := [p_i v1]) (rest := []) [p_r r8] mt_State_find rfl rfl tw_4_22 tw_4_23 tw_4_21 ⟨Nat.le_of_ble_eq_true rfl, Nat.le_of_ble_eq_true rfl⟩ rfl (Nat.le_of_ble_eq_true rfl) (dk_SW_way 4 rfl) rfl c3 rfl t6 ?_
  have hs7 : p_x s0 s4 := t6.1
  show p_Go K l m_SW_way 11 [(0, p_r v0), (1, p_i v1), (2, p_i v2)] [p_r r8] s4 _
  refine g_astore_n (i := 3) [(3, p_r r8), (0, p_r v0), (1, p_i v1), (2, p_i v2)] (dk_SW_way 5 rfl) rfl (by decide) rfl ?_
  refine g_aload_n (i := 3) (j := 0) (dk_SW_way 6 rfl) rfl rfl ?_
  refine g_ifnonnull 18 (dk_SW_way 7 rfl) (by decide) (fun b9 => ?_) (fun b9 => ?_)
  · have h := p_ifT b9 h
    refine g_iload_n (i := 2) (j := 3) (dk_SW_way 10 rfl) rfl rfl ?_
    refine g_if_lt 36 (dk_SW_way 11 rfl) (by decide) (fun b10 => ?_) (fun b10 => ?_)
    · have h := p_ifT b10 h
      refine g_sub [] [] rfl ?_
      exact tB_SW_way_36 K l s4 _ h
    · have h := p_ifF b10 h
      refine g_iload_n (i := 2) (j := 3) (dk_SW_way 12 rfl) rfl rfl ?_
      refine g_aload_n (i := 3) (j := 0) (dk_SW_way 13 rfl) rfl rfl ?_
      obtain ⟨c11, h⟩ := p_gdE h
      refine g_getI fl_SW_306 (Or.inl rfl) (dk_SW_way 14 rfl) c11 ?_
      refine g_icmp_ge 36 (dk_SW_way 15 rfl) (by decide) (fun b12 => ?_) (fun b12 => ?_)
      · have h := p_ifT b12 h
        refine g_sub [] [] rfl ?_
        exact tB_SW_way_36 K l s4 _ h
      · have h := p_ifF b12 h
        refine g_iload_n (i := 2) (j := 3) (dk_SW_way 16 rfl) rfl rfl ?_
        refine g_bipush (dk_SW_way 17 rfl) rfl (by decide) ?_
        refine g_icmp_lt 41 (dk_SW_way 18 rfl) (by decide) (fun b13 => ?_) (fun b13 => ?_)
        · have h := p_ifT b13 h
          refine g_aload_n (i := 3) (j := 0) (dk_SW_way 21 rfl) rfl rfl ?_
          refine g_getR fl_SW_309 (Or.inr ⟨_, rfl⟩) (dk_SW_way 22 rfl) c11 ?_
          refine g_iload_n (i := 2) (j := 3) (dk_SW_way 23 rfl) rfl rfl ?_
          obtain ⟨c14, h⟩ := p_gdE h
          obtain ⟨c15, h⟩ := p_gdE h
          refine g_iaload (dk_SW_way 24 rfl) c14 c15.1 c15.2 ?_
          cases h
          exact g_ret rfl rfl (dk_SW_way 25 rfl) (fun os => ⟨_, rfl, p_okh os⟩)
        · have h := p_ifF b13 h
          refine g_sub [] [] rfl ?_
          exact tB_SW_way_36 K l s4 _ h
  · have h := p_ifF b9 h
    refine g_iconst (dk_SW_way 8 rfl) (by decide) ?_
    cases h
    exact g_ret rfl rfl (dk_SW_way 9 rfl) (fun os => ⟨_, rfl, p_okh os⟩)
def m_SW_byteOf : p_Me := (⟨"SortWorks", "byteOf", "(II)I"⟩, prog_1_method_40_code, 4, (some .int), 1, 22)
theorem mt_SW_byteOf : p_Mt m_SW_byteOf 2 := ⟨p_mem (p_tb5 (List.mem_of_getElem? (i := 148) rfl)) rfl, tw_1_1, by decide +kernel, by decide +kernel, by decide +kernel⟩
def dt_SW_byteOf : List (Nat × Instr × Nat) := [(0, .aload_n 0, 1), (1, .getfield 18, 3), (4, .getfield 77, 3), (7, .iload_n 1, 1), (8, .invokevirtual 200, 3), (11, .astore_n 3, 1), (12, .aload_n 3, 1), (13, .ifnonnull 5, 3), (16, .iconst (-1), 1), (17, .ireturn, 1), (18, .iload_n 2, 1), (19, .ifCond .lt 11, 3), (22, .iload_n 2, 1), (23, .aload_n 3, 1), (24, .getfield 207, 3), (27, .if_icmp .lt 8, 3), (30, .bipush (-9), 2), (32, .goto 9, 3), (35, .aload_n 3, 1), (36, .getfield 204, 3), (39, .iload_n 2, 1), (40, .iaload, 1), (41, .ireturn, 1)]
theorem dk_SW_byteOf (i : Nat) {pc : Nat} {ins : Instr} {len : Nat} (h : dt_SW_byteOf[i]? = some (pc, ins, len)) : decode m_SW_byteOf.2.1 pc = .ok (ins, len) := p_dk (b := m_SW_byteOf.2.1) (t := dt_SW_byteOf) (by decide +kernel) i h
def B_SW_byteOf_30   (s0 : p_Hp) : Option (Int × p_Hp) :=
  some ((-9), s0)
def F_SW_byteOf (v0 : Nat) (v1 : Int) (v2 : Int) (s0 : p_Hp) : Option (Int × p_Hp) :=
  p_gd (p_is s0 v0 10) <|
  p_gd (p_is s0 (p_R s0 v0 1) 9) <|
  p_gd (p_is s0 (p_R s0 (p_R s0 v0 1) 1) 7) <|
  p_bd (F_State_find (p_R s0 (p_R s0 v0 1) 1) v1 s0) fun r8 s4 =>
  if r8 ≠ 0 then
    if v2 < 0 then
      B_SW_byteOf_30 s4
    else
      p_gd (p_is s4 r8 4) <|
      if v2 < (p_Z s4 r8 11) then
        p_gd (p_is s4 (p_R s4 r8 12) 100) <|
        p_gd (0 ≤ v2 ∧ v2 < (p_L s4 (p_R s4 r8 12) : Int)) <|
        some ((p_Z s4 (p_R s4 r8 12) (v2).toNat), s4)
      else
        B_SW_byteOf_30 s4
  else
    some ((-1), s4)
set_option maxRecDepth 100000 in
set_option maxHeartbeats 4000000 in
theorem tB_SW_byteOf_30 (K : p_K) (l : Launch)   (s0 : p_Hp) (r : (Int × p_Hp)) (h : B_SW_byteOf_30  s0 = some r) : p_Go K l m_SW_byteOf 30 [] [] s0 (some (p_i r.1), r.2) := by
  unfold B_SW_byteOf_30 at h
  refine g_bipush (dk_SW_byteOf 16 rfl) rfl (by decide) ?_
  refine g_goto 41 (dk_SW_byteOf 17 rfl) (by decide) ?_
  cases h
  exact g_ret rfl rfl (dk_SW_byteOf 22 rfl) (fun os => ⟨_, rfl, p_okh os⟩)
set_option maxRecDepth 100000 in
set_option maxHeartbeats 4000000 in
theorem tF_SW_byteOf (K : p_K) (l : Launch) (v0 : Nat) (v1 : Int) (v2 : Int) (s0 : p_Hp) (r : (Int × p_Hp)) (h : F_SW_byteOf v0 v1 v2 s0 = some r) : p_Ct K l m_SW_byteOf [p_r v0, p_i v1, p_i v2] s0 (some (p_i r.1), r.2) := by
  refine p_Ct.of (by decide) (Nat.le_of_ble_eq_true rfl) ?_
  unfold F_SW_byteOf at h
  show p_Go K l m_SW_byteOf 0 [(0, p_r v0), (1, p_i v1), (2, p_i v2)] [] s0 _
  refine g_aload_n (i := 0) (j := 0) (dk_SW_byteOf 0 rfl) rfl rfl ?_
  obtain ⟨c1, h⟩ := p_gdE h
  refine g_getR fl_SW_18 (Or.inl ⟨_, rfl⟩) (dk_SW_byteOf 1 rfl) c1 ?_
  obtain ⟨c2, h⟩ := p_gdE h
  refine g_getR fl_SW_77 (Or.inl ⟨_, rfl⟩) (dk_SW_byteOf 2 rfl) c2 ?_
  refine g_iload_n (i := 1) (j := 1) (dk_SW_byteOf 3 rfl) rfl rfl ?_
  obtain ⟨c3, h⟩ := p_gdE h
  obtain ⟨r8, s4, q5, h⟩ := p_bdE h
  have t6 := tF_State_find K l (p_R s0 (p_R s0 v0 1) 1) v1 s0 _ q5
  refine g_callV (a := (p_R s0 (p_R s0 v0 1) 1)) (ci := 7) (q0 := (RX7, TX7, 9)) (As := [p_i v1]) (rest := []) [p_r r8] mt_State_find rfl rfl tw_4_22 tw_4_23 tw_4_21 ⟨Nat.le_of_ble_eq_true rfl, Nat.le_of_ble_eq_true rfl⟩ rfl (Nat.le_of_ble_eq_true rfl) (dk_SW_byteOf 4 rfl) rfl c3 rfl t6 ?_
  have hs7 : p_x s0 s4 := t6.1
  show p_Go K l m_SW_byteOf 11 [(0, p_r v0), (1, p_i v1), (2, p_i v2)] [p_r r8] s4 _
  refine g_astore_n (i := 3) [(3, p_r r8), (0, p_r v0), (1, p_i v1), (2, p_i v2)] (dk_SW_byteOf 5 rfl) rfl (by decide) rfl ?_
  refine g_aload_n (i := 3) (j := 0) (dk_SW_byteOf 6 rfl) rfl rfl ?_
  refine g_ifnonnull 18 (dk_SW_byteOf 7 rfl) (by decide) (fun b9 => ?_) (fun b9 => ?_)
  · have h := p_ifT b9 h
    refine g_iload_n (i := 2) (j := 3) (dk_SW_byteOf 10 rfl) rfl rfl ?_
    refine g_if_lt 30 (dk_SW_byteOf 11 rfl) (by decide) (fun b10 => ?_) (fun b10 => ?_)
    · have h := p_ifT b10 h
      refine g_sub [] [] rfl ?_
      exact tB_SW_byteOf_30 K l s4 _ h
    · have h := p_ifF b10 h
      refine g_iload_n (i := 2) (j := 3) (dk_SW_byteOf 12 rfl) rfl rfl ?_
      refine g_aload_n (i := 3) (j := 0) (dk_SW_byteOf 13 rfl) rfl rfl ?_
      obtain ⟨c11, h⟩ := p_gdE h
      refine g_getI fl_SW_207 (Or.inl rfl) (dk_SW_byteOf 14 rfl) c11 ?_
      refine g_icmp_lt 35 (dk_SW_byteOf 15 rfl) (by decide) (fun b12 => ?_) (fun b12 => ?_)
      · have h := p_ifT b12 h
        refine g_aload_n (i := 3) (j := 0) (dk_SW_byteOf 18 rfl) rfl rfl ?_
        refine g_getR fl_SW_204 (Or.inr ⟨_, rfl⟩) (dk_SW_byteOf 19 rfl) c11 ?_
        refine g_iload_n (i := 2) (j := 3) (dk_SW_byteOf 20 rfl) rfl rfl ?_
        obtain ⟨c13, h⟩ := p_gdE h
        obtain ⟨c14, h⟩ := p_gdE h
        refine g_iaload (dk_SW_byteOf 21 rfl) c13 c14.1 c14.2 ?_
        cases h
        exact g_ret rfl rfl (dk_SW_byteOf 22 rfl) (fun os => ⟨_, rfl, p_okh os⟩)
      · have h := p_ifF b12 h
        refine g_sub [] [] rfl ?_
        exact tB_SW_byteOf_30 K l s4 _ h
  · have h := p_ifF b9 h
    refine g_iconst (dk_SW_byteOf 8 rfl) (by decide) ?_
    cases h
    exact g_ret rfl rfl (dk_SW_byteOf 9 rfl) (fun os => ⟨_, rfl, p_okh os⟩)
def m_SW_left : p_Me := (⟨"SortWorks", "left", "(I)I"⟩, prog_1_method_41_code, 2, (some .int), 0, 0)
theorem mt_SW_left : p_Mt m_SW_left 1 := ⟨p_mem (p_tb5 (List.mem_of_getElem? (i := 152) rfl)) rfl, tw_1_1, by decide +kernel, by decide +kernel, by decide +kernel⟩
def dt_SW_left : List (Nat × Instr × Nat) := [(0, .iload_n 1, 1), (1, .iconst 1, 1), (2, .if_icmp .lt 14, 3), (5, .iload_n 1, 1), (6, .aload_n 0, 1), (7, .getfield 25, 3), (10, .getfield 194, 3), (13, .if_icmp .le 7, 3), (16, .iconst (-1), 1), (17, .goto 12, 3), (20, .aload_n 0, 1), (21, .getfield 25, 3), (24, .getfield 312, 3), (27, .iload_n 1, 1), (28, .iaload, 1), (29, .ireturn, 1)]
theorem dk_SW_left (i : Nat) {pc : Nat} {ins : Instr} {len : Nat} (h : dt_SW_left[i]? = some (pc, ins, len)) : decode m_SW_left.2.1 pc = .ok (ins, len) := p_dk (b := m_SW_left.2.1) (t := dt_SW_left) (by decide +kernel) i h
def B_SW_left_16   (s0 : p_Hp) : Option (Int × p_Hp) :=
  some ((-1), s0)
def F_SW_left (v0 : Nat) (v1 : Int) (s0 : p_Hp) : Option (Int × p_Hp) :=
  if v1 < 1 then
    B_SW_left_16 s0
  else
    p_gd (p_is s0 v0 10) <|
    p_gd (p_is s0 (p_R s0 v0 2) 3) <|
    if v1 ≤ (p_Z s0 (p_R s0 v0 2) 1) then
      p_gd (p_is s0 (p_R s0 (p_R s0 v0 2) 0) 100) <|
      p_gd (0 ≤ v1 ∧ v1 < (p_L s0 (p_R s0 (p_R s0 v0 2) 0) : Int)) <|
      some ((p_Z s0 (p_R s0 (p_R s0 v0 2) 0) (v1).toNat), s0)
    else
      B_SW_left_16 s0
set_option maxRecDepth 100000 in
set_option maxHeartbeats 4000000 in
theorem tB_SW_left_16 (K : p_K) (l : Launch)   (s0 : p_Hp) (r : (Int × p_Hp)) (h : B_SW_left_16  s0 = some r) : p_Go K l m_SW_left 16 [] [] s0 (some (p_i r.1), r.2) := by
  unfold B_SW_left_16 at h
  refine g_iconst (dk_SW_left 8 rfl) (by decide) ?_
  refine g_goto 29 (dk_SW_left 9 rfl) (by decide) ?_
  cases h
  exact g_ret rfl rfl (dk_SW_left 15 rfl) (fun os => ⟨_, rfl, p_okh os⟩)
set_option maxRecDepth 100000 in
set_option maxHeartbeats 4000000 in
theorem tF_SW_left (K : p_K) (l : Launch) (v0 : Nat) (v1 : Int) (s0 : p_Hp) (r : (Int × p_Hp)) (h : F_SW_left v0 v1 s0 = some r) : p_Ct K l m_SW_left [p_r v0, p_i v1] s0 (some (p_i r.1), r.2) := by
  refine p_Ct.of (by decide) (Nat.le_of_ble_eq_true rfl) ?_
  unfold F_SW_left at h
  show p_Go K l m_SW_left 0 [(0, p_r v0), (1, p_i v1)] [] s0 _
  refine g_iload_n (i := 1) (j := 1) (dk_SW_left 0 rfl) rfl rfl ?_
  refine g_iconst (dk_SW_left 1 rfl) (by decide) ?_
  refine g_icmp_lt 16 (dk_SW_left 2 rfl) (by decide) (fun b1 => ?_) (fun b1 => ?_)
  · have h := p_ifT b1 h
    refine g_sub [] [] rfl ?_
    exact tB_SW_left_16 K l s0 _ h
  · have h := p_ifF b1 h
    refine g_iload_n (i := 1) (j := 1) (dk_SW_left 3 rfl) rfl rfl ?_
    refine g_aload_n (i := 0) (j := 0) (dk_SW_left 4 rfl) rfl rfl ?_
    obtain ⟨c2, h⟩ := p_gdE h
    refine g_getR fl_SW_25 (Or.inl ⟨_, rfl⟩) (dk_SW_left 5 rfl) c2 ?_
    obtain ⟨c3, h⟩ := p_gdE h
    refine g_getI fl_SW_194 (Or.inl rfl) (dk_SW_left 6 rfl) c3 ?_
    refine g_icmp_le 20 (dk_SW_left 7 rfl) (by decide) (fun b4 => ?_) (fun b4 => ?_)
    · have h := p_ifT b4 h
      refine g_aload_n (i := 0) (j := 0) (dk_SW_left 10 rfl) rfl rfl ?_
      refine g_getR fl_SW_25 (Or.inl ⟨_, rfl⟩) (dk_SW_left 11 rfl) c2 ?_
      refine g_getR fl_SW_312 (Or.inr ⟨_, rfl⟩) (dk_SW_left 12 rfl) c3 ?_
      refine g_iload_n (i := 1) (j := 1) (dk_SW_left 13 rfl) rfl rfl ?_
      obtain ⟨c5, h⟩ := p_gdE h
      obtain ⟨c6, h⟩ := p_gdE h
      refine g_iaload (dk_SW_left 14 rfl) c5 c6.1 c6.2 ?_
      cases h
      exact g_ret rfl rfl (dk_SW_left 15 rfl) (fun os => ⟨_, rfl, p_okh os⟩)
    · have h := p_ifF b4 h
      refine g_sub [] [] rfl ?_
      exact tB_SW_left_16 K l s0 _ h
def m_Log_tell : p_Me := (⟨"SortWorks$Log", "tell", "(II)I"⟩, prog_4_method_3_code, 3, (some .int), 0, 0)
theorem mt_Log_tell : p_Mt m_Log_tell 2 := ⟨p_mem (p_tb5 (List.mem_of_getElem? (i := 160) rfl)) rfl, tw_1_4, by decide +kernel, by decide +kernel, by decide +kernel⟩
def dt_Log_tell : List (Nat × Instr × Nat) := [(0, .iload_n 1, 1), (1, .ifCond .lt 31, 3), (4, .iload_n 1, 1), (5, .aload_n 0, 1), (6, .getfield 9, 3), (9, .if_icmp .ge 23, 3), (12, .iload_n 1, 1), (13, .aload_n 0, 1), (14, .getfield 22, 3), (17, .if_icmp .ge 15, 3), (20, .iload_n 2, 1), (21, .ifCond .lt 11, 3), (24, .iload_n 2, 1), (25, .aload_n 0, 1), (26, .getfield 15, 3), (29, .if_icmp .lt 6, 3), (32, .bipush (-9), 2), (34, .ireturn, 1), (35, .aload_n 0, 1), (36, .getfield 18, 3), (39, .aload_n 0, 1), (40, .getfield 22, 3), (43, .iconst 1, 1), (44, .isub, 1), (45, .iload_n 1, 1), (46, .isub, 1), (47, .aload_n 0, 1), (48, .getfield 9, 3), (51, .irem, 1), (52, .iconst 5, 1), (53, .imul, 1), (54, .iload_n 2, 1), (55, .iadd, 1), (56, .iaload, 1), (57, .ireturn, 1)]
theorem dk_Log_tell (i : Nat) {pc : Nat} {ins : Instr} {len : Nat} (h : dt_Log_tell[i]? = some (pc, ins, len)) : decode m_Log_tell.2.1 pc = .ok (ins, len) := p_dk (b := m_Log_tell.2.1) (t := dt_Log_tell) (by decide +kernel) i h
def F_Log_tell (v0 : Nat) (v1 : Int) (v2 : Int) (s0 : p_Hp) : Option (Int × p_Hp) :=
  if v1 < 0 then
    some ((-9), s0)
  else
    p_gd (p_is s0 v0 2) <|
    if (p_Z s0 v0 0) ≤ v1 then
      some ((-9), s0)
    else
      if (p_Z s0 v0 3) ≤ v1 then
        some ((-9), s0)
      else
        if v2 < 0 then
          some ((-9), s0)
        else
          if v2 < (p_Z s0 v0 1) then
            p_gd ((p_Z s0 v0 0) ≠ 0) <|
            p_gd (p_is s0 (p_R s0 v0 2) 100) <|
            p_gd (0 ≤ (p_w ((p_w ((p_rem (p_w ((p_w ((p_Z s0 v0 3) - 1)) - v1)) (p_Z s0 v0 0)) * 5)) + v2)) ∧ (p_w ((p_w ((p_rem (p_w ((p_w ((p_Z s0 v0 3) - 1)) - v1)) (p_Z s0 v0 0)) * 5)) + v2)) < (p_L s0 (p_R s0 v0 2) : Int)) <|
            some ((p_Z s0 (p_R s0 v0 2) ((p_w ((p_w ((p_rem (p_w ((p_w ((p_Z s0 v0 3) - 1)) - v1)) (p_Z s0 v0 0)) * 5)) + v2))).toNat), s0)
          else
            some ((-9), s0)
set_option maxRecDepth 100000 in
set_option maxHeartbeats 4000000 in
theorem tF_Log_tell (K : p_K) (l : Launch) (v0 : Nat) (v1 : Int) (v2 : Int) (s0 : p_Hp) (r : (Int × p_Hp)) (h : F_Log_tell v0 v1 v2 s0 = some r) : p_Ct K l m_Log_tell [p_r v0, p_i v1, p_i v2] s0 (some (p_i r.1), r.2) := by
  refine p_Ct.of (by decide) (Nat.le_of_ble_eq_true rfl) ?_
  unfold F_Log_tell at h
  show p_Go K l m_Log_tell 0 [(0, p_r v0), (1, p_i v1), (2, p_i v2)] [] s0 _
  refine g_iload_n (i := 1) (j := 1) (dk_Log_tell 0 rfl) rfl rfl ?_
  refine g_if_lt 32 (dk_Log_tell 1 rfl) (by decide) (fun b1 => ?_) (fun b1 => ?_)
  · have h := p_ifT b1 h
    refine g_bipush (dk_Log_tell 16 rfl) rfl (by decide) ?_
    cases h
    exact g_ret rfl rfl (dk_Log_tell 17 rfl) (fun os => ⟨_, rfl, p_okh os⟩)
  · have h := p_ifF b1 h
    refine g_iload_n (i := 1) (j := 1) (dk_Log_tell 2 rfl) rfl rfl ?_
    refine g_aload_n (i := 0) (j := 0) (dk_Log_tell 3 rfl) rfl rfl ?_
    obtain ⟨c2, h⟩ := p_gdE h
    refine g_getI fl_Log_9 (Or.inl rfl) (dk_Log_tell 4 rfl) c2 ?_
    refine g_icmp_ge 32 (dk_Log_tell 5 rfl) (by decide) (fun b3 => ?_) (fun b3 => ?_)
    · have h := p_ifT b3 h
      refine g_bipush (dk_Log_tell 16 rfl) rfl (by decide) ?_
      cases h
      exact g_ret rfl rfl (dk_Log_tell 17 rfl) (fun os => ⟨_, rfl, p_okh os⟩)
    · have h := p_ifF b3 h
      refine g_iload_n (i := 1) (j := 1) (dk_Log_tell 6 rfl) rfl rfl ?_
      refine g_aload_n (i := 0) (j := 0) (dk_Log_tell 7 rfl) rfl rfl ?_
      refine g_getI fl_Log_22 (Or.inl rfl) (dk_Log_tell 8 rfl) c2 ?_
      refine g_icmp_ge 32 (dk_Log_tell 9 rfl) (by decide) (fun b4 => ?_) (fun b4 => ?_)
      · have h := p_ifT b4 h
        refine g_bipush (dk_Log_tell 16 rfl) rfl (by decide) ?_
        cases h
        exact g_ret rfl rfl (dk_Log_tell 17 rfl) (fun os => ⟨_, rfl, p_okh os⟩)
      · have h := p_ifF b4 h
        refine g_iload_n (i := 2) (j := 2) (dk_Log_tell 10 rfl) rfl rfl ?_
        refine g_if_lt 32 (dk_Log_tell 11 rfl) (by decide) (fun b5 => ?_) (fun b5 => ?_)
        · have h := p_ifT b5 h
          refine g_bipush (dk_Log_tell 16 rfl) rfl (by decide) ?_
          cases h
          exact g_ret rfl rfl (dk_Log_tell 17 rfl) (fun os => ⟨_, rfl, p_okh os⟩)
        · have h := p_ifF b5 h
          refine g_iload_n (i := 2) (j := 2) (dk_Log_tell 12 rfl) rfl rfl ?_
          refine g_aload_n (i := 0) (j := 0) (dk_Log_tell 13 rfl) rfl rfl ?_
          refine g_getI fl_Log_15 (Or.inl rfl) (dk_Log_tell 14 rfl) c2 ?_
          refine g_icmp_lt 35 (dk_Log_tell 15 rfl) (by decide) (fun b6 => ?_) (fun b6 => ?_)
          · have h := p_ifT b6 h
            refine g_aload_n (i := 0) (j := 0) (dk_Log_tell 18 rfl) rfl rfl ?_
            refine g_getR fl_Log_18 (Or.inr ⟨_, rfl⟩) (dk_Log_tell 19 rfl) c2 ?_
            refine g_aload_n (i := 0) (j := 0) (dk_Log_tell 20 rfl) rfl rfl ?_
            refine g_getI fl_Log_22 (Or.inl rfl) (dk_Log_tell 21 rfl) c2 ?_
            refine g_iconst (dk_Log_tell 22 rfl) (by decide) ?_
            refine g_isub (dk_Log_tell 23 rfl) ?_
            refine g_iload_n (i := 1) (j := 1) (dk_Log_tell 24 rfl) rfl rfl ?_
            refine g_isub (dk_Log_tell 25 rfl) ?_
            refine g_aload_n (i := 0) (j := 0) (dk_Log_tell 26 rfl) rfl rfl ?_
            refine g_getI fl_Log_9 (Or.inl rfl) (dk_Log_tell 27 rfl) c2 ?_
            obtain ⟨c7, h⟩ := p_gdE h
            refine g_irem (dk_Log_tell 28 rfl) c7 ?_
            refine g_iconst (dk_Log_tell 29 rfl) (by decide) ?_
            refine g_imul (dk_Log_tell 30 rfl) ?_
            refine g_iload_n (i := 2) (j := 2) (dk_Log_tell 31 rfl) rfl rfl ?_
            refine g_iadd (dk_Log_tell 32 rfl) ?_
            obtain ⟨c8, h⟩ := p_gdE h
            obtain ⟨c9, h⟩ := p_gdE h
            refine g_iaload (dk_Log_tell 33 rfl) c8 c9.1 c9.2 ?_
            cases h
            exact g_ret rfl rfl (dk_Log_tell 34 rfl) (fun os => ⟨_, rfl, p_okh os⟩)
          · have h := p_ifF b6 h
            refine g_bipush (dk_Log_tell 16 rfl) rfl (by decide) ?_
            cases h
            exact g_ret rfl rfl (dk_Log_tell 17 rfl) (fun os => ⟨_, rfl, p_okh os⟩)
def m_SW_out : p_Me := (⟨"SortWorks", "out", "(II)I"⟩, prog_1_method_42_code, 3, (some .int), 1, 22)
theorem mt_SW_out : p_Mt m_SW_out 2 := ⟨p_mem (p_tb5 (List.mem_of_getElem? (i := 156) rfl)) rfl, tw_1_1, by decide +kernel, by decide +kernel, by decide +kernel⟩
def dt_SW_out : List (Nat × Instr × Nat) := [(0, .aload_n 0, 1), (1, .getfield 18, 3), (4, .getfield 77, 3), (7, .getfield 315, 3), (10, .iload_n 1, 1), (11, .iload_n 2, 1), (12, .invokevirtual 319, 3), (15, .ireturn, 1)]
theorem dk_SW_out (i : Nat) {pc : Nat} {ins : Instr} {len : Nat} (h : dt_SW_out[i]? = some (pc, ins, len)) : decode m_SW_out.2.1 pc = .ok (ins, len) := p_dk (b := m_SW_out.2.1) (t := dt_SW_out) (by decide +kernel) i h
def F_SW_out (v0 : Nat) (v1 : Int) (v2 : Int) (s0 : p_Hp) : Option (Int × p_Hp) :=
  p_gd (p_is s0 v0 10) <|
  p_gd (p_is s0 (p_R s0 v0 1) 9) <|
  p_gd (p_is s0 (p_R s0 (p_R s0 v0 1) 1) 7) <|
  p_gd (p_is s0 (p_R s0 (p_R s0 (p_R s0 v0 1) 1) 8) 2) <|
  p_bd (F_Log_tell (p_R s0 (p_R s0 (p_R s0 v0 1) 1) 8) v1 v2 s0) fun r9 s5 =>
  some (r9, s5)
set_option maxRecDepth 100000 in
set_option maxHeartbeats 4000000 in
theorem tF_SW_out (K : p_K) (l : Launch) (v0 : Nat) (v1 : Int) (v2 : Int) (s0 : p_Hp) (r : (Int × p_Hp)) (h : F_SW_out v0 v1 v2 s0 = some r) : p_Ct K l m_SW_out [p_r v0, p_i v1, p_i v2] s0 (some (p_i r.1), r.2) := by
  refine p_Ct.of (by decide) (Nat.le_of_ble_eq_true rfl) ?_
  unfold F_SW_out at h
  show p_Go K l m_SW_out 0 [(0, p_r v0), (1, p_i v1), (2, p_i v2)] [] s0 _
  refine g_aload_n (i := 0) (j := 0) (dk_SW_out 0 rfl) rfl rfl ?_
  obtain ⟨c1, h⟩ := p_gdE h
  refine g_getR fl_SW_18 (Or.inl ⟨_, rfl⟩) (dk_SW_out 1 rfl) c1 ?_
  obtain ⟨c2, h⟩ := p_gdE h
  refine g_getR fl_SW_77 (Or.inl ⟨_, rfl⟩) (dk_SW_out 2 rfl) c2 ?_
  obtain ⟨c3, h⟩ := p_gdE h
  refine g_getR fl_SW_315 (Or.inl ⟨_, rfl⟩) (dk_SW_out 3 rfl) c3 ?_
  refine g_iload_n (i := 1) (j := 1) (dk_SW_out 4 rfl) rfl rfl ?_
  refine g_iload_n (i := 2) (j := 2) (dk_SW_out 5 rfl) rfl rfl ?_
  obtain ⟨c4, h⟩ := p_gdE h
  obtain ⟨r9, s5, q6, h⟩ := p_bdE h
  have t7 := tF_Log_tell K l (p_R s0 (p_R s0 (p_R s0 v0 1) 1) 8) v1 v2 s0 _ q6
  refine g_callV (a := (p_R s0 (p_R s0 (p_R s0 v0 1) 1) 8)) (ci := 2) (q0 := (RX2, TX2, 4)) (As := [p_i v1, p_i v2]) (rest := []) [p_i r9] mt_Log_tell rfl rfl tw_5_158 tw_5_159 tw_5_157 ⟨Nat.le_of_ble_eq_true rfl, Nat.le_of_ble_eq_true rfl⟩ rfl (Nat.le_of_ble_eq_true rfl) (dk_SW_out 6 rfl) rfl c4 rfl t7 ?_
  have hs8 : p_x s0 s5 := t7.1
  show p_Go K l m_SW_out 15 [(0, p_r v0), (1, p_i v1), (2, p_i v2)] [p_i r9] s5 _
  cases h
  exact g_ret rfl rfl (dk_SW_out 7 rfl) (fun os => ⟨_, rfl, p_okh os⟩)
def m_SW_rule : p_Me := (⟨"SortWorks", "rule", "(II)I"⟩, prog_1_method_43_code, 3, (some .int), 0, 0)
theorem mt_SW_rule : p_Mt m_SW_rule 2 := ⟨p_mem (p_tb5 (List.mem_of_getElem? (i := 164) rfl)) rfl, tw_1_1, by decide +kernel, by decide +kernel, by decide +kernel⟩
def dt_SW_rule : List (Nat × Instr × Nat) := [(0, .iload_n 1, 1), (1, .ifCond .lt 17, 3), (4, .iload_n 1, 1), (5, .aload_n 0, 1), (6, .getfield 18, 3), (9, .getfield 158, 3), (12, .getfield 159, 3), (15, .if_icmp .lt 6, 3), (18, .bipush (-9), 2), (20, .ireturn, 1), (21, .iload_n 2, 1), (22, .tableswitch 65 0 2 #[26, 39, 52], 26), (48, .aload_n 0, 1), (49, .getfield 18, 3), (52, .getfield 158, 3), (55, .getfield 324, 3), (58, .iload_n 1, 1), (59, .iaload, 1), (60, .ireturn, 1), (61, .aload_n 0, 1), (62, .getfield 18, 3), (65, .getfield 158, 3), (68, .getfield 327, 3), (71, .iload_n 1, 1), (72, .iaload, 1), (73, .ireturn, 1), (74, .aload_n 0, 1), (75, .getfield 18, 3), (78, .getfield 77, 3), (81, .getfield 330, 3), (84, .iload_n 1, 1), (85, .iaload, 1), (86, .ireturn, 1), (87, .bipush (-9), 2), (89, .ireturn, 1)]
theorem dk_SW_rule (i : Nat) {pc : Nat} {ins : Instr} {len : Nat} (h : dt_SW_rule[i]? = some (pc, ins, len)) : decode m_SW_rule.2.1 pc = .ok (ins, len) := p_dk (b := m_SW_rule.2.1) (t := dt_SW_rule) (by decide +kernel) i h
def F_SW_rule (v0 : Nat) (v1 : Int) (v2 : Int) (s0 : p_Hp) : Option (Int × p_Hp) :=
  if v1 < 0 then
    some ((-9), s0)
  else
    p_gd (p_is s0 v0 10) <|
    p_gd (p_is s0 (p_R s0 v0 1) 9) <|
    p_gd (p_is s0 (p_R s0 (p_R s0 v0 1) 3) 6) <|
    if v1 < (p_Z s0 (p_R s0 (p_R s0 v0 1) 3) 0) then
      if v2 = 0 then
        p_gd (p_is s0 (p_R s0 (p_R s0 (p_R s0 v0 1) 3) 1) 100) <|
        p_gd (0 ≤ v1 ∧ v1 < (p_L s0 (p_R s0 (p_R s0 (p_R s0 v0 1) 3) 1) : Int)) <|
        some ((p_Z s0 (p_R s0 (p_R s0 (p_R s0 v0 1) 3) 1) (v1).toNat), s0)
      else if v2 = 1 then
        p_gd (p_is s0 (p_R s0 (p_R s0 (p_R s0 v0 1) 3) 2) 100) <|
        p_gd (0 ≤ v1 ∧ v1 < (p_L s0 (p_R s0 (p_R s0 (p_R s0 v0 1) 3) 2) : Int)) <|
        some ((p_Z s0 (p_R s0 (p_R s0 (p_R s0 v0 1) 3) 2) (v1).toNat), s0)
      else if v2 = 2 then
        p_gd (p_is s0 (p_R s0 (p_R s0 v0 1) 1) 7) <|
        p_gd (p_is s0 (p_R s0 (p_R s0 (p_R s0 v0 1) 1) 6) 100) <|
        p_gd (0 ≤ v1 ∧ v1 < (p_L s0 (p_R s0 (p_R s0 (p_R s0 v0 1) 1) 6) : Int)) <|
        some ((p_Z s0 (p_R s0 (p_R s0 (p_R s0 v0 1) 1) 6) (v1).toNat), s0)
      else 
      some ((-9), s0)
    else
      some ((-9), s0)
set_option maxRecDepth 100000 in
set_option maxHeartbeats 4000000 in
theorem tF_SW_rule (K : p_K) (l : Launch) (v0 : Nat) (v1 : Int) (v2 : Int) (s0 : p_Hp) (r : (Int × p_Hp)) (h : F_SW_rule v0 v1 v2 s0 = some r) : p_Ct K l m_SW_rule [p_r v0, p_i v1, p_i v2] s0 (some (p_i r.1), r.2) := by
  refine p_Ct.of (by decide) (Nat.le_of_ble_eq_true rfl) ?_
  unfold F_SW_rule at h
  show p_Go K l m_SW_rule 0 [(0, p_r v0), (1, p_i v1), (2, p_i v2)] [] s0 _
  refine g_iload_n (i := 1) (j := 1) (dk_SW_rule 0 rfl) rfl rfl ?_
  refine g_if_lt 18 (dk_SW_rule 1 rfl) (by decide) (fun b1 => ?_) (fun b1 => ?_)
  · have h := p_ifT b1 h
    refine g_bipush (dk_SW_rule 8 rfl) rfl (by decide) ?_
    cases h
    exact g_ret rfl rfl (dk_SW_rule 9 rfl) (fun os => ⟨_, rfl, p_okh os⟩)
  · have h := p_ifF b1 h
    refine g_iload_n (i := 1) (j := 1) (dk_SW_rule 2 rfl) rfl rfl ?_
    refine g_aload_n (i := 0) (j := 0) (dk_SW_rule 3 rfl) rfl rfl ?_
    obtain ⟨c2, h⟩ := p_gdE h
    refine g_getR fl_SW_18 (Or.inl ⟨_, rfl⟩) (dk_SW_rule 4 rfl) c2 ?_
    obtain ⟨c3, h⟩ := p_gdE h
    refine g_getR fl_SW_158 (Or.inl ⟨_, rfl⟩) (dk_SW_rule 5 rfl) c3 ?_
    obtain ⟨c4, h⟩ := p_gdE h
    refine g_getI fl_SW_159 (Or.inl rfl) (dk_SW_rule 6 rfl) c4 ?_
    refine g_icmp_lt 21 (dk_SW_rule 7 rfl) (by decide) (fun b5 => ?_) (fun b5 => ?_)
    · have h := p_ifT b5 h
      refine g_iload_n (i := 2) (j := 2) (dk_SW_rule 10 rfl) rfl rfl ?_
      rcases p_iteE h with ⟨b6, h⟩ | ⟨b6, h⟩
      · refine g_tableIn 48 (dk_SW_rule 11 rfl) (by omega) (by omega) (by rw [b6]; rfl) (by decide) ?_
        refine g_aload_n (i := 0) (j := 0) (dk_SW_rule 12 rfl) rfl rfl ?_
        refine g_getR fl_SW_18 (Or.inl ⟨_, rfl⟩) (dk_SW_rule 13 rfl) c2 ?_
        refine g_getR fl_SW_158 (Or.inl ⟨_, rfl⟩) (dk_SW_rule 14 rfl) c3 ?_
        refine g_getR fl_SW_324 (Or.inr ⟨_, rfl⟩) (dk_SW_rule 15 rfl) c4 ?_
        refine g_iload_n (i := 1) (j := 1) (dk_SW_rule 16 rfl) rfl rfl ?_
        obtain ⟨c7, h⟩ := p_gdE h
        obtain ⟨c8, h⟩ := p_gdE h
        refine g_iaload (dk_SW_rule 17 rfl) c7 c8.1 c8.2 ?_
        cases h
        exact g_ret rfl rfl (dk_SW_rule 18 rfl) (fun os => ⟨_, rfl, p_okh os⟩)
      rcases p_iteE h with ⟨b9, h⟩ | ⟨b9, h⟩
      · refine g_tableIn 61 (dk_SW_rule 11 rfl) (by omega) (by omega) (by rw [b9]; rfl) (by decide) ?_
        refine g_aload_n (i := 0) (j := 0) (dk_SW_rule 19 rfl) rfl rfl ?_
        refine g_getR fl_SW_18 (Or.inl ⟨_, rfl⟩) (dk_SW_rule 20 rfl) c2 ?_
        refine g_getR fl_SW_158 (Or.inl ⟨_, rfl⟩) (dk_SW_rule 21 rfl) c3 ?_
        refine g_getR fl_SW_327 (Or.inr ⟨_, rfl⟩) (dk_SW_rule 22 rfl) c4 ?_
        refine g_iload_n (i := 1) (j := 1) (dk_SW_rule 23 rfl) rfl rfl ?_
        obtain ⟨c10, h⟩ := p_gdE h
        obtain ⟨c11, h⟩ := p_gdE h
        refine g_iaload (dk_SW_rule 24 rfl) c10 c11.1 c11.2 ?_
        cases h
        exact g_ret rfl rfl (dk_SW_rule 25 rfl) (fun os => ⟨_, rfl, p_okh os⟩)
      rcases p_iteE h with ⟨b12, h⟩ | ⟨b12, h⟩
      · refine g_tableIn 74 (dk_SW_rule 11 rfl) (by omega) (by omega) (by rw [b12]; rfl) (by decide) ?_
        refine g_aload_n (i := 0) (j := 0) (dk_SW_rule 26 rfl) rfl rfl ?_
        refine g_getR fl_SW_18 (Or.inl ⟨_, rfl⟩) (dk_SW_rule 27 rfl) c2 ?_
        refine g_getR fl_SW_77 (Or.inl ⟨_, rfl⟩) (dk_SW_rule 28 rfl) c3 ?_
        obtain ⟨c13, h⟩ := p_gdE h
        refine g_getR fl_SW_330 (Or.inr ⟨_, rfl⟩) (dk_SW_rule 29 rfl) c13 ?_
        refine g_iload_n (i := 1) (j := 1) (dk_SW_rule 30 rfl) rfl rfl ?_
        obtain ⟨c14, h⟩ := p_gdE h
        obtain ⟨c15, h⟩ := p_gdE h
        refine g_iaload (dk_SW_rule 31 rfl) c14 c15.1 c15.2 ?_
        cases h
        exact g_ret rfl rfl (dk_SW_rule 32 rfl) (fun os => ⟨_, rfl, p_okh os⟩)
      refine g_tableOut 87 (dk_SW_rule 11 rfl) (by omega) (by decide) ?_
      refine g_bipush (dk_SW_rule 33 rfl) rfl (by decide) ?_
      cases h
      exact g_ret rfl rfl (dk_SW_rule 34 rfl) (fun os => ⟨_, rfl, p_okh os⟩)
    · have h := p_ifF b5 h
      refine g_bipush (dk_SW_rule 8 rfl) rfl (by decide) ?_
      cases h
      exact g_ret rfl rfl (dk_SW_rule 9 rfl) (fun os => ⟨_, rfl, p_okh os⟩)
def m_SW_said : p_Me := (⟨"SortWorks", "said", "(I)I"⟩, prog_1_method_44_code, 2, (some .int), 0, 0)
theorem mt_SW_said : p_Mt m_SW_said 1 := ⟨p_mem (p_tb5 (List.mem_of_getElem? (i := 168) rfl)) rfl, tw_1_1, by decide +kernel, by decide +kernel, by decide +kernel⟩
def dt_SW_said : List (Nat × Instr × Nat) := [(0, .iload_n 1, 1), (1, .ifCond .lt 17, 3), (4, .iload_n 1, 1), (5, .aload_n 0, 1), (6, .getfield 18, 3), (9, .getfield 158, 3), (12, .getfield 333, 3), (15, .if_icmp .lt 8, 3), (18, .bipush (-9), 2), (20, .goto 15, 3), (23, .aload_n 0, 1), (24, .getfield 18, 3), (27, .getfield 158, 3), (30, .getfield 336, 3), (33, .iload_n 1, 1), (34, .iaload, 1), (35, .ireturn, 1)]
theorem dk_SW_said (i : Nat) {pc : Nat} {ins : Instr} {len : Nat} (h : dt_SW_said[i]? = some (pc, ins, len)) : decode m_SW_said.2.1 pc = .ok (ins, len) := p_dk (b := m_SW_said.2.1) (t := dt_SW_said) (by decide +kernel) i h
def B_SW_said_18   (s0 : p_Hp) : Option (Int × p_Hp) :=
  some ((-9), s0)
def F_SW_said (v0 : Nat) (v1 : Int) (s0 : p_Hp) : Option (Int × p_Hp) :=
  if v1 < 0 then
    B_SW_said_18 s0
  else
    p_gd (p_is s0 v0 10) <|
    p_gd (p_is s0 (p_R s0 v0 1) 9) <|
    p_gd (p_is s0 (p_R s0 (p_R s0 v0 1) 3) 6) <|
    if v1 < (p_Z s0 (p_R s0 (p_R s0 v0 1) 3) 8) then
      p_gd (p_is s0 (p_R s0 (p_R s0 (p_R s0 v0 1) 3) 7) 100) <|
      p_gd (0 ≤ v1 ∧ v1 < (p_L s0 (p_R s0 (p_R s0 (p_R s0 v0 1) 3) 7) : Int)) <|
      some ((p_Z s0 (p_R s0 (p_R s0 (p_R s0 v0 1) 3) 7) (v1).toNat), s0)
    else
      B_SW_said_18 s0
set_option maxRecDepth 100000 in
set_option maxHeartbeats 4000000 in
theorem tB_SW_said_18 (K : p_K) (l : Launch)   (s0 : p_Hp) (r : (Int × p_Hp)) (h : B_SW_said_18  s0 = some r) : p_Go K l m_SW_said 18 [] [] s0 (some (p_i r.1), r.2) := by
  unfold B_SW_said_18 at h
  refine g_bipush (dk_SW_said 8 rfl) rfl (by decide) ?_
  refine g_goto 35 (dk_SW_said 9 rfl) (by decide) ?_
  cases h
  exact g_ret rfl rfl (dk_SW_said 16 rfl) (fun os => ⟨_, rfl, p_okh os⟩)
set_option maxRecDepth 100000 in
set_option maxHeartbeats 4000000 in
theorem tF_SW_said (K : p_K) (l : Launch) (v0 : Nat) (v1 : Int) (s0 : p_Hp) (r : (Int × p_Hp)) (h : F_SW_said v0 v1 s0 = some r) : p_Ct K l m_SW_said [p_r v0, p_i v1] s0 (some (p_i r.1), r.2) := by
  refine p_Ct.of (by decide) (Nat.le_of_ble_eq_true rfl) ?_
  unfold F_SW_said at h
  show p_Go K l m_SW_said 0 [(0, p_r v0), (1, p_i v1)] [] s0 _
  refine g_iload_n (i := 1) (j := 1) (dk_SW_said 0 rfl) rfl rfl ?_
  refine g_if_lt 18 (dk_SW_said 1 rfl) (by decide) (fun b1 => ?_) (fun b1 => ?_)
  · have h := p_ifT b1 h
    refine g_sub [] [] rfl ?_
    exact tB_SW_said_18 K l s0 _ h
  · have h := p_ifF b1 h
    refine g_iload_n (i := 1) (j := 1) (dk_SW_said 2 rfl) rfl rfl ?_
    refine g_aload_n (i := 0) (j := 0) (dk_SW_said 3 rfl) rfl rfl ?_
    obtain ⟨c2, h⟩ := p_gdE h
    refine g_getR fl_SW_18 (Or.inl ⟨_, rfl⟩) (dk_SW_said 4 rfl) c2 ?_
    obtain ⟨c3, h⟩ := p_gdE h
    refine g_getR fl_SW_158 (Or.inl ⟨_, rfl⟩) (dk_SW_said 5 rfl) c3 ?_
    obtain ⟨c4, h⟩ := p_gdE h
    refine g_getI fl_SW_333 (Or.inl rfl) (dk_SW_said 6 rfl) c4 ?_
    refine g_icmp_lt 23 (dk_SW_said 7 rfl) (by decide) (fun b5 => ?_) (fun b5 => ?_)
    · have h := p_ifT b5 h
      refine g_aload_n (i := 0) (j := 0) (dk_SW_said 10 rfl) rfl rfl ?_
      refine g_getR fl_SW_18 (Or.inl ⟨_, rfl⟩) (dk_SW_said 11 rfl) c2 ?_
      refine g_getR fl_SW_158 (Or.inl ⟨_, rfl⟩) (dk_SW_said 12 rfl) c3 ?_
      refine g_getR fl_SW_336 (Or.inr ⟨_, rfl⟩) (dk_SW_said 13 rfl) c4 ?_
      refine g_iload_n (i := 1) (j := 1) (dk_SW_said 14 rfl) rfl rfl ?_
      obtain ⟨c6, h⟩ := p_gdE h
      obtain ⟨c7, h⟩ := p_gdE h
      refine g_iaload (dk_SW_said 15 rfl) c6 c7.1 c7.2 ?_
      cases h
      exact g_ret rfl rfl (dk_SW_said 16 rfl) (fun os => ⟨_, rfl, p_okh os⟩)
    · have h := p_ifF b5 h
      refine g_sub [] [] rfl ?_
      exact tB_SW_said_18 K l s0 _ h
def m_SW_unused : p_Me := (⟨"SortWorks", "unused", "(I)I"⟩, prog_1_method_45_code, 4, (some .int), 0, 0)
theorem mt_SW_unused : p_Mt m_SW_unused 1 := ⟨p_mem (p_tb5 (List.mem_of_getElem? (i := 172) rfl)) rfl, tw_1_1, by decide +kernel, by decide +kernel, by decide +kernel⟩
def dt_SW_unused : List (Nat × Instr × Nat) := [(0, .iconst 0, 1), (1, .istore_n 2, 1), (2, .iconst 0, 1), (3, .istore_n 3, 1), (4, .iload_n 3, 1), (5, .aload_n 0, 1), (6, .getfield 18, 3), (9, .getfield 158, 3), (12, .getfield 159, 3), (15, .if_icmp .ge 34, 3), (18, .aload_n 0, 1), (19, .getfield 18, 3), (22, .getfield 77, 3), (25, .getfield 330, 3), (28, .iload_n 3, 1), (29, .iaload, 1), (30, .ifCond .ne 13, 3), (33, .iload_n 2, 1), (34, .iload_n 1, 1), (35, .if_icmp .ne 5, 3), (38, .iload_n 3, 1), (39, .ireturn, 1), (40, .iinc 2 1, 3), (43, .iinc 3 1, 3), (46, .goto (-42), 3), (49, .bipush (-9), 2), (51, .ireturn, 1)]
theorem dk_SW_unused (i : Nat) {pc : Nat} {ins : Instr} {len : Nat} (h : dt_SW_unused[i]? = some (pc, ins, len)) : decode m_SW_unused.2.1 pc = .ok (ins, len) := p_dk (b := m_SW_unused.2.1) (t := dt_SW_unused) (by decide +kernel) i h
def B_SW_unused_43 (k4 : Nat → Int → Int → Int → p_Hp → Option (Int × p_Hp)) (v0 : Nat) (v1 : Int) (v2 : Int) (v3 : Int) (s0 : p_Hp) : Option (Int × p_Hp) :=
  p_bi (p_w (v3 + 1)) fun x1 =>
  k4 v0 v1 v2 x1 s0
def L_SW_unused_4 (k4 : Nat → Int → Int → Int → p_Hp → Option (Int × p_Hp)) (v0 : Nat) (v1 : Int) (v2 : Int) (v3 : Int) (s0 : p_Hp) : Option (Int × p_Hp) :=
  p_gd (p_is s0 v0 10) <|
  p_gd (p_is s0 (p_R s0 v0 1) 9) <|
  p_gd (p_is s0 (p_R s0 (p_R s0 v0 1) 3) 6) <|
  if (p_Z s0 (p_R s0 (p_R s0 v0 1) 3) 0) ≤ v3 then
    some ((-9), s0)
  else
    p_gd (p_is s0 (p_R s0 (p_R s0 v0 1) 1) 7) <|
    p_gd (p_is s0 (p_R s0 (p_R s0 (p_R s0 v0 1) 1) 6) 100) <|
    p_gd (0 ≤ v3 ∧ v3 < (p_L s0 (p_R s0 (p_R s0 (p_R s0 v0 1) 1) 6) : Int)) <|
    if (p_Z s0 (p_R s0 (p_R s0 (p_R s0 v0 1) 1) 6) (v3).toNat) ≠ 0 then
      B_SW_unused_43 k4 v0 v1 v2 v3 s0
    else
      if v2 ≠ v1 then
        p_bi (p_w (v2 + 1)) fun x10 =>
        B_SW_unused_43 k4 v0 v1 x10 v3 s0
      else
        some (v3, s0)
def O_SW_unused_4  : Nat → Nat → Int → Int → Int → p_Hp → Option (Int × p_Hp)
  | 0 => fun _ _ _ _ _ => none
  | n + 1 => L_SW_unused_4 (O_SW_unused_4 n)
def F_SW_unused (v0 : Nat) (v1 : Int) (s0 : p_Hp) : Option (Int × p_Hp) :=
  O_SW_unused_4 3000 v0 v1 0 0 s0
set_option maxRecDepth 100000 in
set_option maxHeartbeats 4000000 in
theorem tB_SW_unused_43 (K : p_K) (l : Launch) (k4 : Nat → Int → Int → Int → p_Hp → Option (Int × p_Hp)) (hk4 : ∀ (v0 : Nat) (v1 : Int) (v2 : Int) (v3 : Int)  (s0 : p_Hp) (r : (Int × p_Hp)), k4 v0 v1 v2 v3 s0 = some r → p_Go K l m_SW_unused 4 [(0, p_r v0), (1, p_i v1), (2, p_i v2), (3, p_i v3)] [] s0 (some (p_i r.1), r.2)) (v0 : Nat) (v1 : Int) (v2 : Int) (v3 : Int) (s0 : p_Hp) (r : (Int × p_Hp)) (h : B_SW_unused_43 k4 v0 v1 v2 v3 s0 = some r) : p_Go K l m_SW_unused 43 [(0, p_r v0), (1, p_i v1), (2, p_i v2), (3, p_i v3)] [] s0 (some (p_i r.1), r.2) := by
  unfold B_SW_unused_43 at h
  refine g_iinc (j := 3) [(3, p_i (p_w (v3 + 1))), (0, p_r v0), (1, p_i v1), (2, p_i v2)] (dk_SW_unused 23 rfl) rfl (by decide) rfl ?_
  refine p_ltG (P := fun q => p_Go K l m_SW_unused 46 [(3, p_i q), (0, p_r v0), (1, p_i v1), (2, p_i v2)] [] s0 _) ?_ h
  intro x1 h
  refine g_goto 4 (dk_SW_unused 24 rfl) (by decide) ?_
  refine g_sub [(0, p_r v0), (1, p_i v1), (2, p_i v2), (3, p_i x1)] [1, 2, 3, 0] rfl ?_
  exact hk4 v0 v1 v2 x1 s0 _ h
set_option maxRecDepth 100000 in
set_option maxHeartbeats 4000000 in
theorem tL_SW_unused_4 (K : p_K) (l : Launch) (k4 : Nat → Int → Int → Int → p_Hp → Option (Int × p_Hp)) (hk4 : ∀ (v0 : Nat) (v1 : Int) (v2 : Int) (v3 : Int)  (s0 : p_Hp) (r : (Int × p_Hp)), k4 v0 v1 v2 v3 s0 = some r → p_Go K l m_SW_unused 4 [(0, p_r v0), (1, p_i v1), (2, p_i v2), (3, p_i v3)] [] s0 (some (p_i r.1), r.2)) (v0 : Nat) (v1 : Int) (v2 : Int) (v3 : Int) (s0 : p_Hp) (r : (Int × p_Hp)) (h : L_SW_unused_4 k4 v0 v1 v2 v3 s0 = some r) : p_Go K l m_SW_unused 4 [(0, p_r v0), (1, p_i v1), (2, p_i v2), (3, p_i v3)] [] s0 (some (p_i r.1), r.2) := by
  unfold L_SW_unused_4 at h
  refine g_iload_n (i := 3) (j := 3) (dk_SW_unused 4 rfl) rfl rfl ?_
  refine g_aload_n (i := 0) (j := 0) (dk_SW_unused 5 rfl) rfl rfl ?_
  obtain ⟨c1, h⟩ := p_gdE h
  refine g_getR fl_SW_18 (Or.inl ⟨_, rfl⟩) (dk_SW_unused 6 rfl) c1 ?_
  obtain ⟨c2, h⟩ := p_gdE h
  refine g_getR fl_SW_158 (Or.inl ⟨_, rfl⟩) (dk_SW_unused 7 rfl) c2 ?_
  obtain ⟨c3, h⟩ := p_gdE h
  refine g_getI fl_SW_159 (Or.inl rfl) (dk_SW_unused 8 rfl) c3 ?_
  refine g_icmp_ge 49 (dk_SW_unused 9 rfl) (by decide) (fun b4 => ?_) (fun b4 => ?_)
  · have h := p_ifT b4 h
    refine g_bipush (dk_SW_unused 25 rfl) rfl (by decide) ?_
    cases h
    exact g_ret rfl rfl (dk_SW_unused 26 rfl) (fun os => ⟨_, rfl, p_okh os⟩)
  · have h := p_ifF b4 h
    refine g_aload_n (i := 0) (j := 0) (dk_SW_unused 10 rfl) rfl rfl ?_
    refine g_getR fl_SW_18 (Or.inl ⟨_, rfl⟩) (dk_SW_unused 11 rfl) c1 ?_
    refine g_getR fl_SW_77 (Or.inl ⟨_, rfl⟩) (dk_SW_unused 12 rfl) c2 ?_
    obtain ⟨c5, h⟩ := p_gdE h
    refine g_getR fl_SW_330 (Or.inr ⟨_, rfl⟩) (dk_SW_unused 13 rfl) c5 ?_
    refine g_iload_n (i := 3) (j := 3) (dk_SW_unused 14 rfl) rfl rfl ?_
    obtain ⟨c6, h⟩ := p_gdE h
    obtain ⟨c7, h⟩ := p_gdE h
    refine g_iaload (dk_SW_unused 15 rfl) c6 c7.1 c7.2 ?_
    refine g_if_ne 43 (dk_SW_unused 16 rfl) (by decide) (fun b8 => ?_) (fun b8 => ?_)
    · have h := p_ifT b8 h
      exact tB_SW_unused_43 K l k4 hk4 v0 v1 v2 v3 s0 _ h
    · have h := p_ifF b8 h
      refine g_iload_n (i := 2) (j := 2) (dk_SW_unused 17 rfl) rfl rfl ?_
      refine g_iload_n (i := 1) (j := 1) (dk_SW_unused 18 rfl) rfl rfl ?_
      refine g_icmp_ne 40 (dk_SW_unused 19 rfl) (by decide) (fun b9 => ?_) (fun b9 => ?_)
      · have h := p_ifT b9 h
        refine g_iinc (j := 2) [(2, p_i (p_w (v2 + 1))), (0, p_r v0), (1, p_i v1), (3, p_i v3)] (dk_SW_unused 22 rfl) rfl (by decide) rfl ?_
        refine p_ltG (P := fun q => p_Go K l m_SW_unused 43 [(2, p_i q), (0, p_r v0), (1, p_i v1), (3, p_i v3)] [] s0 _) ?_ h
        intro x10 h
        refine g_sub [(0, p_r v0), (1, p_i v1), (2, p_i x10), (3, p_i v3)] [1, 2, 0, 3] rfl ?_
        exact tB_SW_unused_43 K l k4 hk4 v0 v1 x10 v3 s0 _ h
      · have h := p_ifF b9 h
        refine g_iload_n (i := 3) (j := 3) (dk_SW_unused 20 rfl) rfl rfl ?_
        cases h
        exact g_ret rfl rfl (dk_SW_unused 21 rfl) (fun os => ⟨_, rfl, p_okh os⟩)
set_option maxRecDepth 100000 in
set_option maxHeartbeats 4000000 in
theorem tO_SW_unused_4 (K : p_K) (l : Launch)  : ∀ (n : Nat) (v0 : Nat) (v1 : Int) (v2 : Int) (v3 : Int) (s0 : p_Hp) (r : (Int × p_Hp)), O_SW_unused_4 n v0 v1 v2 v3 s0 = some r → p_Go K l m_SW_unused 4 [(0, p_r v0), (1, p_i v1), (2, p_i v2), (3, p_i v3)] [] s0 (some (p_i r.1), r.2) := by
  intro n
  induction n with
  | zero => intro v0 v1 v2 v3 s0 r h; cases (show (none : Option (Int × p_Hp)) = some r from h)
  | succ n ih => intro v0 v1 v2 v3 s0 r h; exact tL_SW_unused_4 K l _ ih v0 v1 v2 v3 s0 r h
set_option maxRecDepth 100000 in
set_option maxHeartbeats 4000000 in
theorem tF_SW_unused (K : p_K) (l : Launch) (v0 : Nat) (v1 : Int) (s0 : p_Hp) (r : (Int × p_Hp)) (h : F_SW_unused v0 v1 s0 = some r) : p_Ct K l m_SW_unused [p_r v0, p_i v1] s0 (some (p_i r.1), r.2) := by
  refine p_Ct.of (by decide) (Nat.le_of_ble_eq_true rfl) ?_
  unfold F_SW_unused at h
  show p_Go K l m_SW_unused 0 [(0, p_r v0), (1, p_i v1)] [] s0 _
  refine g_iconst (dk_SW_unused 0 rfl) (by decide) ?_
  refine g_istore_n (i := 2) [(2, p_i 0), (0, p_r v0), (1, p_i v1)] (dk_SW_unused 1 rfl) rfl (by decide) rfl ?_
  refine g_iconst (dk_SW_unused 2 rfl) (by decide) ?_
  refine g_istore_n (i := 3) [(3, p_i 0), (2, p_i 0), (0, p_r v0), (1, p_i v1)] (dk_SW_unused 3 rfl) rfl (by decide) rfl ?_
  refine g_sub [(0, p_r v0), (1, p_i v1), (2, p_i 0), (3, p_i 0)] [2, 3, 1, 0] rfl ?_
  exact tO_SW_unused_4 K l 3000 v0 v1 0 0 s0 _ h
def m_SW_finding : p_Me := (⟨"SortWorks", "finding", "(II)I"⟩, prog_1_method_46_code, 3, (some .int), 1, 22)
theorem mt_SW_finding : p_Mt m_SW_finding 2 := ⟨p_mem (p_tb5 (List.mem_of_getElem? (i := 176) rfl)) rfl, tw_1_1, by decide +kernel, by decide +kernel, by decide +kernel⟩
def dt_SW_finding : List (Nat × Instr × Nat) := [(0, .aload_n 0, 1), (1, .getfield 18, 3), (4, .getfield 77, 3), (7, .getfield 339, 3), (10, .iload_n 1, 1), (11, .iload_n 2, 1), (12, .invokevirtual 319, 3), (15, .ireturn, 1)]
theorem dk_SW_finding (i : Nat) {pc : Nat} {ins : Instr} {len : Nat} (h : dt_SW_finding[i]? = some (pc, ins, len)) : decode m_SW_finding.2.1 pc = .ok (ins, len) := p_dk (b := m_SW_finding.2.1) (t := dt_SW_finding) (by decide +kernel) i h
def F_SW_finding (v0 : Nat) (v1 : Int) (v2 : Int) (s0 : p_Hp) : Option (Int × p_Hp) :=
  p_gd (p_is s0 v0 10) <|
  p_gd (p_is s0 (p_R s0 v0 1) 9) <|
  p_gd (p_is s0 (p_R s0 (p_R s0 v0 1) 1) 7) <|
  p_gd (p_is s0 (p_R s0 (p_R s0 (p_R s0 v0 1) 1) 7) 2) <|
  p_bd (F_Log_tell (p_R s0 (p_R s0 (p_R s0 v0 1) 1) 7) v1 v2 s0) fun r9 s5 =>
  some (r9, s5)
set_option maxRecDepth 100000 in
set_option maxHeartbeats 4000000 in
theorem tF_SW_finding (K : p_K) (l : Launch) (v0 : Nat) (v1 : Int) (v2 : Int) (s0 : p_Hp) (r : (Int × p_Hp)) (h : F_SW_finding v0 v1 v2 s0 = some r) : p_Ct K l m_SW_finding [p_r v0, p_i v1, p_i v2] s0 (some (p_i r.1), r.2) := by
  refine p_Ct.of (by decide) (Nat.le_of_ble_eq_true rfl) ?_
  unfold F_SW_finding at h
  show p_Go K l m_SW_finding 0 [(0, p_r v0), (1, p_i v1), (2, p_i v2)] [] s0 _
  refine g_aload_n (i := 0) (j := 0) (dk_SW_finding 0 rfl) rfl rfl ?_
  obtain ⟨c1, h⟩ := p_gdE h
  refine g_getR fl_SW_18 (Or.inl ⟨_, rfl⟩) (dk_SW_finding 1 rfl) c1 ?_
  obtain ⟨c2, h⟩ := p_gdE h
  refine g_getR fl_SW_77 (Or.inl ⟨_, rfl⟩) (dk_SW_finding 2 rfl) c2 ?_
  obtain ⟨c3, h⟩ := p_gdE h
  refine g_getR fl_SW_339 (Or.inl ⟨_, rfl⟩) (dk_SW_finding 3 rfl) c3 ?_
  refine g_iload_n (i := 1) (j := 1) (dk_SW_finding 4 rfl) rfl rfl ?_
  refine g_iload_n (i := 2) (j := 2) (dk_SW_finding 5 rfl) rfl rfl ?_
  obtain ⟨c4, h⟩ := p_gdE h
  obtain ⟨r9, s5, q6, h⟩ := p_bdE h
  have t7 := tF_Log_tell K l (p_R s0 (p_R s0 (p_R s0 v0 1) 1) 7) v1 v2 s0 _ q6
  refine g_callV (a := (p_R s0 (p_R s0 (p_R s0 v0 1) 1) 7)) (ci := 2) (q0 := (RX2, TX2, 4)) (As := [p_i v1, p_i v2]) (rest := []) [p_i r9] mt_Log_tell rfl rfl tw_5_158 tw_5_159 tw_5_157 ⟨Nat.le_of_ble_eq_true rfl, Nat.le_of_ble_eq_true rfl⟩ rfl (Nat.le_of_ble_eq_true rfl) (dk_SW_finding 6 rfl) rfl c4 rfl t7 ?_
  have hs8 : p_x s0 s5 := t7.1
  show p_Go K l m_SW_finding 15 [(0, p_r v0), (1, p_i v1), (2, p_i v2)] [p_i r9] s5 _
  cases h
  exact g_ret rfl rfl (dk_SW_finding 7 rfl) (fun os => ⟨_, rfl, p_okh os⟩)
def m_SW_trace : p_Me := (⟨"SortWorks", "trace", "(I)I"⟩, prog_1_method_47_code, 2, (some .int), 0, 0)
theorem mt_SW_trace : p_Mt m_SW_trace 1 := ⟨p_mem (p_tb5 (List.mem_of_getElem? (i := 180) rfl)) rfl, tw_1_1, by decide +kernel, by decide +kernel, by decide +kernel⟩
def dt_SW_trace : List (Nat × Instr × Nat) := [(0, .iload_n 1, 1), (1, .ifCond .lt 20, 3), (4, .iload_n 1, 1), (5, .aload_n 0, 1), (6, .getfield 18, 3), (9, .getfield 342, 3), (12, .if_icmp .ge 9, 3), (15, .iload_n 1, 1), (16, .bipush 60, 2), (18, .if_icmp .lt 8, 3), (21, .bipush (-9), 2), (23, .goto 12, 3), (26, .aload_n 0, 1), (27, .getfield 18, 3), (30, .getfield 345, 3), (33, .iload_n 1, 1), (34, .iaload, 1), (35, .ireturn, 1)]
theorem dk_SW_trace (i : Nat) {pc : Nat} {ins : Instr} {len : Nat} (h : dt_SW_trace[i]? = some (pc, ins, len)) : decode m_SW_trace.2.1 pc = .ok (ins, len) := p_dk (b := m_SW_trace.2.1) (t := dt_SW_trace) (by decide +kernel) i h
def B_SW_trace_21   (s0 : p_Hp) : Option (Int × p_Hp) :=
  some ((-9), s0)
def F_SW_trace (v0 : Nat) (v1 : Int) (s0 : p_Hp) : Option (Int × p_Hp) :=
  if v1 < 0 then
    B_SW_trace_21 s0
  else
    p_gd (p_is s0 v0 10) <|
    p_gd (p_is s0 (p_R s0 v0 1) 9) <|
    if (p_Z s0 (p_R s0 v0 1) 11) ≤ v1 then
      B_SW_trace_21 s0
    else
      if v1 < 60 then
        p_gd (p_is s0 (p_R s0 (p_R s0 v0 1) 10) 100) <|
        p_gd (0 ≤ v1 ∧ v1 < (p_L s0 (p_R s0 (p_R s0 v0 1) 10) : Int)) <|
        some ((p_Z s0 (p_R s0 (p_R s0 v0 1) 10) (v1).toNat), s0)
      else
        B_SW_trace_21 s0
set_option maxRecDepth 100000 in
set_option maxHeartbeats 4000000 in
theorem tB_SW_trace_21 (K : p_K) (l : Launch)   (s0 : p_Hp) (r : (Int × p_Hp)) (h : B_SW_trace_21  s0 = some r) : p_Go K l m_SW_trace 21 [] [] s0 (some (p_i r.1), r.2) := by
  unfold B_SW_trace_21 at h
  refine g_bipush (dk_SW_trace 10 rfl) rfl (by decide) ?_
  refine g_goto 35 (dk_SW_trace 11 rfl) (by decide) ?_
  cases h
  exact g_ret rfl rfl (dk_SW_trace 17 rfl) (fun os => ⟨_, rfl, p_okh os⟩)
set_option maxRecDepth 100000 in
set_option maxHeartbeats 4000000 in
theorem tF_SW_trace (K : p_K) (l : Launch) (v0 : Nat) (v1 : Int) (s0 : p_Hp) (r : (Int × p_Hp)) (h : F_SW_trace v0 v1 s0 = some r) : p_Ct K l m_SW_trace [p_r v0, p_i v1] s0 (some (p_i r.1), r.2) := by
  refine p_Ct.of (by decide) (Nat.le_of_ble_eq_true rfl) ?_
  unfold F_SW_trace at h
  show p_Go K l m_SW_trace 0 [(0, p_r v0), (1, p_i v1)] [] s0 _
  refine g_iload_n (i := 1) (j := 1) (dk_SW_trace 0 rfl) rfl rfl ?_
  refine g_if_lt 21 (dk_SW_trace 1 rfl) (by decide) (fun b1 => ?_) (fun b1 => ?_)
  · have h := p_ifT b1 h
    refine g_sub [] [] rfl ?_
    exact tB_SW_trace_21 K l s0 _ h
  · have h := p_ifF b1 h
    refine g_iload_n (i := 1) (j := 1) (dk_SW_trace 2 rfl) rfl rfl ?_
    refine g_aload_n (i := 0) (j := 0) (dk_SW_trace 3 rfl) rfl rfl ?_
    obtain ⟨c2, h⟩ := p_gdE h
    refine g_getR fl_SW_18 (Or.inl ⟨_, rfl⟩) (dk_SW_trace 4 rfl) c2 ?_
    obtain ⟨c3, h⟩ := p_gdE h
    refine g_getI fl_SW_342 (Or.inl rfl) (dk_SW_trace 5 rfl) c3 ?_
    refine g_icmp_ge 21 (dk_SW_trace 6 rfl) (by decide) (fun b4 => ?_) (fun b4 => ?_)
    · have h := p_ifT b4 h
      refine g_sub [] [] rfl ?_
      exact tB_SW_trace_21 K l s0 _ h
    · have h := p_ifF b4 h
      refine g_iload_n (i := 1) (j := 1) (dk_SW_trace 7 rfl) rfl rfl ?_
      refine g_bipush (dk_SW_trace 8 rfl) rfl (by decide) ?_
      refine g_icmp_lt 26 (dk_SW_trace 9 rfl) (by decide) (fun b5 => ?_) (fun b5 => ?_)
      · have h := p_ifT b5 h
        refine g_aload_n (i := 0) (j := 0) (dk_SW_trace 12 rfl) rfl rfl ?_
        refine g_getR fl_SW_18 (Or.inl ⟨_, rfl⟩) (dk_SW_trace 13 rfl) c2 ?_
        refine g_getR fl_SW_345 (Or.inr ⟨_, rfl⟩) (dk_SW_trace 14 rfl) c3 ?_
        refine g_iload_n (i := 1) (j := 1) (dk_SW_trace 15 rfl) rfl rfl ?_
        obtain ⟨c6, h⟩ := p_gdE h
        obtain ⟨c7, h⟩ := p_gdE h
        refine g_iaload (dk_SW_trace 16 rfl) c6 c7.1 c7.2 ?_
        cases h
        exact g_ret rfl rfl (dk_SW_trace 17 rfl) (fun os => ⟨_, rfl, p_okh os⟩)
      · have h := p_ifF b5 h
        refine g_sub [] [] rfl ?_
        exact tB_SW_trace_21 K l s0 _ h
def m_SW_jam : p_Me := (⟨"SortWorks", "jam", "(I)I"⟩, prog_1_method_48_code, 4, (some .int), 3, 60)
theorem mt_SW_jam : p_Mt m_SW_jam 1 := ⟨p_mem (p_tb5 (List.mem_of_getElem? (i := 184) rfl)) rfl, tw_1_1, by decide +kernel, by decide +kernel, by decide +kernel⟩
def dt_SW_jam : List (Nat × Instr × Nat) := [(0, .iconst 0, 1), (1, .istore_n 2, 1), (2, .iconst 0, 1), (3, .istore_n 3, 1), (4, .iload_n 3, 1), (5, .aload_n 0, 1), (6, .getfield 18, 3), (9, .getfield 74, 3), (12, .if_icmp .ge 37, 3), (15, .aload_n 0, 1), (16, .getfield 18, 3), (19, .getfield 77, 3), (22, .getfield 81, 3), (25, .iload_n 3, 1), (26, .aaload, 1), (27, .invokevirtual 228, 3), (30, .ifCond .eq 13, 3), (33, .iload_n 2, 1), (34, .iload_n 1, 1), (35, .if_icmp .ne 5, 3), (38, .iload_n 3, 1), (39, .ireturn, 1), (40, .iinc 2 1, 3), (43, .iinc 3 1, 3), (46, .goto (-42), 3), (49, .bipush (-9), 2), (51, .ireturn, 1)]
theorem dk_SW_jam (i : Nat) {pc : Nat} {ins : Instr} {len : Nat} (h : dt_SW_jam[i]? = some (pc, ins, len)) : decode m_SW_jam.2.1 pc = .ok (ins, len) := p_dk (b := m_SW_jam.2.1) (t := dt_SW_jam) (by decide +kernel) i h
def B_SW_jam_43 (k4 : Nat → Int → Int → Int → p_Hp → Option (Int × p_Hp)) (v0 : Nat) (v1 : Int) (v2 : Int) (v3 : Int) (s0 : p_Hp) : Option (Int × p_Hp) :=
  p_bi (p_w (v3 + 1)) fun x1 =>
  k4 v0 v1 v2 x1 s0
def L_SW_jam_4 (k4 : Nat → Int → Int → Int → p_Hp → Option (Int × p_Hp)) (v0 : Nat) (v1 : Int) (v2 : Int) (v3 : Int) (s0 : p_Hp) : Option (Int × p_Hp) :=
  p_gd (p_is s0 v0 10) <|
  p_gd (p_is s0 (p_R s0 v0 1) 9) <|
  if (p_Z s0 (p_R s0 v0 1) 2) ≤ v3 then
    some ((-9), s0)
  else
    p_gd (p_is s0 (p_R s0 (p_R s0 v0 1) 1) 7) <|
    p_gd (p_is s0 (p_R s0 (p_R s0 (p_R s0 v0 1) 1) 4) 106) <|
    p_gd (0 ≤ v3 ∧ v3 < (p_L s0 (p_R s0 (p_R s0 (p_R s0 v0 1) 1) 4) : Int)) <|
    p_gd (p_is s0 (p_R s0 (p_R s0 (p_R s0 (p_R s0 v0 1) 1) 4) (v3).toNat) 0) <|
    p_bd (F_Gear_isJammed (p_R s0 (p_R s0 (p_R s0 (p_R s0 v0 1) 1) 4) (v3).toNat) s0) fun r12 s8 =>
    if r12 = 0 then
      B_SW_jam_43 k4 v0 v1 v2 v3 s8
    else
      if v2 ≠ v1 then
        p_bi (p_w (v2 + 1)) fun x15 =>
        B_SW_jam_43 k4 v0 v1 x15 v3 s8
      else
        some (v3, s8)
def O_SW_jam_4  : Nat → Nat → Int → Int → Int → p_Hp → Option (Int × p_Hp)
  | 0 => fun _ _ _ _ _ => none
  | n + 1 => L_SW_jam_4 (O_SW_jam_4 n)
def F_SW_jam (v0 : Nat) (v1 : Int) (s0 : p_Hp) : Option (Int × p_Hp) :=
  O_SW_jam_4 3000 v0 v1 0 0 s0
set_option maxRecDepth 100000 in
set_option maxHeartbeats 4000000 in
theorem tB_SW_jam_43 (K : p_K) (l : Launch) (k4 : Nat → Int → Int → Int → p_Hp → Option (Int × p_Hp)) (hk4 : ∀ (v0 : Nat) (v1 : Int) (v2 : Int) (v3 : Int)  (s0 : p_Hp) (r : (Int × p_Hp)), k4 v0 v1 v2 v3 s0 = some r → p_Go K l m_SW_jam 4 [(0, p_r v0), (1, p_i v1), (2, p_i v2), (3, p_i v3)] [] s0 (some (p_i r.1), r.2)) (v0 : Nat) (v1 : Int) (v2 : Int) (v3 : Int) (s0 : p_Hp) (r : (Int × p_Hp)) (h : B_SW_jam_43 k4 v0 v1 v2 v3 s0 = some r) : p_Go K l m_SW_jam 43 [(0, p_r v0), (1, p_i v1), (2, p_i v2), (3, p_i v3)] [] s0 (some (p_i r.1), r.2) := by
  unfold B_SW_jam_43 at h
  refine g_iinc (j := 3) [(3, p_i (p_w (v3 + 1))), (0, p_r v0), (1, p_i v1), (2, p_i v2)] (dk_SW_jam 23 rfl) rfl (by decide) rfl ?_
  refine p_ltG (P := fun q => p_Go K l m_SW_jam 46 [(3, p_i q), (0, p_r v0), (1, p_i v1), (2, p_i v2)] [] s0 _) ?_ h
  intro x1 h
  refine g_goto 4 (dk_SW_jam 24 rfl) (by decide) ?_
  refine g_sub [(0, p_r v0), (1, p_i v1), (2, p_i v2), (3, p_i x1)] [1, 2, 3, 0] rfl ?_
  exact hk4 v0 v1 v2 x1 s0 _ h
set_option maxRecDepth 100000 in
set_option maxHeartbeats 4000000 in
theorem tL_SW_jam_4 (K : p_K) (l : Launch) (k4 : Nat → Int → Int → Int → p_Hp → Option (Int × p_Hp)) (hk4 : ∀ (v0 : Nat) (v1 : Int) (v2 : Int) (v3 : Int)  (s0 : p_Hp) (r : (Int × p_Hp)), k4 v0 v1 v2 v3 s0 = some r → p_Go K l m_SW_jam 4 [(0, p_r v0), (1, p_i v1), (2, p_i v2), (3, p_i v3)] [] s0 (some (p_i r.1), r.2)) (v0 : Nat) (v1 : Int) (v2 : Int) (v3 : Int) (s0 : p_Hp) (r : (Int × p_Hp)) (h : L_SW_jam_4 k4 v0 v1 v2 v3 s0 = some r) : p_Go K l m_SW_jam 4 [(0, p_r v0), (1, p_i v1), (2, p_i v2), (3, p_i v3)] [] s0 (some (p_i r.1), r.2) := by
  unfold L_SW_jam_4 at h
  refine g_iload_n (i := 3) (j := 3) (dk_SW_jam 4 rfl) rfl rfl ?_
  refine g_aload_n (i := 0) (j := 0) (dk_SW_jam 5 rfl) rfl rfl ?_
  obtain ⟨c1, h⟩ := p_gdE h
  refine g_getR fl_SW_18 (Or.inl ⟨_, rfl⟩) (dk_SW_jam 6 rfl) c1 ?_
  obtain ⟨c2, h⟩ := p_gdE h
  refine g_getI fl_SW_74 (Or.inl rfl) (dk_SW_jam 7 rfl) c2 ?_
  refine g_icmp_ge 49 (dk_SW_jam 8 rfl) (by decide) (fun b3 => ?_) (fun b3 => ?_)
  · have h := p_ifT b3 h
    refine g_bipush (dk_SW_jam 25 rfl) rfl (by decide) ?_
    cases h
    exact g_ret rfl rfl (dk_SW_jam 26 rfl) (fun os => ⟨_, rfl, p_okh os⟩)
  · have h := p_ifF b3 h
    refine g_aload_n (i := 0) (j := 0) (dk_SW_jam 9 rfl) rfl rfl ?_
    refine g_getR fl_SW_18 (Or.inl ⟨_, rfl⟩) (dk_SW_jam 10 rfl) c1 ?_
    refine g_getR fl_SW_77 (Or.inl ⟨_, rfl⟩) (dk_SW_jam 11 rfl) c2 ?_
    obtain ⟨c4, h⟩ := p_gdE h
    refine g_getR fl_SW_81 (Or.inr ⟨_, rfl⟩) (dk_SW_jam 12 rfl) c4 ?_
    refine g_iload_n (i := 3) (j := 3) (dk_SW_jam 13 rfl) rfl rfl ?_
    obtain ⟨c5, h⟩ := p_gdE h
    obtain ⟨c6, h⟩ := p_gdE h
    refine g_aaload (i := 6) rfl (Or.inl ⟨_, rfl⟩) (dk_SW_jam 14 rfl) c5 c6.1 c6.2 ?_
    obtain ⟨c7, h⟩ := p_gdE h
    obtain ⟨r12, s8, q9, h⟩ := p_bdE h
    have t10 := tF_Gear_isJammed K l (p_R s0 (p_R s0 (p_R s0 (p_R s0 v0 1) 1) 4) (v3).toNat) s0 _ q9
    refine g_callV (a := (p_R s0 (p_R s0 (p_R s0 (p_R s0 v0 1) 1) 4) (v3).toNat)) (ci := 0) (q0 := (RX0, TX0, 19)) (As := []) (rest := []) [p_i r12] mt_Gear_isJammed rfl rfl tw_4_70 tw_4_71 tw_4_69 ⟨Nat.le_of_ble_eq_true rfl, Nat.le_of_ble_eq_true rfl⟩ rfl (Nat.le_of_ble_eq_true rfl) (dk_SW_jam 15 rfl) rfl c7 rfl t10 ?_
    have hs11 : p_x s0 s8 := t10.1
    show p_Go K l m_SW_jam 30 [(0, p_r v0), (1, p_i v1), (2, p_i v2), (3, p_i v3)] [p_i r12] s8 _
    refine g_if_eq 43 (dk_SW_jam 16 rfl) (by decide) (fun b13 => ?_) (fun b13 => ?_)
    · have h := p_ifT b13 h
      exact tB_SW_jam_43 K l k4 hk4 v0 v1 v2 v3 s8 _ h
    · have h := p_ifF b13 h
      refine g_iload_n (i := 2) (j := 2) (dk_SW_jam 17 rfl) rfl rfl ?_
      refine g_iload_n (i := 1) (j := 1) (dk_SW_jam 18 rfl) rfl rfl ?_
      refine g_icmp_ne 40 (dk_SW_jam 19 rfl) (by decide) (fun b14 => ?_) (fun b14 => ?_)
      · have h := p_ifT b14 h
        refine g_iinc (j := 2) [(2, p_i (p_w (v2 + 1))), (0, p_r v0), (1, p_i v1), (3, p_i v3)] (dk_SW_jam 22 rfl) rfl (by decide) rfl ?_
        refine p_ltG (P := fun q => p_Go K l m_SW_jam 43 [(2, p_i q), (0, p_r v0), (1, p_i v1), (3, p_i v3)] [] s8 _) ?_ h
        intro x15 h
        refine g_sub [(0, p_r v0), (1, p_i v1), (2, p_i x15), (3, p_i v3)] [1, 2, 0, 3] rfl ?_
        exact tB_SW_jam_43 K l k4 hk4 v0 v1 x15 v3 s8 _ h
      · have h := p_ifF b14 h
        refine g_iload_n (i := 3) (j := 3) (dk_SW_jam 20 rfl) rfl rfl ?_
        cases h
        exact g_ret rfl rfl (dk_SW_jam 21 rfl) (fun os => ⟨_, rfl, p_okh os⟩)
set_option maxRecDepth 100000 in
set_option maxHeartbeats 4000000 in
theorem tO_SW_jam_4 (K : p_K) (l : Launch)  : ∀ (n : Nat) (v0 : Nat) (v1 : Int) (v2 : Int) (v3 : Int) (s0 : p_Hp) (r : (Int × p_Hp)), O_SW_jam_4 n v0 v1 v2 v3 s0 = some r → p_Go K l m_SW_jam 4 [(0, p_r v0), (1, p_i v1), (2, p_i v2), (3, p_i v3)] [] s0 (some (p_i r.1), r.2) := by
  intro n
  induction n with
  | zero => intro v0 v1 v2 v3 s0 r h; cases (show (none : Option (Int × p_Hp)) = some r from h)
  | succ n ih => intro v0 v1 v2 v3 s0 r h; exact tL_SW_jam_4 K l _ ih v0 v1 v2 v3 s0 r h
set_option maxRecDepth 100000 in
set_option maxHeartbeats 4000000 in
theorem tF_SW_jam (K : p_K) (l : Launch) (v0 : Nat) (v1 : Int) (s0 : p_Hp) (r : (Int × p_Hp)) (h : F_SW_jam v0 v1 s0 = some r) : p_Ct K l m_SW_jam [p_r v0, p_i v1] s0 (some (p_i r.1), r.2) := by
  refine p_Ct.of (by decide) (Nat.le_of_ble_eq_true rfl) ?_
  unfold F_SW_jam at h
  show p_Go K l m_SW_jam 0 [(0, p_r v0), (1, p_i v1)] [] s0 _
  refine g_iconst (dk_SW_jam 0 rfl) (by decide) ?_
  refine g_istore_n (i := 2) [(2, p_i 0), (0, p_r v0), (1, p_i v1)] (dk_SW_jam 1 rfl) rfl (by decide) rfl ?_
  refine g_iconst (dk_SW_jam 2 rfl) (by decide) ?_
  refine g_istore_n (i := 3) [(3, p_i 0), (2, p_i 0), (0, p_r v0), (1, p_i v1)] (dk_SW_jam 3 rfl) rfl (by decide) rfl ?_
  refine g_sub [(0, p_r v0), (1, p_i v1), (2, p_i 0), (3, p_i 0)] [2, 3, 1, 0] rfl ?_
  exact tO_SW_jam_4 K l 3000 v0 v1 0 0 s0 _ h
def m_Works_goAhead : p_Me := (⟨"SortWorks$Works", "goAhead", "(II)Z"⟩, prog_11_method_12_code, 7, (some .boolean), 2, 40)
theorem mt_Works_goAhead : p_Mt m_Works_goAhead 2 := ⟨p_mem (p_tb5 (List.mem_of_getElem? (i := 201) rfl)) rfl, tw_1_2, by decide +kernel, by decide +kernel, by decide +kernel⟩
def dt_Works_goAhead : List (Nat × Instr × Nat) := [(0, .aload_n 0, 1), (1, .getfield 12, 3), (4, .getfield 60, 3), (7, .iload_n 1, 1), (8, .aaload, 1), (9, .astore_n 3, 1), (10, .iconst 0, 1), (11, .istore 4, 2), (13, .iconst 0, 1), (14, .istore 5, 2), (16, .iload 5, 2), (18, .getstatic 138, 3), (21, .aload_n 3, 1), (22, .getfield 119, 3), (25, .iaload, 1), (26, .if_icmp .ge 71, 3), (29, .aload_n 0, 1), (30, .aload_n 3, 1), (31, .iload 5, 2), (33, .invokevirtual 141, 3), (36, .istore 6, 2), (38, .iload 6, 2), (40, .ifCond .lt 51, 3), (43, .aload_n 0, 1), (44, .getfield 12, 3), (47, .getfield 60, 3), (50, .iload 6, 2), (52, .aaload, 1), (53, .invokevirtual 145, 3), (56, .ifCond .eq 35, 3), (59, .iload_n 2, 1), (60, .aload_n 3, 1), (61, .getfield 148, 3), (64, .iadd, 1), (65, .aload_n 0, 1), (66, .getfield 50, 3), (69, .iload 6, 2), (71, .iaload, 1), (72, .if_icmp .ge 19, 3), (75, .aload_n 0, 1), (76, .getfield 50, 3), (79, .iload 6, 2), (81, .iload_n 2, 1), (82, .aload_n 3, 1), (83, .getfield 148, 3), (86, .iadd, 1), (87, .iastore, 1), (88, .iconst 1, 1), (89, .istore 4, 2), (91, .iinc 5 1, 3), (94, .goto (-78), 3), (97, .iload 4, 2), (99, .ireturn, 1)]
theorem dk_Works_goAhead (i : Nat) {pc : Nat} {ins : Instr} {len : Nat} (h : dt_Works_goAhead[i]? = some (pc, ins, len)) : decode m_Works_goAhead.2.1 pc = .ok (ins, len) := p_dk (b := m_Works_goAhead.2.1) (t := dt_Works_goAhead) (by decide +kernel) i h
def B_Works_goAhead_91 (k16 : Nat → Int → Nat → Int → Int → p_Hp → Option (Int × p_Hp)) (v0 : Nat) (v2 : Int) (v3 : Nat) (v4 : Int) (v5 : Int) (s0 : p_Hp) : Option (Int × p_Hp) :=
  p_bi (p_w (v5 + 1)) fun x1 =>
  k16 v0 v2 v3 v4 x1 s0
def L_Works_goAhead_16 (k16 : Nat → Int → Nat → Int → Int → p_Hp → Option (Int × p_Hp)) (v0 : Nat) (v2 : Int) (v3 : Nat) (v4 : Int) (v5 : Int) (s0 : p_Hp) : Option (Int × p_Hp) :=
  p_gd (p_is s0 v3 0) <|
  p_gd (0 ≤ (p_Z s0 v3 0) ∧ (p_Z s0 v3 0) < (sw_tl 2 : Int)) <|
  if (sw_tab 2 ((p_Z s0 v3 0)).toNat) ≤ v5 then
    p_gd (v4 = 0 ∨ v4 = 1) <|
    some (v4, s0)
  else
    p_gd (p_is s0 v0 9) <|
    p_bd (F_Works_follow v0 v3 v5 s0) fun r10 s6 =>
    if r10 < 0 then
      B_Works_goAhead_91 k16 v0 v2 v3 v4 v5 s6
    else
      p_gd (p_is s6 (p_R s6 v0 1) 7) <|
      p_gd (p_is s6 (p_R s6 (p_R s6 v0 1) 4) 106) <|
      p_gd (0 ≤ r10 ∧ r10 < (p_L s6 (p_R s6 (p_R s6 v0 1) 4) : Int)) <|
      p_gd (p_is s6 (p_R s6 (p_R s6 (p_R s6 v0 1) 4) (r10).toNat) 0) <|
      p_bd (F_Gear_isTaker (p_R s6 (p_R s6 (p_R s6 v0 1) 4) (r10).toNat) s6) fun r20 s16 =>
      if r20 = 0 then
        B_Works_goAhead_91 k16 v0 v2 v3 v4 v5 s16
      else
        p_gd (p_is s16 (p_R s16 v0 15) 100) <|
        p_gd (0 ≤ r10 ∧ r10 < (p_L s16 (p_R s16 v0 15) : Int)) <|
        if (p_Z s16 (p_R s16 v0 15) (r10).toNat) ≤ (p_w (v2 + (p_Z s16 v3 1))) then
          B_Works_goAhead_91 k16 v0 v2 v3 v4 v5 s16
        else
          p_gd (0 ≤ r10 ∧ r10 < (p_L s16 (p_R s16 v0 15) : Int)) <|
          p_bi (p_wZ s16 (p_R s16 v0 15) (r10).toNat (p_w (v2 + (p_Z s16 v3 1)))) fun s26 =>
          B_Works_goAhead_91 k16 v0 v2 v3 1 v5 s26
def O_Works_goAhead_16  : Nat → Nat → Int → Nat → Int → Int → p_Hp → Option (Int × p_Hp)
  | 0 => fun _ _ _ _ _ _ => none
  | n + 1 => L_Works_goAhead_16 (O_Works_goAhead_16 n)
def F_Works_goAhead (v0 : Nat) (v1 : Int) (v2 : Int) (s0 : p_Hp) : Option (Int × p_Hp) :=
  p_gd (p_is s0 v0 9) <|
  p_gd (p_is s0 (p_R s0 v0 1) 7) <|
  p_gd (p_is s0 (p_R s0 (p_R s0 v0 1) 4) 106) <|
  p_gd (0 ≤ v1 ∧ v1 < (p_L s0 (p_R s0 (p_R s0 v0 1) 4) : Int)) <|
  p_bi ((p_R s0 (p_R s0 (p_R s0 v0 1) 4) (v1).toNat)) fun x5 =>
  O_Works_goAhead_16 3000 v0 v2 x5 0 0 s0
set_option maxRecDepth 100000 in
set_option maxHeartbeats 4000000 in
theorem tB_Works_goAhead_91 (K : p_K) (l : Launch) (k16 : Nat → Int → Nat → Int → Int → p_Hp → Option (Int × p_Hp)) (hk16 : ∀ (v0 : Nat) (v2 : Int) (v3 : Nat) (v4 : Int) (v5 : Int)  (s0 : p_Hp) (r : (Int × p_Hp)), k16 v0 v2 v3 v4 v5 s0 = some r → p_Go K l m_Works_goAhead 16 [(0, p_r v0), (2, p_i v2), (3, p_r v3), (4, p_i v4), (5, p_i v5)] [] s0 (some (p_i r.1), r.2)) (v0 : Nat) (v2 : Int) (v3 : Nat) (v4 : Int) (v5 : Int) (s0 : p_Hp) (r : (Int × p_Hp)) (h : B_Works_goAhead_91 k16 v0 v2 v3 v4 v5 s0 = some r) : p_Go K l m_Works_goAhead 91 [(0, p_r v0), (2, p_i v2), (3, p_r v3), (4, p_i v4), (5, p_i v5)] [] s0 (some (p_i r.1), r.2) := by
  unfold B_Works_goAhead_91 at h
  refine g_iinc (j := 4) [(5, p_i (p_w (v5 + 1))), (0, p_r v0), (2, p_i v2), (3, p_r v3), (4, p_i v4)] (dk_Works_goAhead 49 rfl) rfl (by decide) rfl ?_
  refine p_ltG (P := fun q => p_Go K l m_Works_goAhead 94 [(5, p_i q), (0, p_r v0), (2, p_i v2), (3, p_r v3), (4, p_i v4)] [] s0 _) ?_ h
  intro x1 h
  refine g_goto 16 (dk_Works_goAhead 50 rfl) (by decide) ?_
  refine g_sub [(0, p_r v0), (2, p_i v2), (3, p_r v3), (4, p_i v4), (5, p_i x1)] [1, 2, 3, 4, 0] rfl ?_
  exact hk16 v0 v2 v3 v4 x1 s0 _ h
set_option maxRecDepth 100000 in
set_option maxHeartbeats 4000000 in
theorem tL_Works_goAhead_16 (K : p_K) (l : Launch) (k16 : Nat → Int → Nat → Int → Int → p_Hp → Option (Int × p_Hp)) (hk16 : ∀ (v0 : Nat) (v2 : Int) (v3 : Nat) (v4 : Int) (v5 : Int)  (s0 : p_Hp) (r : (Int × p_Hp)), k16 v0 v2 v3 v4 v5 s0 = some r → p_Go K l m_Works_goAhead 16 [(0, p_r v0), (2, p_i v2), (3, p_r v3), (4, p_i v4), (5, p_i v5)] [] s0 (some (p_i r.1), r.2)) (v0 : Nat) (v2 : Int) (v3 : Nat) (v4 : Int) (v5 : Int) (s0 : p_Hp) (r : (Int × p_Hp)) (h : L_Works_goAhead_16 k16 v0 v2 v3 v4 v5 s0 = some r) : p_Go K l m_Works_goAhead 16 [(0, p_r v0), (2, p_i v2), (3, p_r v3), (4, p_i v4), (5, p_i v5)] [] s0 (some (p_i r.1), r.2) := by
  unfold L_Works_goAhead_16 at h
  refine g_iload (j := 4) (dk_Works_goAhead 10 rfl) rfl ?_
  refine g_getstatic (j := 2) rfl (by decide) (dk_Works_goAhead 11 rfl) ?_
  refine g_aload_n (i := 3) (j := 2) (dk_Works_goAhead 12 rfl) rfl rfl ?_
  obtain ⟨c1, h⟩ := p_gdE h
  refine g_getI fl_Works_119 (Or.inl rfl) (dk_Works_goAhead 13 rfl) c1 ?_
  obtain ⟨c2, h⟩ := p_gdE h
  refine g_tabS (by decide) (dk_Works_goAhead 14 rfl) c2.1 c2.2 ?_
  refine g_icmp_ge 97 (dk_Works_goAhead 15 rfl) (by decide) (fun b3 => ?_) (fun b3 => ?_)
  · have h := p_ifT b3 h
    refine g_iload (j := 3) (dk_Works_goAhead 51 rfl) rfl ?_
    obtain ⟨c4, h⟩ := p_gdE h
    cases h
    exact g_ret rfl rfl (dk_Works_goAhead 52 rfl) (fun _ => ⟨_, rfl, c4⟩)
  · have h := p_ifF b3 h
    refine g_aload_n (i := 0) (j := 0) (dk_Works_goAhead 16 rfl) rfl rfl ?_
    refine g_aload_n (i := 3) (j := 2) (dk_Works_goAhead 17 rfl) rfl rfl ?_
    refine g_iload (j := 4) (dk_Works_goAhead 18 rfl) rfl ?_
    obtain ⟨c5, h⟩ := p_gdE h
    obtain ⟨r10, s6, q7, h⟩ := p_bdE h
    have t8 := tF_Works_follow K l v0 v3 v5 s0 _ q7
    refine g_callV (a := v0) (ci := 9) (q0 := (RX9, TX9, 16)) (As := [p_r v3, p_i v5]) (rest := []) [p_i r10] mt_Works_follow rfl rfl tw_4_208 tw_4_209 tw_5_203 ⟨Nat.le_of_ble_eq_true rfl, Nat.le_of_ble_eq_true rfl⟩ rfl (Nat.le_of_ble_eq_true rfl) (dk_Works_goAhead 19 rfl) rfl c5 rfl t8 ?_
    have hs9 : p_x s0 s6 := t8.1
    show p_Go K l m_Works_goAhead 36 [(0, p_r v0), (2, p_i v2), (3, p_r v3), (4, p_i v4), (5, p_i v5)] [p_i r10] s6 _
    refine g_istore [(6, p_i r10), (0, p_r v0), (2, p_i v2), (3, p_r v3), (4, p_i v4), (5, p_i v5)] (dk_Works_goAhead 20 rfl) (by decide) rfl ?_
    refine g_iload (j := 0) (dk_Works_goAhead 21 rfl) rfl ?_
    refine g_if_lt 91 (dk_Works_goAhead 22 rfl) (by decide) (fun b11 => ?_) (fun b11 => ?_)
    · have h := p_ifT b11 h
      refine g_sub [(0, p_r v0), (2, p_i v2), (3, p_r v3), (4, p_i v4), (5, p_i v5)] [1, 2, 3, 4, 5] rfl ?_
      exact tB_Works_goAhead_91 K l k16 hk16 v0 v2 v3 v4 v5 s6 _ h
    · have h := p_ifF b11 h
      refine g_aload_n (i := 0) (j := 1) (dk_Works_goAhead 23 rfl) rfl rfl ?_
      refine g_getR fl_Works_12 (Or.inl ⟨_, rfl⟩) (dk_Works_goAhead 24 rfl) (c5.up hs9) ?_
      obtain ⟨c12, h⟩ := p_gdE h
      refine g_getR fl_Works_60 (Or.inr ⟨_, rfl⟩) (dk_Works_goAhead 25 rfl) c12 ?_
      refine g_iload (j := 0) (dk_Works_goAhead 26 rfl) rfl ?_
      obtain ⟨c13, h⟩ := p_gdE h
      obtain ⟨c14, h⟩ := p_gdE h
      refine g_aaload (i := 6) rfl (Or.inl ⟨_, rfl⟩) (dk_Works_goAhead 27 rfl) c13 c14.1 c14.2 ?_
      obtain ⟨c15, h⟩ := p_gdE h
      obtain ⟨r20, s16, q17, h⟩ := p_bdE h
      have t18 := tF_Gear_isTaker K l (p_R s6 (p_R s6 (p_R s6 v0 1) 4) (r10).toNat) s6 _ q17
      refine g_callV (a := (p_R s6 (p_R s6 (p_R s6 v0 1) 4) (r10).toNat)) (ci := 0) (q0 := (RX0, TX0, 19)) (As := []) (rest := []) [p_i r20] mt_Gear_isTaker rfl rfl tw_3_125 tw_3_126 tw_5_204 ⟨Nat.le_of_ble_eq_true rfl, Nat.le_of_ble_eq_true rfl⟩ rfl (Nat.le_of_ble_eq_true rfl) (dk_Works_goAhead 28 rfl) rfl c15 rfl t18 ?_
      have hs19 : p_x s6 s16 := t18.1
      show p_Go K l m_Works_goAhead 56 [(6, p_i r10), (0, p_r v0), (2, p_i v2), (3, p_r v3), (4, p_i v4), (5, p_i v5)] [p_i r20] s16 _
      refine g_if_eq 91 (dk_Works_goAhead 29 rfl) (by decide) (fun b21 => ?_) (fun b21 => ?_)
      · have h := p_ifT b21 h
        refine g_sub [(0, p_r v0), (2, p_i v2), (3, p_r v3), (4, p_i v4), (5, p_i v5)] [1, 2, 3, 4, 5] rfl ?_
        exact tB_Works_goAhead_91 K l k16 hk16 v0 v2 v3 v4 v5 s16 _ h
      · have h := p_ifF b21 h
        refine g_iload_n (i := 2) (j := 2) (dk_Works_goAhead 30 rfl) rfl rfl ?_
        refine g_aload_n (i := 3) (j := 3) (dk_Works_goAhead 31 rfl) rfl rfl ?_
        refine g_getI fl_Works_148 (Or.inl rfl) (dk_Works_goAhead 32 rfl) (c1.up (hs9.trans hs19)) ?_
        refine g_iadd (dk_Works_goAhead 33 rfl) ?_
        refine g_aload_n (i := 0) (j := 1) (dk_Works_goAhead 34 rfl) rfl rfl ?_
        refine g_getR fl_Works_50 (Or.inr ⟨_, rfl⟩) (dk_Works_goAhead 35 rfl) (c5.up (hs9.trans hs19)) ?_
        refine g_iload (j := 0) (dk_Works_goAhead 36 rfl) rfl ?_
        obtain ⟨c22, h⟩ := p_gdE h
        obtain ⟨c23, h⟩ := p_gdE h
        refine g_iaload (dk_Works_goAhead 37 rfl) c22 c23.1 c23.2 ?_
        refine g_icmp_ge 91 (dk_Works_goAhead 38 rfl) (by decide) (fun b24 => ?_) (fun b24 => ?_)
        · have h := p_ifT b24 h
          refine g_sub [(0, p_r v0), (2, p_i v2), (3, p_r v3), (4, p_i v4), (5, p_i v5)] [1, 2, 3, 4, 5] rfl ?_
          exact tB_Works_goAhead_91 K l k16 hk16 v0 v2 v3 v4 v5 s16 _ h
        · have h := p_ifF b24 h
          refine g_aload_n (i := 0) (j := 1) (dk_Works_goAhead 39 rfl) rfl rfl ?_
          refine g_getR fl_Works_50 (Or.inr ⟨_, rfl⟩) (dk_Works_goAhead 40 rfl) (c5.up (hs9.trans hs19)) ?_
          refine g_iload (j := 0) (dk_Works_goAhead 41 rfl) rfl ?_
          refine g_iload_n (i := 2) (j := 2) (dk_Works_goAhead 42 rfl) rfl rfl ?_
          refine g_aload_n (i := 3) (j := 3) (dk_Works_goAhead 43 rfl) rfl rfl ?_
          refine g_getI fl_Works_148 (Or.inl rfl) (dk_Works_goAhead 44 rfl) (c1.up (hs9.trans hs19)) ?_
          refine g_iadd (dk_Works_goAhead 45 rfl) ?_
          obtain ⟨c25, h⟩ := p_gdE h
          refine g_iastore (dk_Works_goAhead 46 rfl) c22 c25.1 c25.2 ?_
          refine p_ltS (P := fun q => p_Go K l m_Works_goAhead 88 [(6, p_i r10), (0, p_r v0), (2, p_i v2), (3, p_r v3), (4, p_i v4), (5, p_i v5)] [] q _) (p_xZ _ _ _ _) ?_ h
          intro s26 hs27 h
          refine g_iconst (dk_Works_goAhead 47 rfl) (by decide) ?_
          refine g_istore [(4, p_i 1), (6, p_i r10), (0, p_r v0), (2, p_i v2), (3, p_r v3), (5, p_i v5)] (dk_Works_goAhead 48 rfl) (by decide) rfl ?_
          refine g_sub [(0, p_r v0), (2, p_i v2), (3, p_r v3), (4, p_i 1), (5, p_i v5)] [2, 3, 4, 0, 5] rfl ?_
          exact tB_Works_goAhead_91 K l k16 hk16 v0 v2 v3 1 v5 s26 _ h
set_option maxRecDepth 100000 in
set_option maxHeartbeats 4000000 in
theorem tO_Works_goAhead_16 (K : p_K) (l : Launch)  : ∀ (n : Nat) (v0 : Nat) (v2 : Int) (v3 : Nat) (v4 : Int) (v5 : Int) (s0 : p_Hp) (r : (Int × p_Hp)), O_Works_goAhead_16 n v0 v2 v3 v4 v5 s0 = some r → p_Go K l m_Works_goAhead 16 [(0, p_r v0), (2, p_i v2), (3, p_r v3), (4, p_i v4), (5, p_i v5)] [] s0 (some (p_i r.1), r.2) := by
  intro n
  induction n with
  | zero => intro v0 v2 v3 v4 v5 s0 r h; cases (show (none : Option (Int × p_Hp)) = some r from h)
  | succ n ih => intro v0 v2 v3 v4 v5 s0 r h; exact tL_Works_goAhead_16 K l _ ih v0 v2 v3 v4 v5 s0 r h
set_option maxRecDepth 100000 in
set_option maxHeartbeats 4000000 in
theorem tF_Works_goAhead (K : p_K) (l : Launch) (v0 : Nat) (v1 : Int) (v2 : Int) (s0 : p_Hp) (r : (Int × p_Hp)) (h : F_Works_goAhead v0 v1 v2 s0 = some r) : p_Ct K l m_Works_goAhead [p_r v0, p_i v1, p_i v2] s0 (some (p_i r.1), r.2) := by
  refine p_Ct.of (by decide) (Nat.le_of_ble_eq_true rfl) ?_
  unfold F_Works_goAhead at h
  show p_Go K l m_Works_goAhead 0 [(0, p_r v0), (1, p_i v1), (2, p_i v2)] [] s0 _
  refine g_aload_n (i := 0) (j := 0) (dk_Works_goAhead 0 rfl) rfl rfl ?_
  obtain ⟨c1, h⟩ := p_gdE h
  refine g_getR fl_Works_12 (Or.inl ⟨_, rfl⟩) (dk_Works_goAhead 1 rfl) c1 ?_
  obtain ⟨c2, h⟩ := p_gdE h
  refine g_getR fl_Works_60 (Or.inr ⟨_, rfl⟩) (dk_Works_goAhead 2 rfl) c2 ?_
  refine g_iload_n (i := 1) (j := 1) (dk_Works_goAhead 3 rfl) rfl rfl ?_
  obtain ⟨c3, h⟩ := p_gdE h
  obtain ⟨c4, h⟩ := p_gdE h
  refine g_aaload (i := 6) rfl (Or.inl ⟨_, rfl⟩) (dk_Works_goAhead 4 rfl) c3 c4.1 c4.2 ?_
  refine g_astore_n (i := 3) [(3, p_r (p_R s0 (p_R s0 (p_R s0 v0 1) 4) (v1).toNat)), (0, p_r v0), (1, p_i v1), (2, p_i v2)] (dk_Works_goAhead 5 rfl) rfl (by decide) rfl ?_
  refine p_ltG (P := fun q => p_Go K l m_Works_goAhead 10 [(3, p_r q), (0, p_r v0), (1, p_i v1), (2, p_i v2)] [] s0 _) ?_ h
  intro x5 h
  refine g_iconst (dk_Works_goAhead 6 rfl) (by decide) ?_
  refine g_istore [(4, p_i 0), (3, p_r x5), (0, p_r v0), (1, p_i v1), (2, p_i v2)] (dk_Works_goAhead 7 rfl) (by decide) rfl ?_
  refine g_iconst (dk_Works_goAhead 8 rfl) (by decide) ?_
  refine g_istore [(5, p_i 0), (4, p_i 0), (3, p_r x5), (0, p_r v0), (1, p_i v1), (2, p_i v2)] (dk_Works_goAhead 9 rfl) (by decide) rfl ?_
  refine g_sub [(0, p_r v0), (2, p_i v2), (3, p_r x5), (4, p_i 0), (5, p_i 0)] [3, 5, 2, 1, 0] rfl ?_
  exact tO_Works_goAhead_16 K l 3000 v0 v2 x5 0 0 s0 _ h
def m_Works_measureWays : p_Me := (⟨"SortWorks$Works", "measureWays", "(I)V"⟩, prog_11_method_11_code, 5, none, 3, 66)
theorem mt_Works_measureWays : p_Mt m_Works_measureWays 1 := ⟨p_mem (p_tb5 (List.mem_of_getElem? (i := 196) rfl)) rfl, tw_1_2, by decide +kernel, by decide +kernel, by decide +kernel⟩
def dt_Works_measureWays : List (Nat × Instr × Nat) := [(0, .aload_n 0, 1), (1, .getfield 50, 3), (4, .ldc 133, 2), (6, .invokestatic 89, 3), (9, .aload_n 0, 1), (10, .iload_n 1, 1), (11, .iconst 0, 1), (12, .invokevirtual 134, 3), (15, .pop, 1), (16, .iconst 1, 1), (17, .istore_n 2, 1), (18, .iconst 0, 1), (19, .istore_n 3, 1), (20, .iload_n 3, 1), (21, .aload_n 0, 1), (22, .getfield 57, 3), (25, .if_icmp .ge 63, 3), (28, .iload_n 2, 1), (29, .ifCond .eq 59, 3), (32, .iconst 0, 1), (33, .istore_n 2, 1), (34, .iconst 0, 1), (35, .istore 4, 2), (37, .iload 4, 2), (39, .aload_n 0, 1), (40, .getfield 57, 3), (43, .if_icmp .ge 39, 3), (46, .aload_n 0, 1), (47, .getfield 50, 3), (50, .iload 4, 2), (52, .iaload, 1), (53, .ldc 133, 2), (55, .if_icmp .eq 21, 3), (58, .aload_n 0, 1), (59, .iload 4, 2), (61, .aload_n 0, 1), (62, .getfield 50, 3), (65, .iload 4, 2), (67, .iaload, 1), (68, .invokevirtual 134, 3), (71, .ifCond .eq 5, 3), (74, .iconst 1, 1), (75, .istore_n 2, 1), (76, .iinc 4 1, 3), (79, .goto (-42), 3), (82, .iinc 3 1, 3), (85, .goto (-65), 3), (88, .return_, 1)]
theorem dk_Works_measureWays (i : Nat) {pc : Nat} {ins : Instr} {len : Nat} (h : dt_Works_measureWays[i]? = some (pc, ins, len)) : decode m_Works_measureWays.2.1 pc = .ok (ins, len) := p_dk (b := m_Works_measureWays.2.1) (t := dt_Works_measureWays) (by decide +kernel) i h
def B_Works_measureWays_76 (k20 : Nat → Int → Int → p_Hp → Option p_Hp) (k37 : Nat → Int → Int → Int → p_Hp → Option p_Hp) (v0 : Nat) (v2 : Int) (v3 : Int) (v4 : Int) (s0 : p_Hp) : Option p_Hp :=
  p_bi (p_w (v4 + 1)) fun x1 =>
  k37 v0 v2 v3 x1 s0
def L_Works_measureWays_37 (k20 : Nat → Int → Int → p_Hp → Option p_Hp) (k37 : Nat → Int → Int → Int → p_Hp → Option p_Hp) (v0 : Nat) (v2 : Int) (v3 : Int) (v4 : Int) (s0 : p_Hp) : Option p_Hp :=
  p_gd (p_is s0 v0 9) <|
  if (p_Z s0 v0 2) ≤ v4 then
    p_bi (p_w (v3 + 1)) fun x3 =>
    k20 v0 v2 x3 s0
  else
    p_gd (p_is s0 (p_R s0 v0 15) 100) <|
    p_gd (0 ≤ v4 ∧ v4 < (p_L s0 (p_R s0 v0 15) : Int)) <|
    if (p_Z s0 (p_R s0 v0 15) (v4).toNat) = 1000000 then
      B_Works_measureWays_76 k20 k37 v0 v2 v3 v4 s0
    else
      p_gd (0 ≤ v4 ∧ v4 < (p_L s0 (p_R s0 v0 15) : Int)) <|
      p_bd (F_Works_goAhead v0 v4 (p_Z s0 (p_R s0 v0 15) (v4).toNat) s0) fun r12 s8 =>
      if r12 = 0 then
        B_Works_measureWays_76 k20 k37 v0 v2 v3 v4 s8
      else
        B_Works_measureWays_76 k20 k37 v0 1 v3 v4 s8
def O_Works_measureWays_37 (k20 : Nat → Int → Int → p_Hp → Option p_Hp) : Nat → Nat → Int → Int → Int → p_Hp → Option p_Hp
  | 0 => fun _ _ _ _ _ => none
  | n + 1 => L_Works_measureWays_37 k20 (O_Works_measureWays_37 k20 n)
def L_Works_measureWays_20 (k20 : Nat → Int → Int → p_Hp → Option p_Hp) (v0 : Nat) (v2 : Int) (v3 : Int) (s0 : p_Hp) : Option p_Hp :=
  p_gd (p_is s0 v0 9) <|
  if (p_Z s0 v0 2) ≤ v3 then
    some s0
  else
    if v2 = 0 then
      some s0
    else
      O_Works_measureWays_37 k20 3000 v0 0 v3 0 s0
def O_Works_measureWays_20  : Nat → Nat → Int → Int → p_Hp → Option p_Hp
  | 0 => fun _ _ _ _ => none
  | n + 1 => L_Works_measureWays_20 (O_Works_measureWays_20 n)
def F_Works_measureWays (v0 : Nat) (v1 : Int) (s0 : p_Hp) : Option p_Hp :=
  p_gd (p_is s0 v0 9) <|
  p_bv (F_Ar_fill (p_R s0 v0 15) 1000000 s0) fun s2 =>
  p_bd (F_Works_goAhead v0 v1 0 s2) fun r10 s6 =>
  O_Works_measureWays_20 3000 v0 1 0 s6
set_option maxRecDepth 100000 in
set_option maxHeartbeats 4000000 in
theorem tB_Works_measureWays_76 (K : p_K) (l : Launch) (k20 : Nat → Int → Int → p_Hp → Option p_Hp) (hk20 : ∀ (v0 : Nat) (v2 : Int) (v3 : Int)  (s0 : p_Hp) (r : p_Hp), k20 v0 v2 v3 s0 = some r → p_Go K l m_Works_measureWays 20 [(0, p_r v0), (2, p_i v2), (3, p_i v3)] [] s0 (none, r)) (k37 : Nat → Int → Int → Int → p_Hp → Option p_Hp) (hk37 : ∀ (v0 : Nat) (v2 : Int) (v3 : Int) (v4 : Int)  (s0 : p_Hp) (r : p_Hp), k37 v0 v2 v3 v4 s0 = some r → p_Go K l m_Works_measureWays 37 [(0, p_r v0), (2, p_i v2), (3, p_i v3), (4, p_i v4)] [] s0 (none, r)) (v0 : Nat) (v2 : Int) (v3 : Int) (v4 : Int) (s0 : p_Hp) (r : p_Hp) (h : B_Works_measureWays_76 k20 k37 v0 v2 v3 v4 s0 = some r) : p_Go K l m_Works_measureWays 76 [(0, p_r v0), (2, p_i v2), (3, p_i v3), (4, p_i v4)] [] s0 (none, r) := by
  unfold B_Works_measureWays_76 at h
  refine g_iinc (j := 3) [(4, p_i (p_w (v4 + 1))), (0, p_r v0), (2, p_i v2), (3, p_i v3)] (dk_Works_measureWays 43 rfl) rfl (by decide) rfl ?_
  refine p_ltG (P := fun q => p_Go K l m_Works_measureWays 79 [(4, p_i q), (0, p_r v0), (2, p_i v2), (3, p_i v3)] [] s0 _) ?_ h
  intro x1 h
  refine g_goto 37 (dk_Works_measureWays 44 rfl) (by decide) ?_
  refine g_sub [(0, p_r v0), (2, p_i v2), (3, p_i v3), (4, p_i x1)] [1, 2, 3, 0] rfl ?_
  exact hk37 v0 v2 v3 x1 s0 _ h
set_option maxRecDepth 100000 in
set_option maxHeartbeats 4000000 in
theorem tL_Works_measureWays_37 (K : p_K) (l : Launch) (k20 : Nat → Int → Int → p_Hp → Option p_Hp) (hk20 : ∀ (v0 : Nat) (v2 : Int) (v3 : Int)  (s0 : p_Hp) (r : p_Hp), k20 v0 v2 v3 s0 = some r → p_Go K l m_Works_measureWays 20 [(0, p_r v0), (2, p_i v2), (3, p_i v3)] [] s0 (none, r)) (k37 : Nat → Int → Int → Int → p_Hp → Option p_Hp) (hk37 : ∀ (v0 : Nat) (v2 : Int) (v3 : Int) (v4 : Int)  (s0 : p_Hp) (r : p_Hp), k37 v0 v2 v3 v4 s0 = some r → p_Go K l m_Works_measureWays 37 [(0, p_r v0), (2, p_i v2), (3, p_i v3), (4, p_i v4)] [] s0 (none, r)) (v0 : Nat) (v2 : Int) (v3 : Int) (v4 : Int) (s0 : p_Hp) (r : p_Hp) (h : L_Works_measureWays_37 k20 k37 v0 v2 v3 v4 s0 = some r) : p_Go K l m_Works_measureWays 37 [(0, p_r v0), (2, p_i v2), (3, p_i v3), (4, p_i v4)] [] s0 (none, r) := by
  unfold L_Works_measureWays_37 at h
  refine g_iload (j := 3) (dk_Works_measureWays 23 rfl) rfl ?_
  refine g_aload_n (i := 0) (j := 0) (dk_Works_measureWays 24 rfl) rfl rfl ?_
  obtain ⟨c1, h⟩ := p_gdE h
  refine g_getI fl_Works_57 (Or.inl rfl) (dk_Works_measureWays 25 rfl) c1 ?_
  refine g_icmp_ge 82 (dk_Works_measureWays 26 rfl) (by decide) (fun b2 => ?_) (fun b2 => ?_)
  · have h := p_ifT b2 h
    refine g_iinc (j := 2) [(3, p_i (p_w (v3 + 1))), (0, p_r v0), (2, p_i v2), (4, p_i v4)] (dk_Works_measureWays 45 rfl) rfl (by decide) rfl ?_
    refine p_ltG (P := fun q => p_Go K l m_Works_measureWays 85 [(3, p_i q), (0, p_r v0), (2, p_i v2), (4, p_i v4)] [] s0 _) ?_ h
    intro x3 h
    refine g_goto 20 (dk_Works_measureWays 46 rfl) (by decide) ?_
    refine g_sub [(0, p_r v0), (2, p_i v2), (3, p_i x3)] [1, 2, 0] rfl ?_
    exact hk20 v0 v2 x3 s0 _ h
  · have h := p_ifF b2 h
    refine g_aload_n (i := 0) (j := 0) (dk_Works_measureWays 27 rfl) rfl rfl ?_
    refine g_getR fl_Works_50 (Or.inr ⟨_, rfl⟩) (dk_Works_measureWays 28 rfl) c1 ?_
    refine g_iload (j := 3) (dk_Works_measureWays 29 rfl) rfl ?_
    obtain ⟨c4, h⟩ := p_gdE h
    obtain ⟨c5, h⟩ := p_gdE h
    refine g_iaload (dk_Works_measureWays 30 rfl) c4 c5.1 c5.2 ?_
    refine g_ldc (x := 1000000) (dk_Works_measureWays 31 rfl) tw_5_197 (by decide) ?_
    refine g_icmp_eq 76 (dk_Works_measureWays 32 rfl) (by decide) (fun b6 => ?_) (fun b6 => ?_)
    · have h := p_ifT b6 h
      exact tB_Works_measureWays_76 K l k20 hk20 k37 hk37 v0 v2 v3 v4 s0 _ h
    · have h := p_ifF b6 h
      refine g_aload_n (i := 0) (j := 0) (dk_Works_measureWays 33 rfl) rfl rfl ?_
      refine g_iload (j := 3) (dk_Works_measureWays 34 rfl) rfl ?_
      refine g_aload_n (i := 0) (j := 0) (dk_Works_measureWays 35 rfl) rfl rfl ?_
      refine g_getR fl_Works_50 (Or.inr ⟨_, rfl⟩) (dk_Works_measureWays 36 rfl) c1 ?_
      refine g_iload (j := 3) (dk_Works_measureWays 37 rfl) rfl ?_
      obtain ⟨c7, h⟩ := p_gdE h
      refine g_iaload (dk_Works_measureWays 38 rfl) c4 c7.1 c7.2 ?_
      obtain ⟨r12, s8, q9, h⟩ := p_bdE h
      have t10 := tF_Works_goAhead K l v0 v4 (p_Z s0 (p_R s0 v0 15) (v4).toNat) s0 _ q9
      refine g_callV (a := v0) (ci := 9) (q0 := (RX9, TX9, 16)) (As := [p_i v4, p_i (p_Z s0 (p_R s0 v0 15) (v4).toNat)]) (rest := []) [p_i r12] mt_Works_goAhead rfl rfl tw_5_200 ts_41 tw_5_198 ⟨Nat.le_of_ble_eq_true rfl, Nat.le_of_ble_eq_true rfl⟩ rfl (Nat.le_of_ble_eq_true rfl) (dk_Works_measureWays 39 rfl) rfl c1 rfl t10 ?_
      have hs11 : p_x s0 s8 := t10.1
      show p_Go K l m_Works_measureWays 71 [(0, p_r v0), (2, p_i v2), (3, p_i v3), (4, p_i v4)] [p_i r12] s8 _
      refine g_if_eq 76 (dk_Works_measureWays 40 rfl) (by decide) (fun b13 => ?_) (fun b13 => ?_)
      · have h := p_ifT b13 h
        exact tB_Works_measureWays_76 K l k20 hk20 k37 hk37 v0 v2 v3 v4 s8 _ h
      · have h := p_ifF b13 h
        refine g_iconst (dk_Works_measureWays 41 rfl) (by decide) ?_
        refine g_istore_n (i := 2) [(2, p_i 1), (0, p_r v0), (3, p_i v3), (4, p_i v4)] (dk_Works_measureWays 42 rfl) rfl (by decide) rfl ?_
        refine g_sub [(0, p_r v0), (2, p_i 1), (3, p_i v3), (4, p_i v4)] [1, 0, 2, 3] rfl ?_
        exact tB_Works_measureWays_76 K l k20 hk20 k37 hk37 v0 1 v3 v4 s8 _ h
set_option maxRecDepth 100000 in
set_option maxHeartbeats 4000000 in
theorem tO_Works_measureWays_37 (K : p_K) (l : Launch) (k20 : Nat → Int → Int → p_Hp → Option p_Hp) (hk20 : ∀ (v0 : Nat) (v2 : Int) (v3 : Int)  (s0 : p_Hp) (r : p_Hp), k20 v0 v2 v3 s0 = some r → p_Go K l m_Works_measureWays 20 [(0, p_r v0), (2, p_i v2), (3, p_i v3)] [] s0 (none, r)) : ∀ (n : Nat) (v0 : Nat) (v2 : Int) (v3 : Int) (v4 : Int) (s0 : p_Hp) (r : p_Hp), O_Works_measureWays_37 k20 n v0 v2 v3 v4 s0 = some r → p_Go K l m_Works_measureWays 37 [(0, p_r v0), (2, p_i v2), (3, p_i v3), (4, p_i v4)] [] s0 (none, r) := by
  intro n
  induction n with
  | zero => intro v0 v2 v3 v4 s0 r h; cases (show (none : Option p_Hp) = some r from h)
  | succ n ih => intro v0 v2 v3 v4 s0 r h; exact tL_Works_measureWays_37 K l k20 hk20 _ ih v0 v2 v3 v4 s0 r h
set_option maxRecDepth 100000 in
set_option maxHeartbeats 4000000 in
theorem tL_Works_measureWays_20 (K : p_K) (l : Launch) (k20 : Nat → Int → Int → p_Hp → Option p_Hp) (hk20 : ∀ (v0 : Nat) (v2 : Int) (v3 : Int)  (s0 : p_Hp) (r : p_Hp), k20 v0 v2 v3 s0 = some r → p_Go K l m_Works_measureWays 20 [(0, p_r v0), (2, p_i v2), (3, p_i v3)] [] s0 (none, r)) (v0 : Nat) (v2 : Int) (v3 : Int) (s0 : p_Hp) (r : p_Hp) (h : L_Works_measureWays_20 k20 v0 v2 v3 s0 = some r) : p_Go K l m_Works_measureWays 20 [(0, p_r v0), (2, p_i v2), (3, p_i v3)] [] s0 (none, r) := by
  unfold L_Works_measureWays_20 at h
  refine g_iload_n (i := 3) (j := 2) (dk_Works_measureWays 13 rfl) rfl rfl ?_
  refine g_aload_n (i := 0) (j := 0) (dk_Works_measureWays 14 rfl) rfl rfl ?_
  obtain ⟨c1, h⟩ := p_gdE h
  refine g_getI fl_Works_57 (Or.inl rfl) (dk_Works_measureWays 15 rfl) c1 ?_
  refine g_icmp_ge 88 (dk_Works_measureWays 16 rfl) (by decide) (fun b2 => ?_) (fun b2 => ?_)
  · have h := p_ifT b2 h
    cases h
    exact g_ret rfl rfl (dk_Works_measureWays 47 rfl) (fun _ => rfl)
  · have h := p_ifF b2 h
    refine g_iload_n (i := 2) (j := 1) (dk_Works_measureWays 17 rfl) rfl rfl ?_
    refine g_if_eq 88 (dk_Works_measureWays 18 rfl) (by decide) (fun b3 => ?_) (fun b3 => ?_)
    · have h := p_ifT b3 h
      cases h
      exact g_ret rfl rfl (dk_Works_measureWays 47 rfl) (fun _ => rfl)
    · have h := p_ifF b3 h
      refine g_iconst (dk_Works_measureWays 19 rfl) (by decide) ?_
      refine g_istore_n (i := 2) [(2, p_i 0), (0, p_r v0), (3, p_i v3)] (dk_Works_measureWays 20 rfl) rfl (by decide) rfl ?_
      refine g_iconst (dk_Works_measureWays 21 rfl) (by decide) ?_
      refine g_istore [(4, p_i 0), (2, p_i 0), (0, p_r v0), (3, p_i v3)] (dk_Works_measureWays 22 rfl) (by decide) rfl ?_
      refine g_sub [(0, p_r v0), (2, p_i 0), (3, p_i v3), (4, p_i 0)] [2, 1, 3, 0] rfl ?_
      exact tO_Works_measureWays_37 K l k20 hk20 3000 v0 0 v3 0 s0 _ h
set_option maxRecDepth 100000 in
set_option maxHeartbeats 4000000 in
theorem tO_Works_measureWays_20 (K : p_K) (l : Launch)  : ∀ (n : Nat) (v0 : Nat) (v2 : Int) (v3 : Int) (s0 : p_Hp) (r : p_Hp), O_Works_measureWays_20 n v0 v2 v3 s0 = some r → p_Go K l m_Works_measureWays 20 [(0, p_r v0), (2, p_i v2), (3, p_i v3)] [] s0 (none, r) := by
  intro n
  induction n with
  | zero => intro v0 v2 v3 s0 r h; cases (show (none : Option p_Hp) = some r from h)
  | succ n ih => intro v0 v2 v3 s0 r h; exact tL_Works_measureWays_20 K l _ ih v0 v2 v3 s0 r h
set_option maxRecDepth 100000 in
set_option maxHeartbeats 4000000 in
theorem tF_Works_measureWays (K : p_K) (l : Launch) (v0 : Nat) (v1 : Int) (s0 : p_Hp) (r : p_Hp) (h : F_Works_measureWays v0 v1 s0 = some r) : p_Ct K l m_Works_measureWays [p_r v0, p_i v1] s0 (none, r) := by
  refine p_Ct.of (by decide) (Nat.le_of_ble_eq_true rfl) ?_
  unfold F_Works_measureWays at h
  show p_Go K l m_Works_measureWays 0 [(0, p_r v0), (1, p_i v1)] [] s0 _
  refine g_aload_n (i := 0) (j := 0) (dk_Works_measureWays 0 rfl) rfl rfl ?_
  obtain ⟨c1, h⟩ := p_gdE h
  refine g_getR fl_Works_50 (Or.inr ⟨_, rfl⟩) (dk_Works_measureWays 1 rfl) c1 ?_
  refine g_ldc (x := 1000000) (dk_Works_measureWays 2 rfl) tw_5_197 (by decide) ?_
  obtain ⟨s2, q3, h⟩ := p_bvE h
  have t4 := tF_Ar_fill K l (p_R s0 v0 15) 1000000 s0 _ q3
  refine g_callS (av := [p_r (p_R s0 v0 15), p_i 1000000]) (rest := []) [] mt_Ar_fill tw_3_91 tw_3_175 ⟨Nat.le_of_ble_eq_true rfl, Nat.le_of_ble_eq_true rfl⟩ rfl (Nat.le_of_ble_eq_true rfl) (dk_Works_measureWays 3 rfl) rfl rfl t4 ?_
  have hs5 : p_x s0 s2 := t4.1
  show p_Go K l m_Works_measureWays 9 [(0, p_r v0), (1, p_i v1)] [] s2 _
  refine g_aload_n (i := 0) (j := 0) (dk_Works_measureWays 4 rfl) rfl rfl ?_
  refine g_iload_n (i := 1) (j := 1) (dk_Works_measureWays 5 rfl) rfl rfl ?_
  refine g_iconst (dk_Works_measureWays 6 rfl) (by decide) ?_
  obtain ⟨r10, s6, q7, h⟩ := p_bdE h
  have t8 := tF_Works_goAhead K l v0 v1 0 s2 _ q7
  refine g_callV (a := v0) (ci := 9) (q0 := (RX9, TX9, 16)) (As := [p_i v1, p_i 0]) (rest := []) [p_i r10] mt_Works_goAhead rfl rfl tw_5_200 ts_41 tw_5_198 ⟨Nat.le_of_ble_eq_true rfl, Nat.le_of_ble_eq_true rfl⟩ rfl (Nat.le_of_ble_eq_true rfl) (dk_Works_measureWays 7 rfl) rfl (c1.up hs5) rfl t8 ?_
  have hs9 : p_x s2 s6 := t8.1
  show p_Go K l m_Works_measureWays 15 [(0, p_r v0), (1, p_i v1)] [p_i r10] s6 _
  refine g_pop (dk_Works_measureWays 8 rfl) rfl ?_
  refine g_iconst (dk_Works_measureWays 9 rfl) (by decide) ?_
  refine g_istore_n (i := 2) [(2, p_i 1), (0, p_r v0), (1, p_i v1)] (dk_Works_measureWays 10 rfl) rfl (by decide) rfl ?_
  refine g_iconst (dk_Works_measureWays 11 rfl) (by decide) ?_
  refine g_istore_n (i := 3) [(3, p_i 0), (2, p_i 1), (0, p_r v0), (1, p_i v1)] (dk_Works_measureWays 12 rfl) rfl (by decide) rfl ?_
  refine g_sub [(0, p_r v0), (2, p_i 1), (3, p_i 0)] [2, 1, 0] rfl ?_
  exact tO_Works_measureWays_20 K l 3000 v0 1 0 s6 _ h
