def m_Mo_isFull : p_Me := (⟨"SortWorksModel", "isFull", "()Z"⟩, prog_13_method_83_code, 1, (some .boolean), 0, 0)
theorem mt_Mo_isFull : p_Mt m_Mo_isFull 0 := ⟨p_mem (p_tb8 (List.mem_of_getElem? (i := 50) rfl)) rfl, tw_1_12, by decide +kernel, by decide +kernel, by decide +kernel⟩
def dt_Mo_isFull : List (Nat × Instr × Nat) := [(0, .aload_n 0, 1), (1, .getfield 224, 3), (4, .sipush 5000, 3), (7, .if_icmp .lt 7, 3), (10, .iconst 1, 1), (11, .goto 4, 3), (14, .iconst 0, 1), (15, .ireturn, 1)]
theorem dk_Mo_isFull (i : Nat) {pc : Nat} {ins : Instr} {len : Nat} (h : dt_Mo_isFull[i]? = some (pc, ins, len)) : decode m_Mo_isFull.2.1 pc = .ok (ins, len) := p_dk (b := m_Mo_isFull.2.1) (t := dt_Mo_isFull) (by decide +kernel) i h
def F_Mo_isFull (v0 : Nat) (s0 : p_Hp) : Option (Int × p_Hp) :=
  p_gd (p_is s0 v0 11) <|
  if (p_Z s0 v0 2) < 5000 then
    some (0, s0)
  else
    some (1, s0)
set_option maxRecDepth 100000 in
set_option maxHeartbeats 4000000 in
theorem tF_Mo_isFull (K : p_K) (l : Launch) (v0 : Nat) (s0 : p_Hp) (r : (Int × p_Hp)) (h : F_Mo_isFull v0 s0 = some r) : p_Ct K l m_Mo_isFull [p_r v0] s0 (some (p_i r.1), r.2) := by
  refine p_Ct.of (by decide +kernel) (Nat.le_of_ble_eq_true rfl) ?_
  unfold F_Mo_isFull at h
  show p_Go K l m_Mo_isFull 0 [(0, p_r v0)] [] s0 _
  refine g_aload_n (i := 0) (j := 0) (dk_Mo_isFull 0 rfl) rfl rfl ?_
  obtain ⟨c1, h⟩ := p_gdE h
  refine g_getI fl_Mo_224 (Or.inl rfl) (dk_Mo_isFull 1 rfl) c1 ?_
  refine g_sipush (dk_Mo_isFull 2 rfl) (by decide +kernel) (by decide) ?_
  refine g_icmp_lt 14 (dk_Mo_isFull 3 rfl) (by decide) (fun b2 => ?_) (fun b2 => ?_)
  · have h := p_ifT b2 h
    refine g_iconst (dk_Mo_isFull 6 rfl) (by decide) ?_
    cases h
    exact g_ret rfl rfl (dk_Mo_isFull 7 rfl) (fun _ => ⟨_, rfl, Or.inl rfl⟩)
  · have h := p_ifF b2 h
    refine g_iconst (dk_Mo_isFull 4 rfl) (by decide) ?_
    refine g_goto 15 (dk_Mo_isFull 5 rfl) (by decide) ?_
    cases h
    exact g_ret rfl rfl (dk_Mo_isFull 7 rfl) (fun _ => ⟨_, rfl, Or.inr rfl⟩)
def m_Mo_find : p_Me := (⟨"SortWorksModel", "find", "(III)V"⟩, prog_13_method_59_code, 5, none, 1, 21)
theorem mt_Mo_find : p_Mt m_Mo_find 3 := ⟨p_mem (p_tb8 (List.mem_of_getElem? (i := 86) rfl)) rfl, tw_1_12, by decide +kernel, by decide +kernel, by decide +kernel⟩
def dt_Mo_find : List (Nat × Instr × Nat) := [(0, .bipush 40, 2), (2, .aload_n 0, 1), (3, .getfield 227, 3), (6, .imul, 1), (7, .aload_n 0, 1), (8, .getfield 126, 3), (11, .aload_n 0, 1), (12, .getfield 227, 3), (15, .iaload, 1), (16, .bipush 40, 2), (18, .irem, 1), (19, .iadd, 1), (20, .istore 4, 2), (22, .aload_n 0, 1), (23, .getfield 129, 3), (26, .iconst 5, 1), (27, .iload 4, 2), (29, .imul, 1), (30, .aload_n 0, 1), (31, .getfield 13, 3), (34, .aload_n 0, 1), (35, .getfield 227, 3), (38, .iaload, 1), (39, .iastore, 1), (40, .aload_n 0, 1), (41, .getfield 129, 3), (44, .iconst 5, 1), (45, .iload 4, 2), (47, .imul, 1), (48, .iconst 1, 1), (49, .iadd, 1), (50, .aload_n 0, 1), (51, .getfield 379, 3), (54, .ifCond .ge 8, 3), (57, .bipush (-9), 2), (59, .goto 7, 3), (62, .aload_n 0, 1), (63, .getfield 379, 3), (66, .iastore, 1), (67, .aload_n 0, 1), (68, .getfield 129, 3), (71, .iconst 5, 1), (72, .iload 4, 2), (74, .imul, 1), (75, .iconst 2, 1), (76, .iadd, 1), (77, .iload_n 1, 1), (78, .iastore, 1), (79, .aload_n 0, 1), (80, .getfield 129, 3), (83, .iconst 5, 1), (84, .iload 4, 2), (86, .imul, 1), (87, .iconst 3, 1), (88, .iadd, 1), (89, .iload_n 2, 1), (90, .iastore, 1), (91, .aload_n 0, 1), (92, .getfield 129, 3), (95, .iconst 5, 1), (96, .iload 4, 2), (98, .imul, 1), (99, .iconst 4, 1), (100, .iadd, 1), (101, .iload_n 3, 1), (102, .iastore, 1), (103, .aload_n 0, 1), (104, .getfield 126, 3), (107, .aload_n 0, 1), (108, .getfield 227, 3), (111, .dup2, 1), (112, .iaload, 1), (113, .iconst 1, 1), (114, .iadd, 1), (115, .iastore, 1), (116, .aload_n 0, 1), (117, .dup, 1), (118, .getfield 224, 3), (121, .iconst 1, 1), (122, .iadd, 1), (123, .putfield 224, 3), (126, .aload_n 0, 1), (127, .dup, 1), (128, .getfield 382, 3), (131, .iconst 1, 1), (132, .iadd, 1), (133, .putfield 382, 3), (136, .aload_n 0, 1), (137, .getfield 379, 3), (140, .ifCond .lt 20, 3), (143, .aload_n 0, 1), (144, .getfield 63, 3), (147, .aload_n 0, 1), (148, .aload_n 0, 1), (149, .getfield 379, 3), (152, .invokevirtual 257, 3), (155, .dup2, 1), (156, .iaload, 1), (157, .iconst 1, 1), (158, .iadd, 1), (159, .iastore, 1), (160, .return_, 1)]
theorem dk_Mo_find (i : Nat) {pc : Nat} {ins : Instr} {len : Nat} (h : dt_Mo_find[i]? = some (pc, ins, len)) : decode m_Mo_find.2.1 pc = .ok (ins, len) := p_dk (b := m_Mo_find.2.1) (t := dt_Mo_find) (by decide +kernel) i h
def B_Mo_find_66  (v0 : Nat) (v1 : Int) (v2 : Int) (v3 : Int) (v4 : Int) (w0 : Int) (w1 : Int) (w2 : Nat) (s0 : p_Hp) : Option p_Hp :=
  p_gd (p_is s0 w2 100) <|
  p_gd ((0 : Int) ≤ w1 ∧ w1 < (p_L s0 w2 : Int)) <|
  p_bi (p_wZ s0 w2 (w1 : Int).toNat w0) fun s3 =>
  p_gd (p_is s3 v0 11) <|
  p_gd (p_is s3 (p_R s3 v0 43) 100) <|
  p_gd ((0 : Int) ≤ (p_w ((p_w (5 * v4)) + 2)) ∧ (p_w ((p_w (5 * v4)) + 2)) < (p_L s3 (p_R s3 v0 43) : Int)) <|
  p_bi (p_wZ s3 (p_R s3 v0 43) ((p_w ((p_w (5 * v4)) + 2)) : Int).toNat v1) fun s8 =>
  p_gd (p_is s8 (p_R s8 v0 43) 100) <|
  p_gd ((0 : Int) ≤ (p_w ((p_w (5 * v4)) + 3)) ∧ (p_w ((p_w (5 * v4)) + 3)) < (p_L s8 (p_R s8 v0 43) : Int)) <|
  p_bi (p_wZ s8 (p_R s8 v0 43) ((p_w ((p_w (5 * v4)) + 3)) : Int).toNat v2) fun s12 =>
  p_gd (p_is s12 (p_R s12 v0 43) 100) <|
  p_gd ((0 : Int) ≤ (p_w ((p_w (5 * v4)) + 4)) ∧ (p_w ((p_w (5 * v4)) + 4)) < (p_L s12 (p_R s12 v0 43) : Int)) <|
  p_bi (p_wZ s12 (p_R s12 v0 43) ((p_w ((p_w (5 * v4)) + 4)) : Int).toNat v3) fun s16 =>
  p_gd (p_is s16 (p_R s16 v0 42) 100) <|
  p_gd ((0 : Int) ≤ (p_Z s16 v0 0) ∧ (p_Z s16 v0 0) < (p_L s16 (p_R s16 v0 42) : Int)) <|
  p_gd ((0 : Int) ≤ (p_Z s16 v0 0) ∧ (p_Z s16 v0 0) < (p_L s16 (p_R s16 v0 42) : Int)) <|
  p_bi (p_wZ s16 (p_R s16 v0 42) ((p_Z s16 v0 0) : Int).toNat (p_w ((p_Z s16 (p_R s16 v0 42) ((p_Z s16 v0 0) : Int).toNat) + 1))) fun s21 =>
  p_bi (p_wZ s21 v0 2 (p_w ((p_Z s21 v0 2) + 1))) fun s23 =>
  p_bi (p_wZ s23 v0 72 (p_w ((p_Z s23 v0 72) + 1))) fun s25 =>
  if (p_Z s25 v0 71) < 0 then
    some s25
  else
    p_bd (F_Mo_g v0 (p_Z s25 v0 71) s25) fun r32 s28 =>
    p_gd (p_is s28 (p_R s25 v0 20) 100) <|
    p_gd ((0 : Int) ≤ r32 ∧ r32 < (p_L s28 (p_R s25 v0 20) : Int)) <|
    p_gd ((0 : Int) ≤ r32 ∧ r32 < (p_L s28 (p_R s25 v0 20) : Int)) <|
    p_bi (p_wZ s28 (p_R s25 v0 20) (r32 : Int).toNat (p_w ((p_Z s28 (p_R s25 v0 20) (r32 : Int).toNat) + 1))) fun s36 =>
    some s36
def F_Mo_find (v0 : Nat) (v1 : Int) (v2 : Int) (v3 : Int) (s0 : p_Hp) : Option p_Hp :=
  p_gd (p_is s0 v0 11) <|
  p_gd (p_is s0 (p_R s0 v0 42) 100) <|
  p_gd ((0 : Int) ≤ (p_Z s0 v0 0) ∧ (p_Z s0 v0 0) < (p_L s0 (p_R s0 v0 42) : Int)) <|
  p_bi ((p_w ((p_w (40 * (p_Z s0 v0 0))) + (p_rem (p_Z s0 (p_R s0 v0 42) ((p_Z s0 v0 0) : Int).toNat) 40)))) fun x4 =>
  p_gd (p_is s0 (p_R s0 v0 4) 100) <|
  p_gd ((0 : Int) ≤ (p_Z s0 v0 0) ∧ (p_Z s0 v0 0) < (p_L s0 (p_R s0 v0 4) : Int)) <|
  p_gd (p_is s0 (p_R s0 v0 43) 100) <|
  p_gd ((0 : Int) ≤ (p_w (5 * x4)) ∧ (p_w (5 * x4)) < (p_L s0 (p_R s0 v0 43) : Int)) <|
  p_bi (p_wZ s0 (p_R s0 v0 43) ((p_w (5 * x4)) : Int).toNat (p_Z s0 (p_R s0 v0 4) ((p_Z s0 v0 0) : Int).toNat)) fun s9 =>
  if 0 ≤ (p_Z s9 v0 71) then
    B_Mo_find_66 v0 v1 v2 v3 x4 (p_Z s9 v0 71) (p_w ((p_w (5 * x4)) + 1)) (p_R s9 v0 43) s9
  else
    B_Mo_find_66 v0 v1 v2 v3 x4 (-9) (p_w ((p_w (5 * x4)) + 1)) (p_R s9 v0 43) s9
set_option maxRecDepth 100000 in
set_option maxHeartbeats 4000000 in
theorem tB_Mo_find_66 (K : p_K) (l : Launch)  (v0 : Nat) (v1 : Int) (v2 : Int) (v3 : Int) (v4 : Int) (w0 : Int) (w1 : Int) (w2 : Nat) (s0 : p_Hp) (r : p_Hp) (h : B_Mo_find_66 v0 v1 v2 v3 v4 w0 w1 w2 s0 = some r) : p_Go K l m_Mo_find 66 [(0, p_r v0), (1, p_i v1), (2, p_i v2), (3, p_i v3), (4, p_i v4)] [p_i w0, p_i w1, p_r w2] s0 (none, r) := by
  unfold B_Mo_find_66 at h
  obtain ⟨c1, h⟩ := p_gdE h
  obtain ⟨c2, h⟩ := p_gdE h
  refine g_iastore (dk_Mo_find 38 rfl) c1 c2.1 c2.2 ?_
  refine p_ltS (P := fun q => p_Go K l m_Mo_find 67 [(0, p_r v0), (1, p_i v1), (2, p_i v2), (3, p_i v3), (4, p_i v4)] [] q _) (p_xZ _ _ _ _) ?_ h
  intro s3 hs4 h
  refine g_aload_n (i := 0) (j := 0) (dk_Mo_find 39 rfl) rfl rfl ?_
  obtain ⟨c5, h⟩ := p_gdE h
  refine g_getR fl_Mo_129 (Or.inr ⟨_, rfl⟩) (dk_Mo_find 40 rfl) c5 ?_
  refine g_iconst (dk_Mo_find 41 rfl) (by decide) ?_
  refine g_iload (j := 4) (dk_Mo_find 42 rfl) rfl ?_
  refine g_imul (dk_Mo_find 43 rfl) ?_
  refine g_iconst (dk_Mo_find 44 rfl) (by decide) ?_
  refine g_iadd (dk_Mo_find 45 rfl) ?_
  refine g_iload_n (i := 1) (j := 1) (dk_Mo_find 46 rfl) rfl rfl ?_
  obtain ⟨c6, h⟩ := p_gdE h
  obtain ⟨c7, h⟩ := p_gdE h
  refine g_iastore (dk_Mo_find 47 rfl) c6 c7.1 c7.2 ?_
  refine p_ltS (P := fun q => p_Go K l m_Mo_find 79 [(0, p_r v0), (1, p_i v1), (2, p_i v2), (3, p_i v3), (4, p_i v4)] [] q _) (p_xZ _ _ _ _) ?_ h
  intro s8 hs9 h
  refine g_aload_n (i := 0) (j := 0) (dk_Mo_find 48 rfl) rfl rfl ?_
  refine g_getR fl_Mo_129 (Or.inr ⟨_, rfl⟩) (dk_Mo_find 49 rfl) (c5.up hs9) ?_
  refine g_iconst (dk_Mo_find 50 rfl) (by decide) ?_
  refine g_iload (j := 4) (dk_Mo_find 51 rfl) rfl ?_
  refine g_imul (dk_Mo_find 52 rfl) ?_
  refine g_iconst (dk_Mo_find 53 rfl) (by decide) ?_
  refine g_iadd (dk_Mo_find 54 rfl) ?_
  refine g_iload_n (i := 2) (j := 2) (dk_Mo_find 55 rfl) rfl rfl ?_
  obtain ⟨c10, h⟩ := p_gdE h
  obtain ⟨c11, h⟩ := p_gdE h
  refine g_iastore (dk_Mo_find 56 rfl) c10 c11.1 c11.2 ?_
  refine p_ltS (P := fun q => p_Go K l m_Mo_find 91 [(0, p_r v0), (1, p_i v1), (2, p_i v2), (3, p_i v3), (4, p_i v4)] [] q _) (p_xZ _ _ _ _) ?_ h
  intro s12 hs13 h
  refine g_aload_n (i := 0) (j := 0) (dk_Mo_find 57 rfl) rfl rfl ?_
  refine g_getR fl_Mo_129 (Or.inr ⟨_, rfl⟩) (dk_Mo_find 58 rfl) (c5.up (hs9.trans hs13)) ?_
  refine g_iconst (dk_Mo_find 59 rfl) (by decide) ?_
  refine g_iload (j := 4) (dk_Mo_find 60 rfl) rfl ?_
  refine g_imul (dk_Mo_find 61 rfl) ?_
  refine g_iconst (dk_Mo_find 62 rfl) (by decide) ?_
  refine g_iadd (dk_Mo_find 63 rfl) ?_
  refine g_iload_n (i := 3) (j := 3) (dk_Mo_find 64 rfl) rfl rfl ?_
  obtain ⟨c14, h⟩ := p_gdE h
  obtain ⟨c15, h⟩ := p_gdE h
  refine g_iastore (dk_Mo_find 65 rfl) c14 c15.1 c15.2 ?_
  refine p_ltS (P := fun q => p_Go K l m_Mo_find 103 [(0, p_r v0), (1, p_i v1), (2, p_i v2), (3, p_i v3), (4, p_i v4)] [] q _) (p_xZ _ _ _ _) ?_ h
  intro s16 hs17 h
  refine g_aload_n (i := 0) (j := 0) (dk_Mo_find 66 rfl) rfl rfl ?_
  refine g_getR fl_Mo_126 (Or.inr ⟨_, rfl⟩) (dk_Mo_find 67 rfl) (c5.up (hs9.trans (hs13.trans hs17))) ?_
  refine g_aload_n (i := 0) (j := 0) (dk_Mo_find 68 rfl) rfl rfl ?_
  refine g_getI fl_Mo_227 (Or.inl rfl) (dk_Mo_find 69 rfl) (c5.up (hs9.trans (hs13.trans hs17))) ?_
  refine g_dup2 (dk_Mo_find 70 rfl) rfl rfl ?_
  obtain ⟨c18, h⟩ := p_gdE h
  obtain ⟨c19, h⟩ := p_gdE h
  refine g_iaload (dk_Mo_find 71 rfl) c18 c19.1 c19.2 ?_
  refine g_iconst (dk_Mo_find 72 rfl) (by decide) ?_
  refine g_iadd (dk_Mo_find 73 rfl) ?_
  obtain ⟨c20, h⟩ := p_gdE h
  refine g_iastore (dk_Mo_find 74 rfl) c18 c20.1 c20.2 ?_
  refine p_ltS (P := fun q => p_Go K l m_Mo_find 116 [(0, p_r v0), (1, p_i v1), (2, p_i v2), (3, p_i v3), (4, p_i v4)] [] q _) (p_xZ _ _ _ _) ?_ h
  intro s21 hs22 h
  refine g_aload_n (i := 0) (j := 0) (dk_Mo_find 75 rfl) rfl rfl ?_
  refine g_dup (dk_Mo_find 76 rfl) rfl ?_
  refine g_getI fl_Mo_224 (Or.inl rfl) (dk_Mo_find 77 rfl) (c5.up (hs9.trans (hs13.trans (hs17.trans hs22)))) ?_
  refine g_iconst (dk_Mo_find 78 rfl) (by decide) ?_
  refine g_iadd (dk_Mo_find 79 rfl) ?_
  refine g_putI fl_Mo_224 (Or.inl rfl) (dk_Mo_find 80 rfl) (c5.up (hs9.trans (hs13.trans (hs17.trans hs22)))) ?_
  refine p_ltS (P := fun q => p_Go K l m_Mo_find 126 [(0, p_r v0), (1, p_i v1), (2, p_i v2), (3, p_i v3), (4, p_i v4)] [] q _) (p_xZ _ _ _ _) ?_ h
  intro s23 hs24 h
  refine g_aload_n (i := 0) (j := 0) (dk_Mo_find 81 rfl) rfl rfl ?_
  refine g_dup (dk_Mo_find 82 rfl) rfl ?_
  refine g_getI fl_Mo_382 (Or.inl rfl) (dk_Mo_find 83 rfl) (c5.up (hs9.trans (hs13.trans (hs17.trans (hs22.trans hs24))))) ?_
  refine g_iconst (dk_Mo_find 84 rfl) (by decide) ?_
  refine g_iadd (dk_Mo_find 85 rfl) ?_
  refine g_putI fl_Mo_382 (Or.inl rfl) (dk_Mo_find 86 rfl) (c5.up (hs9.trans (hs13.trans (hs17.trans (hs22.trans hs24))))) ?_
  refine p_ltS (P := fun q => p_Go K l m_Mo_find 136 [(0, p_r v0), (1, p_i v1), (2, p_i v2), (3, p_i v3), (4, p_i v4)] [] q _) (p_xZ _ _ _ _) ?_ h
  intro s25 hs26 h
  refine g_aload_n (i := 0) (j := 0) (dk_Mo_find 87 rfl) rfl rfl ?_
  refine g_getI fl_Mo_379 (Or.inl rfl) (dk_Mo_find 88 rfl) (c5.up (hs9.trans (hs13.trans (hs17.trans (hs22.trans (hs24.trans hs26)))))) ?_
  refine g_if_lt 160 (dk_Mo_find 89 rfl) (by decide) (fun b27 => ?_) (fun b27 => ?_)
  · have h := p_ifT b27 h
    cases h
    exact g_ret rfl rfl (dk_Mo_find 101 rfl) (fun _ => rfl)
  · have h := p_ifF b27 h
    refine g_aload_n (i := 0) (j := 0) (dk_Mo_find 90 rfl) rfl rfl ?_
    refine g_getR fl_Mo_63 (Or.inr ⟨_, rfl⟩) (dk_Mo_find 91 rfl) (c5.up (hs9.trans (hs13.trans (hs17.trans (hs22.trans (hs24.trans hs26)))))) ?_
    refine g_aload_n (i := 0) (j := 0) (dk_Mo_find 92 rfl) rfl rfl ?_
    refine g_aload_n (i := 0) (j := 0) (dk_Mo_find 93 rfl) rfl rfl ?_
    refine g_getI fl_Mo_379 (Or.inl rfl) (dk_Mo_find 94 rfl) (c5.up (hs9.trans (hs13.trans (hs17.trans (hs22.trans (hs24.trans hs26)))))) ?_
    obtain ⟨r32, s28, q29, h⟩ := p_bdE h
    have t30 := tF_Mo_g K l v0 (p_Z s25 v0 71) s25 _ q29
    refine g_callV (a := v0) (ci := 11) (q0 := (RX11, TX11, 90)) (As := [p_i (p_Z s25 v0 71)]) (rest := [p_r (p_R s25 v0 20)]) [p_i r32, p_r (p_R s25 v0 20)] mt_Mo_g rfl rfl tw_7_84 ts_45 tw_7_82 ⟨Nat.le_of_ble_eq_true rfl, Nat.le_of_ble_eq_true rfl⟩ rfl (Nat.le_of_ble_eq_true rfl) (dk_Mo_find 95 rfl) rfl (c5.up (hs9.trans (hs13.trans (hs17.trans (hs22.trans (hs24.trans hs26)))))) rfl t30 ?_
    have hs31 : p_x s25 s28 := t30.1
    show p_Go K l m_Mo_find 155 [(0, p_r v0), (1, p_i v1), (2, p_i v2), (3, p_i v3), (4, p_i v4)] [p_i r32, p_r (p_R s25 v0 20)] s28 _
    refine g_dup2 (dk_Mo_find 96 rfl) rfl rfl ?_
    obtain ⟨c33, h⟩ := p_gdE h
    obtain ⟨c34, h⟩ := p_gdE h
    refine g_iaload (dk_Mo_find 97 rfl) c33 c34.1 c34.2 ?_
    refine g_iconst (dk_Mo_find 98 rfl) (by decide) ?_
    refine g_iadd (dk_Mo_find 99 rfl) ?_
    obtain ⟨c35, h⟩ := p_gdE h
    refine g_iastore (dk_Mo_find 100 rfl) c33 c35.1 c35.2 ?_
    refine p_ltS (P := fun q => p_Go K l m_Mo_find 160 [(0, p_r v0), (1, p_i v1), (2, p_i v2), (3, p_i v3), (4, p_i v4)] [] q _) (p_xZ _ _ _ _) ?_ h
    intro s36 hs37 h
    cases h
    exact g_ret rfl rfl (dk_Mo_find 101 rfl) (fun _ => rfl)
set_option maxRecDepth 100000 in
set_option maxHeartbeats 4000000 in
theorem tF_Mo_find (K : p_K) (l : Launch) (v0 : Nat) (v1 : Int) (v2 : Int) (v3 : Int) (s0 : p_Hp) (r : p_Hp) (h : F_Mo_find v0 v1 v2 v3 s0 = some r) : p_Ct K l m_Mo_find [p_r v0, p_i v1, p_i v2, p_i v3] s0 (none, r) := by
  refine p_Ct.of (by decide +kernel) (Nat.le_of_ble_eq_true rfl) ?_
  unfold F_Mo_find at h
  show p_Go K l m_Mo_find 0 [(0, p_r v0), (1, p_i v1), (2, p_i v2), (3, p_i v3)] [] s0 _
  refine g_bipush (dk_Mo_find 0 rfl) (by decide +kernel) (by decide) ?_
  refine g_aload_n (i := 0) (j := 0) (dk_Mo_find 1 rfl) rfl rfl ?_
  obtain ⟨c1, h⟩ := p_gdE h
  refine g_getI fl_Mo_227 (Or.inl rfl) (dk_Mo_find 2 rfl) c1 ?_
  refine g_imul (dk_Mo_find 3 rfl) ?_
  refine g_aload_n (i := 0) (j := 0) (dk_Mo_find 4 rfl) rfl rfl ?_
  refine g_getR fl_Mo_126 (Or.inr ⟨_, rfl⟩) (dk_Mo_find 5 rfl) c1 ?_
  refine g_aload_n (i := 0) (j := 0) (dk_Mo_find 6 rfl) rfl rfl ?_
  refine g_getI fl_Mo_227 (Or.inl rfl) (dk_Mo_find 7 rfl) c1 ?_
  obtain ⟨c2, h⟩ := p_gdE h
  obtain ⟨c3, h⟩ := p_gdE h
  refine g_iaload (dk_Mo_find 8 rfl) c2 c3.1 c3.2 ?_
  refine g_bipush (dk_Mo_find 9 rfl) (by decide +kernel) (by decide) ?_
  refine g_irem (dk_Mo_find 10 rfl) (by decide) ?_
  refine g_iadd (dk_Mo_find 11 rfl) ?_
  refine g_istore [(4, p_i (p_w ((p_w (40 * (p_Z s0 v0 0))) + (p_rem (p_Z s0 (p_R s0 v0 42) ((p_Z s0 v0 0) : Int).toNat) 40)))), (0, p_r v0), (1, p_i v1), (2, p_i v2), (3, p_i v3)] (dk_Mo_find 12 rfl) (by decide) rfl ?_
  refine p_ltG (P := fun q => p_Go K l m_Mo_find 22 [(4, p_i q), (0, p_r v0), (1, p_i v1), (2, p_i v2), (3, p_i v3)] [] s0 _) ?_ h
  intro x4 h
  refine g_aload_n (i := 0) (j := 1) (dk_Mo_find 13 rfl) rfl rfl ?_
  refine g_getR fl_Mo_129 (Or.inr ⟨_, rfl⟩) (dk_Mo_find 14 rfl) c1 ?_
  refine g_iconst (dk_Mo_find 15 rfl) (by decide) ?_
  refine g_iload (j := 0) (dk_Mo_find 16 rfl) rfl ?_
  refine g_imul (dk_Mo_find 17 rfl) ?_
  refine g_aload_n (i := 0) (j := 1) (dk_Mo_find 18 rfl) rfl rfl ?_
  refine g_getR fl_Mo_13 (Or.inr ⟨_, rfl⟩) (dk_Mo_find 19 rfl) c1 ?_
  refine g_aload_n (i := 0) (j := 1) (dk_Mo_find 20 rfl) rfl rfl ?_
  refine g_getI fl_Mo_227 (Or.inl rfl) (dk_Mo_find 21 rfl) c1 ?_
  obtain ⟨c5, h⟩ := p_gdE h
  obtain ⟨c6, h⟩ := p_gdE h
  refine g_iaload (dk_Mo_find 22 rfl) c5 c6.1 c6.2 ?_
  obtain ⟨c7, h⟩ := p_gdE h
  obtain ⟨c8, h⟩ := p_gdE h
  refine g_iastore (dk_Mo_find 23 rfl) c7 c8.1 c8.2 ?_
  refine p_ltS (P := fun q => p_Go K l m_Mo_find 40 [(4, p_i x4), (0, p_r v0), (1, p_i v1), (2, p_i v2), (3, p_i v3)] [] q _) (p_xZ _ _ _ _) ?_ h
  intro s9 hs10 h
  refine g_aload_n (i := 0) (j := 1) (dk_Mo_find 24 rfl) rfl rfl ?_
  refine g_getR fl_Mo_129 (Or.inr ⟨_, rfl⟩) (dk_Mo_find 25 rfl) (c1.up hs10) ?_
  refine g_iconst (dk_Mo_find 26 rfl) (by decide) ?_
  refine g_iload (j := 0) (dk_Mo_find 27 rfl) rfl ?_
  refine g_imul (dk_Mo_find 28 rfl) ?_
  refine g_iconst (dk_Mo_find 29 rfl) (by decide) ?_
  refine g_iadd (dk_Mo_find 30 rfl) ?_
  refine g_aload_n (i := 0) (j := 1) (dk_Mo_find 31 rfl) rfl rfl ?_
  refine g_getI fl_Mo_379 (Or.inl rfl) (dk_Mo_find 32 rfl) (c1.up hs10) ?_
  refine g_if_ge 62 (dk_Mo_find 33 rfl) (by decide) (fun b11 => ?_) (fun b11 => ?_)
  · have h := p_ifT b11 h
    refine g_aload_n (i := 0) (j := 1) (dk_Mo_find 36 rfl) rfl rfl ?_
    refine g_getI fl_Mo_379 (Or.inl rfl) (dk_Mo_find 37 rfl) (c1.up hs10) ?_
    refine g_sub [(0, p_r v0), (1, p_i v1), (2, p_i v2), (3, p_i v3), (4, p_i x4)] [1, 2, 3, 4, 0] rfl ?_
    exact tB_Mo_find_66 K l v0 v1 v2 v3 x4 (p_Z s9 v0 71) (p_w ((p_w (5 * x4)) + 1)) (p_R s9 v0 43) s9 _ h
  · have h := p_ifF b11 h
    refine g_bipush (dk_Mo_find 34 rfl) (by decide +kernel) (by decide) ?_
    refine g_goto 66 (dk_Mo_find 35 rfl) (by decide) ?_
    refine g_sub [(0, p_r v0), (1, p_i v1), (2, p_i v2), (3, p_i v3), (4, p_i x4)] [1, 2, 3, 4, 0] rfl ?_
    exact tB_Mo_find_66 K l v0 v1 v2 v3 x4 (-9) (p_w ((p_w (5 * x4)) + 1)) (p_R s9 v0 43) s9 _ h
def m_Mo_follow : p_Me := (⟨"SortWorksModel", "follow", "(II)I"⟩, prog_13_method_60_code, 4, (some .int), 2, 46)
theorem mt_Mo_follow : p_Mt m_Mo_follow 2 := ⟨p_mem (p_tb8 (List.mem_of_getElem? (i := 113) rfl)) rfl, tw_1_12, by decide +kernel, by decide +kernel, by decide +kernel⟩
def dt_Mo_follow : List (Nat × Instr × Nat) := [(0, .aload_n 0, 1), (1, .iload_n 1, 1), (2, .invokevirtual 257, 3), (5, .istore_n 3, 1), (6, .aload_n 0, 1), (7, .getfield 22, 3), (10, .iload_n 3, 1), (11, .iaload, 1), (12, .ifCond .ge 5, 3), (15, .iconst 1, 1), (16, .ireturn, 1), (17, .iload_n 2, 1), (18, .aload_n 0, 1), (19, .getfield 22, 3), (22, .iload_n 3, 1), (23, .iaload, 1), (24, .if_icmp .ge 16, 3), (27, .aload_n 0, 1), (28, .getfield 25, 3), (31, .iconst 3, 1), (32, .iload_n 3, 1), (33, .imul, 1), (34, .iload_n 2, 1), (35, .iadd, 1), (36, .iaload, 1), (37, .ifCond .ge 5, 3), (40, .iconst 3, 1), (41, .ireturn, 1), (42, .aload_n 0, 1), (43, .aload_n 0, 1), (44, .getfield 25, 3), (47, .iconst 3, 1), (48, .iload_n 3, 1), (49, .imul, 1), (50, .iload_n 2, 1), (51, .iadd, 1), (52, .iaload, 1), (53, .putfield 385, 3), (56, .aload_n 0, 1), (57, .aload_n 0, 1), (58, .getfield 385, 3), (61, .invokevirtual 267, 3), (64, .ifCond .eq 7, 3), (67, .iconst 1, 1), (68, .goto 4, 3), (71, .iconst 0, 1), (72, .ireturn, 1)]
theorem dk_Mo_follow (i : Nat) {pc : Nat} {ins : Instr} {len : Nat} (h : dt_Mo_follow[i]? = some (pc, ins, len)) : decode m_Mo_follow.2.1 pc = .ok (ins, len) := p_dk (b := m_Mo_follow.2.1) (t := dt_Mo_follow) (by decide +kernel) i h
def F_Mo_follow (v0 : Nat) (v1 : Int) (v2 : Int) (s0 : p_Hp) : Option (Int × p_Hp) :=
  p_gd (p_is s0 v0 11) <|
  p_bd (F_Mo_g v0 v1 s0) fun r6 s2 =>
  p_gd (p_is s2 (p_R s2 v0 7) 100) <|
  p_gd ((0 : Int) ≤ r6 ∧ r6 < (p_L s2 (p_R s2 v0 7) : Int)) <|
  if 0 ≤ (p_Z s2 (p_R s2 v0 7) (r6 : Int).toNat) then
    p_gd ((0 : Int) ≤ r6 ∧ r6 < (p_L s2 (p_R s2 v0 7) : Int)) <|
    if (p_Z s2 (p_R s2 v0 7) (r6 : Int).toNat) ≤ v2 then
      some (3, s2)
    else
      p_gd (p_is s2 (p_R s2 v0 8) 100) <|
      p_gd ((0 : Int) ≤ (p_w ((p_w (3 * r6)) + v2)) ∧ (p_w ((p_w (3 * r6)) + v2)) < (p_L s2 (p_R s2 v0 8) : Int)) <|
      if 0 ≤ (p_Z s2 (p_R s2 v0 8) ((p_w ((p_w (3 * r6)) + v2)) : Int).toNat) then
        p_gd ((0 : Int) ≤ (p_w ((p_w (3 * r6)) + v2)) ∧ (p_w ((p_w (3 * r6)) + v2)) < (p_L s2 (p_R s2 v0 8) : Int)) <|
        p_bi (p_wZ s2 v0 73 (p_Z s2 (p_R s2 v0 8) ((p_w ((p_w (3 * r6)) + v2)) : Int).toNat)) fun s16 =>
        p_bd (F_Mo_noGear v0 (p_Z s16 v0 73) s16) fun r22 s18 =>
        if r22 = 0 then
          some (0, s18)
        else
          some (1, s18)
      else
        some (3, s2)
  else
    some (1, s2)
set_option maxRecDepth 100000 in
set_option maxHeartbeats 4000000 in
theorem tF_Mo_follow (K : p_K) (l : Launch) (v0 : Nat) (v1 : Int) (v2 : Int) (s0 : p_Hp) (r : (Int × p_Hp)) (h : F_Mo_follow v0 v1 v2 s0 = some r) : p_Ct K l m_Mo_follow [p_r v0, p_i v1, p_i v2] s0 (some (p_i r.1), r.2) := by
  refine p_Ct.of (by decide +kernel) (Nat.le_of_ble_eq_true rfl) ?_
  unfold F_Mo_follow at h
  show p_Go K l m_Mo_follow 0 [(0, p_r v0), (1, p_i v1), (2, p_i v2)] [] s0 _
  refine g_aload_n (i := 0) (j := 0) (dk_Mo_follow 0 rfl) rfl rfl ?_
  refine g_iload_n (i := 1) (j := 1) (dk_Mo_follow 1 rfl) rfl rfl ?_
  obtain ⟨c1, h⟩ := p_gdE h
  obtain ⟨r6, s2, q3, h⟩ := p_bdE h
  have t4 := tF_Mo_g K l v0 v1 s0 _ q3
  refine g_callV (a := v0) (ci := 11) (q0 := (RX11, TX11, 90)) (As := [p_i v1]) (rest := []) [p_i r6] mt_Mo_g rfl rfl tw_7_84 ts_45 tw_7_82 ⟨Nat.le_of_ble_eq_true rfl, Nat.le_of_ble_eq_true rfl⟩ rfl (Nat.le_of_ble_eq_true rfl) (dk_Mo_follow 2 rfl) rfl c1 rfl t4 ?_
  have hs5 : p_x s0 s2 := t4.1
  show p_Go K l m_Mo_follow 5 [(0, p_r v0), (1, p_i v1), (2, p_i v2)] [p_i r6] s2 _
  refine g_istore_n (i := 3) [(3, p_i r6), (0, p_r v0), (1, p_i v1), (2, p_i v2)] (dk_Mo_follow 3 rfl) rfl (by decide) rfl ?_
  refine g_aload_n (i := 0) (j := 1) (dk_Mo_follow 4 rfl) rfl rfl ?_
  refine g_getR fl_Mo_22 (Or.inr ⟨_, rfl⟩) (dk_Mo_follow 5 rfl) (c1.up hs5) ?_
  refine g_iload_n (i := 3) (j := 0) (dk_Mo_follow 6 rfl) rfl rfl ?_
  obtain ⟨c7, h⟩ := p_gdE h
  obtain ⟨c8, h⟩ := p_gdE h
  refine g_iaload (dk_Mo_follow 7 rfl) c7 c8.1 c8.2 ?_
  refine g_if_ge 17 (dk_Mo_follow 8 rfl) (by decide) (fun b9 => ?_) (fun b9 => ?_)
  · have h := p_ifT b9 h
    refine g_iload_n (i := 2) (j := 3) (dk_Mo_follow 11 rfl) rfl rfl ?_
    refine g_aload_n (i := 0) (j := 1) (dk_Mo_follow 12 rfl) rfl rfl ?_
    refine g_getR fl_Mo_22 (Or.inr ⟨_, rfl⟩) (dk_Mo_follow 13 rfl) (c1.up hs5) ?_
    refine g_iload_n (i := 3) (j := 0) (dk_Mo_follow 14 rfl) rfl rfl ?_
    obtain ⟨c10, h⟩ := p_gdE h
    refine g_iaload (dk_Mo_follow 15 rfl) c7 c10.1 c10.2 ?_
    refine g_icmp_ge 40 (dk_Mo_follow 16 rfl) (by decide) (fun b11 => ?_) (fun b11 => ?_)
    · have h := p_ifT b11 h
      refine g_iconst (dk_Mo_follow 26 rfl) (by decide) ?_
      cases h
      exact g_ret rfl rfl (dk_Mo_follow 27 rfl) (fun os => ⟨_, rfl, p_okh os⟩)
    · have h := p_ifF b11 h
      refine g_aload_n (i := 0) (j := 1) (dk_Mo_follow 17 rfl) rfl rfl ?_
      refine g_getR fl_Mo_25 (Or.inr ⟨_, rfl⟩) (dk_Mo_follow 18 rfl) (c1.up hs5) ?_
      refine g_iconst (dk_Mo_follow 19 rfl) (by decide) ?_
      refine g_iload_n (i := 3) (j := 0) (dk_Mo_follow 20 rfl) rfl rfl ?_
      refine g_imul (dk_Mo_follow 21 rfl) ?_
      refine g_iload_n (i := 2) (j := 3) (dk_Mo_follow 22 rfl) rfl rfl ?_
      refine g_iadd (dk_Mo_follow 23 rfl) ?_
      obtain ⟨c12, h⟩ := p_gdE h
      obtain ⟨c13, h⟩ := p_gdE h
      refine g_iaload (dk_Mo_follow 24 rfl) c12 c13.1 c13.2 ?_
      refine g_if_ge 42 (dk_Mo_follow 25 rfl) (by decide) (fun b14 => ?_) (fun b14 => ?_)
      · have h := p_ifT b14 h
        refine g_aload_n (i := 0) (j := 1) (dk_Mo_follow 28 rfl) rfl rfl ?_
        refine g_aload_n (i := 0) (j := 1) (dk_Mo_follow 29 rfl) rfl rfl ?_
        refine g_getR fl_Mo_25 (Or.inr ⟨_, rfl⟩) (dk_Mo_follow 30 rfl) (c1.up hs5) ?_
        refine g_iconst (dk_Mo_follow 31 rfl) (by decide) ?_
        refine g_iload_n (i := 3) (j := 0) (dk_Mo_follow 32 rfl) rfl rfl ?_
        refine g_imul (dk_Mo_follow 33 rfl) ?_
        refine g_iload_n (i := 2) (j := 3) (dk_Mo_follow 34 rfl) rfl rfl ?_
        refine g_iadd (dk_Mo_follow 35 rfl) ?_
        obtain ⟨c15, h⟩ := p_gdE h
        refine g_iaload (dk_Mo_follow 36 rfl) c12 c15.1 c15.2 ?_
        refine g_putI fl_Mo_385 (Or.inl rfl) (dk_Mo_follow 37 rfl) (c1.up hs5) ?_
        refine p_ltS (P := fun q => p_Go K l m_Mo_follow 56 [(3, p_i r6), (0, p_r v0), (1, p_i v1), (2, p_i v2)] [] q _) (p_xZ _ _ _ _) ?_ h
        intro s16 hs17 h
        refine g_aload_n (i := 0) (j := 1) (dk_Mo_follow 38 rfl) rfl rfl ?_
        refine g_aload_n (i := 0) (j := 1) (dk_Mo_follow 39 rfl) rfl rfl ?_
        refine g_getI fl_Mo_385 (Or.inl rfl) (dk_Mo_follow 40 rfl) (c1.up (hs5.trans hs17)) ?_
        obtain ⟨r22, s18, q19, h⟩ := p_bdE h
        have t20 := tF_Mo_noGear K l v0 (p_Z s16 v0 73) s16 _ q19
        refine g_callV (a := v0) (ci := 11) (q0 := (RX11, TX11, 90)) (As := [p_i (p_Z s16 v0 73)]) (rest := []) [p_i r22] mt_Mo_noGear rfl rfl tw_7_106 ts_48 tw_7_104 ⟨Nat.le_of_ble_eq_true rfl, Nat.le_of_ble_eq_true rfl⟩ rfl (Nat.le_of_ble_eq_true rfl) (dk_Mo_follow 41 rfl) rfl (c1.up (hs5.trans hs17)) rfl t20 ?_
        have hs21 : p_x s16 s18 := t20.1
        show p_Go K l m_Mo_follow 64 [(3, p_i r6), (0, p_r v0), (1, p_i v1), (2, p_i v2)] [p_i r22] s18 _
        refine g_if_eq 71 (dk_Mo_follow 42 rfl) (by decide) (fun b23 => ?_) (fun b23 => ?_)
        · have h := p_ifT b23 h
          refine g_iconst (dk_Mo_follow 45 rfl) (by decide) ?_
          cases h
          exact g_ret rfl rfl (dk_Mo_follow 46 rfl) (fun os => ⟨_, rfl, p_okh os⟩)
        · have h := p_ifF b23 h
          refine g_iconst (dk_Mo_follow 43 rfl) (by decide) ?_
          refine g_goto 72 (dk_Mo_follow 44 rfl) (by decide) ?_
          cases h
          exact g_ret rfl rfl (dk_Mo_follow 46 rfl) (fun os => ⟨_, rfl, p_okh os⟩)
      · have h := p_ifF b14 h
        refine g_iconst (dk_Mo_follow 26 rfl) (by decide) ?_
        cases h
        exact g_ret rfl rfl (dk_Mo_follow 27 rfl) (fun os => ⟨_, rfl, p_okh os⟩)
  · have h := p_ifF b9 h
    refine g_iconst (dk_Mo_follow 9 rfl) (by decide) ?_
    cases h
    exact g_ret rfl rfl (dk_Mo_follow 10 rfl) (fun os => ⟨_, rfl, p_okh os⟩)
def m_Mo_actPanel : p_Me := (⟨"SortWorksModel", "actPanel", "(I)V"⟩, prog_13_method_81_code, 6, none, 3, 69)
theorem mt_Mo_actPanel : p_Mt m_Mo_actPanel 1 := ⟨p_mem (p_tb8 (List.mem_of_getElem? (i := 125) rfl)) rfl, tw_1_12, by decide +kernel, by decide +kernel, by decide +kernel⟩
def dt_Mo_actPanel : List (Nat × Instr × Nat) := [(0, .aload_n 0, 1), (1, .iload_n 1, 1), (2, .invokevirtual 257, 3), (5, .istore_n 2, 1), (6, .iconst 0, 1), (7, .istore_n 3, 1), (8, .aload_n 0, 1), (9, .getfield 22, 3), (12, .iload_n 2, 1), (13, .iaload, 1), (14, .ifCond .ge 11, 3), (17, .aload_n 0, 1), (18, .iconst 4, 1), (19, .iconst 1, 1), (20, .iconst 0, 1), (21, .invokevirtual 395, 3), (24, .return_, 1), (25, .iconst 0, 1), (26, .istore 4, 2), (28, .iload 4, 2), (30, .aload_n 0, 1), (31, .getfield 22, 3), (34, .iload_n 2, 1), (35, .iaload, 1), (36, .if_icmp .ge 48, 3), (39, .aload_n 0, 1), (40, .iload_n 1, 1), (41, .iload 4, 2), (43, .invokevirtual 388, 3), (46, .istore 5, 2), (48, .iload 5, 2), (50, .ifCond .le 13, 3), (53, .aload_n 0, 1), (54, .iconst 4, 1), (55, .iload 5, 2), (57, .iload 4, 2), (59, .invokevirtual 395, 3), (62, .return_, 1), (63, .iload_n 3, 1), (64, .aload_n 0, 1), (65, .aload_n 0, 1), (66, .aload_n 0, 1), (67, .getfield 385, 3), (70, .invokevirtual 257, 3), (73, .invokevirtual 282, 3), (76, .iadd, 1), (77, .istore_n 3, 1), (78, .iinc 4 1, 3), (81, .goto (-53), 3), (84, .aload_n 0, 1), (85, .getfield 48, 3), (88, .iload_n 2, 1), (89, .iload_n 3, 1), (90, .iastore, 1), (91, .return_, 1)]
theorem dk_Mo_actPanel (i : Nat) {pc : Nat} {ins : Instr} {len : Nat} (h : dt_Mo_actPanel[i]? = some (pc, ins, len)) : decode m_Mo_actPanel.2.1 pc = .ok (ins, len) := p_dk (b := m_Mo_actPanel.2.1) (t := dt_Mo_actPanel) (by decide +kernel) i h
def L_Mo_actPanel_28 (k28 : Nat → Int → Int → Int → Int → p_Hp → Option p_Hp) (v0 : Nat) (v1 : Int) (v2 : Int) (v3 : Int) (v4 : Int) (s0 : p_Hp) : Option p_Hp :=
  p_gd (p_is s0 v0 11) <|
  p_gd (p_is s0 (p_R s0 v0 7) 100) <|
  p_gd ((0 : Int) ≤ v2 ∧ v2 < (p_L s0 (p_R s0 v0 7) : Int)) <|
  if (p_Z s0 (p_R s0 v0 7) (v2 : Int).toNat) ≤ v4 then
    p_gd (p_is s0 (p_R s0 v0 15) 100) <|
    p_gd ((0 : Int) ≤ v2 ∧ v2 < (p_L s0 (p_R s0 v0 15) : Int)) <|
    p_bi (p_wZ s0 (p_R s0 v0 15) (v2 : Int).toNat v3) fun s7 =>
    some s7
  else
    p_bd (F_Mo_follow v0 v1 v4 s0) fun r13 s9 =>
    if r13 ≤ 0 then
      p_bd (F_Mo_g v0 (p_Z s9 v0 73) s9) fun r19 s15 =>
      p_bd (F_Mo_loadOf v0 r19 s15) fun r24 s20 =>
      p_bi ((p_w (v3 + r24))) fun x25 =>
      p_bi (p_w (v4 + 1)) fun x26 =>
      k28 v0 v1 v2 x25 x26 s20
    else
      p_bv (F_Mo_find v0 4 r13 v4 s9) fun s27 =>
      some s27
def O_Mo_actPanel_28  : Nat → Nat → Int → Int → Int → Int → p_Hp → Option p_Hp
  | 0 => fun _ _ _ _ _ _ => none
  | n + 1 => L_Mo_actPanel_28 (O_Mo_actPanel_28 n)
def F_Mo_actPanel (v0 : Nat) (v1 : Int) (s0 : p_Hp) : Option p_Hp :=
  p_gd (p_is s0 v0 11) <|
  p_bd (F_Mo_g v0 v1 s0) fun r6 s2 =>
  p_gd (p_is s2 (p_R s2 v0 7) 100) <|
  p_gd ((0 : Int) ≤ r6 ∧ r6 < (p_L s2 (p_R s2 v0 7) : Int)) <|
  if 0 ≤ (p_Z s2 (p_R s2 v0 7) (r6 : Int).toNat) then
    O_Mo_actPanel_28 3000 v0 v1 r6 0 0 s2
  else
    p_bv (F_Mo_find v0 4 1 0 s2) fun s10 =>
    some s10
set_option maxRecDepth 100000 in
set_option maxHeartbeats 4000000 in
theorem tL_Mo_actPanel_28 (K : p_K) (l : Launch) (k28 : Nat → Int → Int → Int → Int → p_Hp → Option p_Hp) (hk28 : ∀ (v0 : Nat) (v1 : Int) (v2 : Int) (v3 : Int) (v4 : Int)  (s0 : p_Hp) (r : p_Hp), k28 v0 v1 v2 v3 v4 s0 = some r → p_Go K l m_Mo_actPanel 28 [(0, p_r v0), (1, p_i v1), (2, p_i v2), (3, p_i v3), (4, p_i v4)] [] s0 (none, r)) (v0 : Nat) (v1 : Int) (v2 : Int) (v3 : Int) (v4 : Int) (s0 : p_Hp) (r : p_Hp) (h : L_Mo_actPanel_28 k28 v0 v1 v2 v3 v4 s0 = some r) : p_Go K l m_Mo_actPanel 28 [(0, p_r v0), (1, p_i v1), (2, p_i v2), (3, p_i v3), (4, p_i v4)] [] s0 (none, r) := by
  unfold L_Mo_actPanel_28 at h
  refine g_iload (j := 4) (dk_Mo_actPanel 19 rfl) rfl ?_
  refine g_aload_n (i := 0) (j := 0) (dk_Mo_actPanel 20 rfl) rfl rfl ?_
  obtain ⟨c1, h⟩ := p_gdE h
  refine g_getR fl_Mo_22 (Or.inr ⟨_, rfl⟩) (dk_Mo_actPanel 21 rfl) c1 ?_
  refine g_iload_n (i := 2) (j := 2) (dk_Mo_actPanel 22 rfl) rfl rfl ?_
  obtain ⟨c2, h⟩ := p_gdE h
  obtain ⟨c3, h⟩ := p_gdE h
  refine g_iaload (dk_Mo_actPanel 23 rfl) c2 c3.1 c3.2 ?_
  refine g_icmp_ge 84 (dk_Mo_actPanel 24 rfl) (by decide) (fun b4 => ?_) (fun b4 => ?_)
  · have h := p_ifT b4 h
    refine g_aload_n (i := 0) (j := 0) (dk_Mo_actPanel 49 rfl) rfl rfl ?_
    refine g_getR fl_Mo_48 (Or.inr ⟨_, rfl⟩) (dk_Mo_actPanel 50 rfl) c1 ?_
    refine g_iload_n (i := 2) (j := 2) (dk_Mo_actPanel 51 rfl) rfl rfl ?_
    refine g_iload_n (i := 3) (j := 3) (dk_Mo_actPanel 52 rfl) rfl rfl ?_
    obtain ⟨c5, h⟩ := p_gdE h
    obtain ⟨c6, h⟩ := p_gdE h
    refine g_iastore (dk_Mo_actPanel 53 rfl) c5 c6.1 c6.2 ?_
    refine p_ltS (P := fun q => p_Go K l m_Mo_actPanel 91 [(0, p_r v0), (1, p_i v1), (2, p_i v2), (3, p_i v3), (4, p_i v4)] [] q _) (p_xZ _ _ _ _) ?_ h
    intro s7 hs8 h
    cases h
    exact g_ret rfl rfl (dk_Mo_actPanel 54 rfl) (fun _ => rfl)
  · have h := p_ifF b4 h
    refine g_aload_n (i := 0) (j := 0) (dk_Mo_actPanel 25 rfl) rfl rfl ?_
    refine g_iload_n (i := 1) (j := 1) (dk_Mo_actPanel 26 rfl) rfl rfl ?_
    refine g_iload (j := 4) (dk_Mo_actPanel 27 rfl) rfl ?_
    obtain ⟨r13, s9, q10, h⟩ := p_bdE h
    have t11 := tF_Mo_follow K l v0 v1 v4 s0 _ q10
    refine g_callV (a := v0) (ci := 11) (q0 := (RX11, TX11, 90)) (As := [p_i v1, p_i v4]) (rest := []) [p_i r13] mt_Mo_follow rfl rfl tw_8_112 ts_82 tw_8_110 ⟨Nat.le_of_ble_eq_true rfl, Nat.le_of_ble_eq_true rfl⟩ rfl (Nat.le_of_ble_eq_true rfl) (dk_Mo_actPanel 28 rfl) rfl c1 rfl t11 ?_
    have hs12 : p_x s0 s9 := t11.1
    show p_Go K l m_Mo_actPanel 46 [(0, p_r v0), (1, p_i v1), (2, p_i v2), (3, p_i v3), (4, p_i v4)] [p_i r13] s9 _
    refine g_istore [(5, p_i r13), (0, p_r v0), (1, p_i v1), (2, p_i v2), (3, p_i v3), (4, p_i v4)] (dk_Mo_actPanel 29 rfl) (by decide) rfl ?_
    refine g_iload (j := 0) (dk_Mo_actPanel 30 rfl) rfl ?_
    refine g_if_le 63 (dk_Mo_actPanel 31 rfl) (by decide) (fun b14 => ?_) (fun b14 => ?_)
    · have h := p_ifT b14 h
      refine g_iload_n (i := 3) (j := 4) (dk_Mo_actPanel 38 rfl) rfl rfl ?_
      refine g_aload_n (i := 0) (j := 1) (dk_Mo_actPanel 39 rfl) rfl rfl ?_
      refine g_aload_n (i := 0) (j := 1) (dk_Mo_actPanel 40 rfl) rfl rfl ?_
      refine g_aload_n (i := 0) (j := 1) (dk_Mo_actPanel 41 rfl) rfl rfl ?_
      refine g_getI fl_Mo_385 (Or.inl rfl) (dk_Mo_actPanel 42 rfl) (c1.up hs12) ?_
      obtain ⟨r19, s15, q16, h⟩ := p_bdE h
      have t17 := tF_Mo_g K l v0 (p_Z s9 v0 73) s9 _ q16
      refine g_callV (a := v0) (ci := 11) (q0 := (RX11, TX11, 90)) (As := [p_i (p_Z s9 v0 73)]) (rest := [p_r v0, p_i v3]) [p_i r19, p_r v0, p_i v3] mt_Mo_g rfl rfl tw_7_84 ts_45 tw_7_82 ⟨Nat.le_of_ble_eq_true rfl, Nat.le_of_ble_eq_true rfl⟩ rfl (Nat.le_of_ble_eq_true rfl) (dk_Mo_actPanel 43 rfl) rfl (c1.up hs12) rfl t17 ?_
      have hs18 : p_x s9 s15 := t17.1
      show p_Go K l m_Mo_actPanel 73 [(5, p_i r13), (0, p_r v0), (1, p_i v1), (2, p_i v2), (3, p_i v3), (4, p_i v4)] [p_i r19, p_r v0, p_i v3] s15 _
      obtain ⟨r24, s20, q21, h⟩ := p_bdE h
      have t22 := tF_Mo_loadOf K l v0 r19 s15 _ q21
      refine g_callV (a := v0) (ci := 11) (q0 := (RX11, TX11, 90)) (As := [p_i r19]) (rest := [p_i v3]) [p_i r24, p_i v3] mt_Mo_loadOf rfl rfl tw_7_136 ts_50 tw_7_134 ⟨Nat.le_of_ble_eq_true rfl, Nat.le_of_ble_eq_true rfl⟩ rfl (Nat.le_of_ble_eq_true rfl) (dk_Mo_actPanel 44 rfl) rfl (c1.up (hs12.trans hs18)) rfl t22 ?_
      have hs23 : p_x s15 s20 := t22.1
      show p_Go K l m_Mo_actPanel 76 [(5, p_i r13), (0, p_r v0), (1, p_i v1), (2, p_i v2), (3, p_i v3), (4, p_i v4)] [p_i r24, p_i v3] s20 _
      refine g_iadd (dk_Mo_actPanel 45 rfl) ?_
      refine g_istore_n (i := 3) [(3, p_i (p_w (v3 + r24))), (5, p_i r13), (0, p_r v0), (1, p_i v1), (2, p_i v2), (4, p_i v4)] (dk_Mo_actPanel 46 rfl) rfl (by decide) rfl ?_
      refine p_ltG (P := fun q => p_Go K l m_Mo_actPanel 78 [(3, p_i q), (5, p_i r13), (0, p_r v0), (1, p_i v1), (2, p_i v2), (4, p_i v4)] [] s20 _) ?_ h
      intro x25 h
      refine g_iinc (j := 5) [(4, p_i (p_w (v4 + 1))), (3, p_i x25), (5, p_i r13), (0, p_r v0), (1, p_i v1), (2, p_i v2)] (dk_Mo_actPanel 47 rfl) rfl (by decide) rfl ?_
      refine p_ltG (P := fun q => p_Go K l m_Mo_actPanel 81 [(4, p_i q), (3, p_i x25), (5, p_i r13), (0, p_r v0), (1, p_i v1), (2, p_i v2)] [] s20 _) ?_ h
      intro x26 h
      refine g_goto 28 (dk_Mo_actPanel 48 rfl) (by decide) ?_
      refine g_sub [(0, p_r v0), (1, p_i v1), (2, p_i v2), (3, p_i x25), (4, p_i x26)] [3, 4, 5, 1, 0] rfl ?_
      exact hk28 v0 v1 v2 x25 x26 s20 _ h
    · have h := p_ifF b14 h
      refine g_aload_n (i := 0) (j := 1) (dk_Mo_actPanel 32 rfl) rfl rfl ?_
      refine g_iconst (dk_Mo_actPanel 33 rfl) (by decide) ?_
      refine g_iload (j := 0) (dk_Mo_actPanel 34 rfl) rfl ?_
      refine g_iload (j := 5) (dk_Mo_actPanel 35 rfl) rfl ?_
      obtain ⟨s27, q28, h⟩ := p_bvE h
      have t29 := tF_Mo_find K l v0 4 r13 v4 s9 _ q28
      refine g_callV (a := v0) (ci := 11) (q0 := (RX11, TX11, 90)) (As := [p_i 4, p_i r13, p_i v4]) (rest := []) [] mt_Mo_find rfl rfl tw_8_85 ts_76 tw_8_83 ⟨Nat.le_of_ble_eq_true rfl, Nat.le_of_ble_eq_true rfl⟩ rfl (Nat.le_of_ble_eq_true rfl) (dk_Mo_actPanel 36 rfl) rfl (c1.up hs12) rfl t29 ?_
      have hs30 : p_x s9 s27 := t29.1
      show p_Go K l m_Mo_actPanel 62 [(5, p_i r13), (0, p_r v0), (1, p_i v1), (2, p_i v2), (3, p_i v3), (4, p_i v4)] [] s27 _
      cases h
      exact g_ret rfl rfl (dk_Mo_actPanel 37 rfl) (fun _ => rfl)
set_option maxRecDepth 100000 in
set_option maxHeartbeats 4000000 in
theorem tO_Mo_actPanel_28 (K : p_K) (l : Launch)  : ∀ (n : Nat) (v0 : Nat) (v1 : Int) (v2 : Int) (v3 : Int) (v4 : Int) (s0 : p_Hp) (r : p_Hp), O_Mo_actPanel_28 n v0 v1 v2 v3 v4 s0 = some r → p_Go K l m_Mo_actPanel 28 [(0, p_r v0), (1, p_i v1), (2, p_i v2), (3, p_i v3), (4, p_i v4)] [] s0 (none, r) := by
  intro n
  induction n with
  | zero => intro v0 v1 v2 v3 v4 s0 r h; cases (show (none : Option p_Hp) = some r from h)
  | succ n ih => intro v0 v1 v2 v3 v4 s0 r h; exact tL_Mo_actPanel_28 K l _ ih v0 v1 v2 v3 v4 s0 r h
set_option maxRecDepth 100000 in
set_option maxHeartbeats 4000000 in
theorem tF_Mo_actPanel (K : p_K) (l : Launch) (v0 : Nat) (v1 : Int) (s0 : p_Hp) (r : p_Hp) (h : F_Mo_actPanel v0 v1 s0 = some r) : p_Ct K l m_Mo_actPanel [p_r v0, p_i v1] s0 (none, r) := by
  refine p_Ct.of (by decide +kernel) (Nat.le_of_ble_eq_true rfl) ?_
  unfold F_Mo_actPanel at h
  show p_Go K l m_Mo_actPanel 0 [(0, p_r v0), (1, p_i v1)] [] s0 _
  refine g_aload_n (i := 0) (j := 0) (dk_Mo_actPanel 0 rfl) rfl rfl ?_
  refine g_iload_n (i := 1) (j := 1) (dk_Mo_actPanel 1 rfl) rfl rfl ?_
  obtain ⟨c1, h⟩ := p_gdE h
  obtain ⟨r6, s2, q3, h⟩ := p_bdE h
  have t4 := tF_Mo_g K l v0 v1 s0 _ q3
  refine g_callV (a := v0) (ci := 11) (q0 := (RX11, TX11, 90)) (As := [p_i v1]) (rest := []) [p_i r6] mt_Mo_g rfl rfl tw_7_84 ts_45 tw_7_82 ⟨Nat.le_of_ble_eq_true rfl, Nat.le_of_ble_eq_true rfl⟩ rfl (Nat.le_of_ble_eq_true rfl) (dk_Mo_actPanel 2 rfl) rfl c1 rfl t4 ?_
  have hs5 : p_x s0 s2 := t4.1
  show p_Go K l m_Mo_actPanel 5 [(0, p_r v0), (1, p_i v1)] [p_i r6] s2 _
  refine g_istore_n (i := 2) [(2, p_i r6), (0, p_r v0), (1, p_i v1)] (dk_Mo_actPanel 3 rfl) rfl (by decide) rfl ?_
  refine g_iconst (dk_Mo_actPanel 4 rfl) (by decide) ?_
  refine g_istore_n (i := 3) [(3, p_i 0), (2, p_i r6), (0, p_r v0), (1, p_i v1)] (dk_Mo_actPanel 5 rfl) rfl (by decide) rfl ?_
  refine g_aload_n (i := 0) (j := 2) (dk_Mo_actPanel 6 rfl) rfl rfl ?_
  refine g_getR fl_Mo_22 (Or.inr ⟨_, rfl⟩) (dk_Mo_actPanel 7 rfl) (c1.up hs5) ?_
  refine g_iload_n (i := 2) (j := 1) (dk_Mo_actPanel 8 rfl) rfl rfl ?_
  obtain ⟨c7, h⟩ := p_gdE h
  obtain ⟨c8, h⟩ := p_gdE h
  refine g_iaload (dk_Mo_actPanel 9 rfl) c7 c8.1 c8.2 ?_
  refine g_if_ge 25 (dk_Mo_actPanel 10 rfl) (by decide) (fun b9 => ?_) (fun b9 => ?_)
  · have h := p_ifT b9 h
    refine g_iconst (dk_Mo_actPanel 17 rfl) (by decide) ?_
    refine g_istore [(4, p_i 0), (3, p_i 0), (2, p_i r6), (0, p_r v0), (1, p_i v1)] (dk_Mo_actPanel 18 rfl) (by decide) rfl ?_
    refine g_sub [(0, p_r v0), (1, p_i v1), (2, p_i r6), (3, p_i 0), (4, p_i 0)] [3, 4, 2, 1, 0] rfl ?_
    exact tO_Mo_actPanel_28 K l 3000 v0 v1 r6 0 0 s2 _ h
  · have h := p_ifF b9 h
    refine g_aload_n (i := 0) (j := 2) (dk_Mo_actPanel 11 rfl) rfl rfl ?_
    refine g_iconst (dk_Mo_actPanel 12 rfl) (by decide) ?_
    refine g_iconst (dk_Mo_actPanel 13 rfl) (by decide) ?_
    refine g_iconst (dk_Mo_actPanel 14 rfl) (by decide) ?_
    obtain ⟨s10, q11, h⟩ := p_bvE h
    have t12 := tF_Mo_find K l v0 4 1 0 s2 _ q11
    refine g_callV (a := v0) (ci := 11) (q0 := (RX11, TX11, 90)) (As := [p_i 4, p_i 1, p_i 0]) (rest := []) [] mt_Mo_find rfl rfl tw_8_85 ts_76 tw_8_83 ⟨Nat.le_of_ble_eq_true rfl, Nat.le_of_ble_eq_true rfl⟩ rfl (Nat.le_of_ble_eq_true rfl) (dk_Mo_actPanel 15 rfl) rfl (c1.up hs5) rfl t12 ?_
    have hs13 : p_x s2 s10 := t12.1
    show p_Go K l m_Mo_actPanel 24 [(3, p_i 0), (2, p_i r6), (0, p_r v0), (1, p_i v1)] [] s10 _
    cases h
    exact g_ret rfl rfl (dk_Mo_actPanel 16 rfl) (fun _ => rfl)
def m_Mo_body : p_Me := (⟨"SortWorksModel", "body", "(I)V"⟩, prog_13_method_58_code, 2, none, 0, 0)
theorem mt_Mo_body : p_Mt m_Mo_body 1 := ⟨p_mem (p_tb8 (List.mem_of_getElem? (i := 121) rfl)) rfl, tw_1_12, by decide +kernel, by decide +kernel, by decide +kernel⟩
def dt_Mo_body : List (Nat × Instr × Nat) := [(0, .aload_n 0, 1), (1, .getfield 132, 3), (4, .aload_n 0, 1), (5, .getfield 227, 3), (8, .iaload, 1), (9, .bipush 60, 2), (11, .if_icmp .ge 26, 3), (14, .aload_n 0, 1), (15, .getfield 135, 3), (18, .bipush 60, 2), (20, .aload_n 0, 1), (21, .getfield 227, 3), (24, .imul, 1), (25, .aload_n 0, 1), (26, .getfield 132, 3), (29, .aload_n 0, 1), (30, .getfield 227, 3), (33, .iaload, 1), (34, .iadd, 1), (35, .iload_n 1, 1), (36, .iastore, 1), (37, .aload_n 0, 1), (38, .getfield 132, 3), (41, .aload_n 0, 1), (42, .getfield 227, 3), (45, .dup2, 1), (46, .iaload, 1), (47, .iconst 1, 1), (48, .iadd, 1), (49, .iastore, 1), (50, .return_, 1)]
theorem dk_Mo_body (i : Nat) {pc : Nat} {ins : Instr} {len : Nat} (h : dt_Mo_body[i]? = some (pc, ins, len)) : decode m_Mo_body.2.1 pc = .ok (ins, len) := p_dk (b := m_Mo_body.2.1) (t := dt_Mo_body) (by decide +kernel) i h
def B_Mo_body_37  (v0 : Nat) (s0 : p_Hp) : Option p_Hp :=
  p_gd (p_is s0 v0 11) <|
  p_gd (p_is s0 (p_R s0 v0 44) 100) <|
  p_gd ((0 : Int) ≤ (p_Z s0 v0 0) ∧ (p_Z s0 v0 0) < (p_L s0 (p_R s0 v0 44) : Int)) <|
  p_gd ((0 : Int) ≤ (p_Z s0 v0 0) ∧ (p_Z s0 v0 0) < (p_L s0 (p_R s0 v0 44) : Int)) <|
  p_bi (p_wZ s0 (p_R s0 v0 44) ((p_Z s0 v0 0) : Int).toNat (p_w ((p_Z s0 (p_R s0 v0 44) ((p_Z s0 v0 0) : Int).toNat) + 1))) fun s5 =>
  some s5
def F_Mo_body (v0 : Nat) (v1 : Int) (s0 : p_Hp) : Option p_Hp :=
  p_gd (p_is s0 v0 11) <|
  p_gd (p_is s0 (p_R s0 v0 44) 100) <|
  p_gd ((0 : Int) ≤ (p_Z s0 v0 0) ∧ (p_Z s0 v0 0) < (p_L s0 (p_R s0 v0 44) : Int)) <|
  if 60 ≤ (p_Z s0 (p_R s0 v0 44) ((p_Z s0 v0 0) : Int).toNat) then
    B_Mo_body_37 v0 s0
  else
    p_gd ((0 : Int) ≤ (p_Z s0 v0 0) ∧ (p_Z s0 v0 0) < (p_L s0 (p_R s0 v0 44) : Int)) <|
    p_gd (p_is s0 (p_R s0 v0 45) 100) <|
    p_gd ((0 : Int) ≤ (p_w ((p_w (60 * (p_Z s0 v0 0))) + (p_Z s0 (p_R s0 v0 44) ((p_Z s0 v0 0) : Int).toNat))) ∧ (p_w ((p_w (60 * (p_Z s0 v0 0))) + (p_Z s0 (p_R s0 v0 44) ((p_Z s0 v0 0) : Int).toNat))) < (p_L s0 (p_R s0 v0 45) : Int)) <|
    p_bi (p_wZ s0 (p_R s0 v0 45) ((p_w ((p_w (60 * (p_Z s0 v0 0))) + (p_Z s0 (p_R s0 v0 44) ((p_Z s0 v0 0) : Int).toNat))) : Int).toNat v1) fun s8 =>
    B_Mo_body_37 v0 s8
set_option maxRecDepth 100000 in
set_option maxHeartbeats 4000000 in
theorem tB_Mo_body_37 (K : p_K) (l : Launch)  (v0 : Nat) (s0 : p_Hp) (r : p_Hp) (h : B_Mo_body_37 v0 s0 = some r) : p_Go K l m_Mo_body 37 [(0, p_r v0)] [] s0 (none, r) := by
  unfold B_Mo_body_37 at h
  refine g_aload_n (i := 0) (j := 0) (dk_Mo_body 21 rfl) rfl rfl ?_
  obtain ⟨c1, h⟩ := p_gdE h
  refine g_getR fl_Mo_132 (Or.inr ⟨_, rfl⟩) (dk_Mo_body 22 rfl) c1 ?_
  refine g_aload_n (i := 0) (j := 0) (dk_Mo_body 23 rfl) rfl rfl ?_
  refine g_getI fl_Mo_227 (Or.inl rfl) (dk_Mo_body 24 rfl) c1 ?_
  refine g_dup2 (dk_Mo_body 25 rfl) rfl rfl ?_
  obtain ⟨c2, h⟩ := p_gdE h
  obtain ⟨c3, h⟩ := p_gdE h
  refine g_iaload (dk_Mo_body 26 rfl) c2 c3.1 c3.2 ?_
  refine g_iconst (dk_Mo_body 27 rfl) (by decide) ?_
  refine g_iadd (dk_Mo_body 28 rfl) ?_
  obtain ⟨c4, h⟩ := p_gdE h
  refine g_iastore (dk_Mo_body 29 rfl) c2 c4.1 c4.2 ?_
  refine p_ltS (P := fun q => p_Go K l m_Mo_body 50 [(0, p_r v0)] [] q _) (p_xZ _ _ _ _) ?_ h
  intro s5 hs6 h
  cases h
  exact g_ret rfl rfl (dk_Mo_body 30 rfl) (fun _ => rfl)
set_option maxRecDepth 100000 in
set_option maxHeartbeats 4000000 in
theorem tF_Mo_body (K : p_K) (l : Launch) (v0 : Nat) (v1 : Int) (s0 : p_Hp) (r : p_Hp) (h : F_Mo_body v0 v1 s0 = some r) : p_Ct K l m_Mo_body [p_r v0, p_i v1] s0 (none, r) := by
  refine p_Ct.of (by decide +kernel) (Nat.le_of_ble_eq_true rfl) ?_
  unfold F_Mo_body at h
  show p_Go K l m_Mo_body 0 [(0, p_r v0), (1, p_i v1)] [] s0 _
  refine g_aload_n (i := 0) (j := 0) (dk_Mo_body 0 rfl) rfl rfl ?_
  obtain ⟨c1, h⟩ := p_gdE h
  refine g_getR fl_Mo_132 (Or.inr ⟨_, rfl⟩) (dk_Mo_body 1 rfl) c1 ?_
  refine g_aload_n (i := 0) (j := 0) (dk_Mo_body 2 rfl) rfl rfl ?_
  refine g_getI fl_Mo_227 (Or.inl rfl) (dk_Mo_body 3 rfl) c1 ?_
  obtain ⟨c2, h⟩ := p_gdE h
  obtain ⟨c3, h⟩ := p_gdE h
  refine g_iaload (dk_Mo_body 4 rfl) c2 c3.1 c3.2 ?_
  refine g_bipush (dk_Mo_body 5 rfl) (by decide +kernel) (by decide) ?_
  refine g_icmp_ge 37 (dk_Mo_body 6 rfl) (by decide) (fun b4 => ?_) (fun b4 => ?_)
  · have h := p_ifT b4 h
    refine g_sub [(0, p_r v0)] [0] rfl ?_
    exact tB_Mo_body_37 K l v0 s0 _ h
  · have h := p_ifF b4 h
    refine g_aload_n (i := 0) (j := 0) (dk_Mo_body 7 rfl) rfl rfl ?_
    refine g_getR fl_Mo_135 (Or.inr ⟨_, rfl⟩) (dk_Mo_body 8 rfl) c1 ?_
    refine g_bipush (dk_Mo_body 9 rfl) (by decide +kernel) (by decide) ?_
    refine g_aload_n (i := 0) (j := 0) (dk_Mo_body 10 rfl) rfl rfl ?_
    refine g_getI fl_Mo_227 (Or.inl rfl) (dk_Mo_body 11 rfl) c1 ?_
    refine g_imul (dk_Mo_body 12 rfl) ?_
    refine g_aload_n (i := 0) (j := 0) (dk_Mo_body 13 rfl) rfl rfl ?_
    refine g_getR fl_Mo_132 (Or.inr ⟨_, rfl⟩) (dk_Mo_body 14 rfl) c1 ?_
    refine g_aload_n (i := 0) (j := 0) (dk_Mo_body 15 rfl) rfl rfl ?_
    refine g_getI fl_Mo_227 (Or.inl rfl) (dk_Mo_body 16 rfl) c1 ?_
    obtain ⟨c5, h⟩ := p_gdE h
    refine g_iaload (dk_Mo_body 17 rfl) c2 c5.1 c5.2 ?_
    refine g_iadd (dk_Mo_body 18 rfl) ?_
    refine g_iload_n (i := 1) (j := 1) (dk_Mo_body 19 rfl) rfl rfl ?_
    obtain ⟨c6, h⟩ := p_gdE h
    obtain ⟨c7, h⟩ := p_gdE h
    refine g_iastore (dk_Mo_body 20 rfl) c6 c7.1 c7.2 ?_
    refine p_ltS (P := fun q => p_Go K l m_Mo_body 37 [(0, p_r v0), (1, p_i v1)] [] q _) (p_xZ _ _ _ _) ?_ h
    intro s8 hs9 h
    refine g_sub [(0, p_r v0)] [0] rfl ?_
    exact tB_Mo_body_37 K l v0 s8 _ h
def m_Mo_bodies : p_Me := (⟨"SortWorksModel", "bodies", "(I)V"⟩, prog_13_method_79_code, 2, none, 1, 21)
theorem mt_Mo_bodies : p_Mt m_Mo_bodies 1 := ⟨p_mem (p_tb8 (List.mem_of_getElem? (i := 133) rfl)) rfl, tw_1_12, by decide +kernel, by decide +kernel, by decide +kernel⟩
def dt_Mo_bodies : List (Nat × Instr × Nat) := [(0, .iload_n 1, 1), (1, .tableswitch 126 1 8 #[47, 55, 63, 71, 84, 93, 108, 117], 47), (48, .aload_n 0, 1), (49, .iconst 2, 1), (50, .invokevirtual 441, 3), (53, .goto 74, 3), (56, .aload_n 0, 1), (57, .iconst 3, 1), (58, .invokevirtual 441, 3), (61, .goto 66, 3), (64, .aload_n 0, 1), (65, .iconst 4, 1), (66, .invokevirtual 441, 3), (69, .goto 58, 3), (72, .aload_n 0, 1), (73, .iconst 5, 1), (74, .invokevirtual 441, 3), (77, .aload_n 0, 1), (78, .iconst 4, 1), (79, .invokevirtual 441, 3), (82, .goto 45, 3), (85, .aload_n 0, 1), (86, .bipush 6, 2), (88, .invokevirtual 441, 3), (91, .goto 36, 3), (94, .aload_n 0, 1), (95, .bipush 7, 2), (97, .invokevirtual 441, 3), (100, .aload_n 0, 1), (101, .bipush 6, 2), (103, .invokevirtual 441, 3), (106, .goto 21, 3), (109, .aload_n 0, 1), (110, .bipush 8, 2), (112, .invokevirtual 441, 3), (115, .goto 12, 3), (118, .aload_n 0, 1), (119, .bipush 9, 2), (121, .invokevirtual 441, 3), (124, .goto 3, 3), (127, .return_, 1)]
theorem dk_Mo_bodies (i : Nat) {pc : Nat} {ins : Instr} {len : Nat} (h : dt_Mo_bodies[i]? = some (pc, ins, len)) : decode m_Mo_bodies.2.1 pc = .ok (ins, len) := p_dk (b := m_Mo_bodies.2.1) (t := dt_Mo_bodies) (by decide +kernel) i h
def F_Mo_bodies (v0 : Nat) (v1 : Int) (s0 : p_Hp) : Option p_Hp :=
  if v1 = 1 then
    p_gd (p_is s0 v0 11) <|
    p_bv (F_Mo_body v0 2 s0) fun s3 =>
    some s3
  else if v1 = 2 then
    p_gd (p_is s0 v0 11) <|
    p_bv (F_Mo_body v0 3 s0) fun s9 =>
    some s9
  else if v1 = 3 then
    p_gd (p_is s0 v0 11) <|
    p_bv (F_Mo_body v0 4 s0) fun s15 =>
    some s15
  else if v1 = 4 then
    p_gd (p_is s0 v0 11) <|
    p_bv (F_Mo_body v0 5 s0) fun s21 =>
    p_bv (F_Mo_body v0 4 s21) fun s25 =>
    some s25
  else if v1 = 5 then
    p_gd (p_is s0 v0 11) <|
    p_bv (F_Mo_body v0 6 s0) fun s31 =>
    some s31
  else if v1 = 6 then
    p_gd (p_is s0 v0 11) <|
    p_bv (F_Mo_body v0 7 s0) fun s37 =>
    p_bv (F_Mo_body v0 6 s37) fun s41 =>
    some s41
  else if v1 = 7 then
    p_gd (p_is s0 v0 11) <|
    p_bv (F_Mo_body v0 8 s0) fun s47 =>
    some s47
  else if v1 = 8 then
    p_gd (p_is s0 v0 11) <|
    p_bv (F_Mo_body v0 9 s0) fun s53 =>
    some s53
  else 
  some s0
set_option maxRecDepth 100000 in
set_option maxHeartbeats 4000000 in
theorem tF_Mo_bodies (K : p_K) (l : Launch) (v0 : Nat) (v1 : Int) (s0 : p_Hp) (r : p_Hp) (h : F_Mo_bodies v0 v1 s0 = some r) : p_Ct K l m_Mo_bodies [p_r v0, p_i v1] s0 (none, r) := by
  refine p_Ct.of (by decide +kernel) (Nat.le_of_ble_eq_true rfl) ?_
  unfold F_Mo_bodies at h
  show p_Go K l m_Mo_bodies 0 [(0, p_r v0), (1, p_i v1)] [] s0 _
  refine g_iload_n (i := 1) (j := 1) (dk_Mo_bodies 0 rfl) rfl rfl ?_
  rcases p_iteE h with ⟨b1, h⟩ | ⟨b1, h⟩
  · refine g_tableIn 48 (dk_Mo_bodies 1 rfl) (by omega) (by omega) (by rw [b1]; rfl) (by decide) ?_
    refine g_aload_n (i := 0) (j := 0) (dk_Mo_bodies 2 rfl) rfl rfl ?_
    refine g_iconst (dk_Mo_bodies 3 rfl) (by decide) ?_
    obtain ⟨c2, h⟩ := p_gdE h
    obtain ⟨s3, q4, h⟩ := p_bvE h
    have t5 := tF_Mo_body K l v0 2 s0 _ q4
    refine g_callV (a := v0) (ci := 11) (q0 := (RX11, TX11, 90)) (As := [p_i 2]) (rest := []) [] mt_Mo_body rfl rfl tw_8_120 ts_84 tw_8_118 ⟨Nat.le_of_ble_eq_true rfl, Nat.le_of_ble_eq_true rfl⟩ rfl (Nat.le_of_ble_eq_true rfl) (dk_Mo_bodies 4 rfl) rfl c2 rfl t5 ?_
    have hs6 : p_x s0 s3 := t5.1
    show p_Go K l m_Mo_bodies 53 [(0, p_r v0), (1, p_i v1)] [] s3 _
    refine g_goto 127 (dk_Mo_bodies 5 rfl) (by decide) ?_
    cases h
    exact g_ret rfl rfl (dk_Mo_bodies 40 rfl) (fun _ => rfl)
  rcases p_iteE h with ⟨b7, h⟩ | ⟨b7, h⟩
  · refine g_tableIn 56 (dk_Mo_bodies 1 rfl) (by omega) (by omega) (by rw [b7]; rfl) (by decide) ?_
    refine g_aload_n (i := 0) (j := 0) (dk_Mo_bodies 6 rfl) rfl rfl ?_
    refine g_iconst (dk_Mo_bodies 7 rfl) (by decide) ?_
    obtain ⟨c8, h⟩ := p_gdE h
    obtain ⟨s9, q10, h⟩ := p_bvE h
    have t11 := tF_Mo_body K l v0 3 s0 _ q10
    refine g_callV (a := v0) (ci := 11) (q0 := (RX11, TX11, 90)) (As := [p_i 3]) (rest := []) [] mt_Mo_body rfl rfl tw_8_120 ts_84 tw_8_118 ⟨Nat.le_of_ble_eq_true rfl, Nat.le_of_ble_eq_true rfl⟩ rfl (Nat.le_of_ble_eq_true rfl) (dk_Mo_bodies 8 rfl) rfl c8 rfl t11 ?_
    have hs12 : p_x s0 s9 := t11.1
    show p_Go K l m_Mo_bodies 61 [(0, p_r v0), (1, p_i v1)] [] s9 _
    refine g_goto 127 (dk_Mo_bodies 9 rfl) (by decide) ?_
    cases h
    exact g_ret rfl rfl (dk_Mo_bodies 40 rfl) (fun _ => rfl)
  rcases p_iteE h with ⟨b13, h⟩ | ⟨b13, h⟩
  · refine g_tableIn 64 (dk_Mo_bodies 1 rfl) (by omega) (by omega) (by rw [b13]; rfl) (by decide) ?_
    refine g_aload_n (i := 0) (j := 0) (dk_Mo_bodies 10 rfl) rfl rfl ?_
    refine g_iconst (dk_Mo_bodies 11 rfl) (by decide) ?_
    obtain ⟨c14, h⟩ := p_gdE h
    obtain ⟨s15, q16, h⟩ := p_bvE h
    have t17 := tF_Mo_body K l v0 4 s0 _ q16
    refine g_callV (a := v0) (ci := 11) (q0 := (RX11, TX11, 90)) (As := [p_i 4]) (rest := []) [] mt_Mo_body rfl rfl tw_8_120 ts_84 tw_8_118 ⟨Nat.le_of_ble_eq_true rfl, Nat.le_of_ble_eq_true rfl⟩ rfl (Nat.le_of_ble_eq_true rfl) (dk_Mo_bodies 12 rfl) rfl c14 rfl t17 ?_
    have hs18 : p_x s0 s15 := t17.1
    show p_Go K l m_Mo_bodies 69 [(0, p_r v0), (1, p_i v1)] [] s15 _
    refine g_goto 127 (dk_Mo_bodies 13 rfl) (by decide) ?_
    cases h
    exact g_ret rfl rfl (dk_Mo_bodies 40 rfl) (fun _ => rfl)
  rcases p_iteE h with ⟨b19, h⟩ | ⟨b19, h⟩
  · refine g_tableIn 72 (dk_Mo_bodies 1 rfl) (by omega) (by omega) (by rw [b19]; rfl) (by decide) ?_
    refine g_aload_n (i := 0) (j := 0) (dk_Mo_bodies 14 rfl) rfl rfl ?_
    refine g_iconst (dk_Mo_bodies 15 rfl) (by decide) ?_
    obtain ⟨c20, h⟩ := p_gdE h
    obtain ⟨s21, q22, h⟩ := p_bvE h
    have t23 := tF_Mo_body K l v0 5 s0 _ q22
    refine g_callV (a := v0) (ci := 11) (q0 := (RX11, TX11, 90)) (As := [p_i 5]) (rest := []) [] mt_Mo_body rfl rfl tw_8_120 ts_84 tw_8_118 ⟨Nat.le_of_ble_eq_true rfl, Nat.le_of_ble_eq_true rfl⟩ rfl (Nat.le_of_ble_eq_true rfl) (dk_Mo_bodies 16 rfl) rfl c20 rfl t23 ?_
    have hs24 : p_x s0 s21 := t23.1
    show p_Go K l m_Mo_bodies 77 [(0, p_r v0), (1, p_i v1)] [] s21 _
    refine g_aload_n (i := 0) (j := 0) (dk_Mo_bodies 17 rfl) rfl rfl ?_
    refine g_iconst (dk_Mo_bodies 18 rfl) (by decide) ?_
    obtain ⟨s25, q26, h⟩ := p_bvE h
    have t27 := tF_Mo_body K l v0 4 s21 _ q26
    refine g_callV (a := v0) (ci := 11) (q0 := (RX11, TX11, 90)) (As := [p_i 4]) (rest := []) [] mt_Mo_body rfl rfl tw_8_120 ts_84 tw_8_118 ⟨Nat.le_of_ble_eq_true rfl, Nat.le_of_ble_eq_true rfl⟩ rfl (Nat.le_of_ble_eq_true rfl) (dk_Mo_bodies 19 rfl) rfl (c20.up hs24) rfl t27 ?_
    have hs28 : p_x s21 s25 := t27.1
    show p_Go K l m_Mo_bodies 82 [(0, p_r v0), (1, p_i v1)] [] s25 _
    refine g_goto 127 (dk_Mo_bodies 20 rfl) (by decide) ?_
    cases h
    exact g_ret rfl rfl (dk_Mo_bodies 40 rfl) (fun _ => rfl)
  rcases p_iteE h with ⟨b29, h⟩ | ⟨b29, h⟩
  · refine g_tableIn 85 (dk_Mo_bodies 1 rfl) (by omega) (by omega) (by rw [b29]; rfl) (by decide) ?_
    refine g_aload_n (i := 0) (j := 0) (dk_Mo_bodies 21 rfl) rfl rfl ?_
    refine g_bipush (dk_Mo_bodies 22 rfl) (by decide +kernel) (by decide) ?_
    obtain ⟨c30, h⟩ := p_gdE h
    obtain ⟨s31, q32, h⟩ := p_bvE h
    have t33 := tF_Mo_body K l v0 6 s0 _ q32
    refine g_callV (a := v0) (ci := 11) (q0 := (RX11, TX11, 90)) (As := [p_i 6]) (rest := []) [] mt_Mo_body rfl rfl tw_8_120 ts_84 tw_8_118 ⟨Nat.le_of_ble_eq_true rfl, Nat.le_of_ble_eq_true rfl⟩ rfl (Nat.le_of_ble_eq_true rfl) (dk_Mo_bodies 23 rfl) rfl c30 rfl t33 ?_
    have hs34 : p_x s0 s31 := t33.1
    show p_Go K l m_Mo_bodies 91 [(0, p_r v0), (1, p_i v1)] [] s31 _
    refine g_goto 127 (dk_Mo_bodies 24 rfl) (by decide) ?_
    cases h
    exact g_ret rfl rfl (dk_Mo_bodies 40 rfl) (fun _ => rfl)
  rcases p_iteE h with ⟨b35, h⟩ | ⟨b35, h⟩
  · refine g_tableIn 94 (dk_Mo_bodies 1 rfl) (by omega) (by omega) (by rw [b35]; rfl) (by decide) ?_
    refine g_aload_n (i := 0) (j := 0) (dk_Mo_bodies 25 rfl) rfl rfl ?_
    refine g_bipush (dk_Mo_bodies 26 rfl) (by decide +kernel) (by decide) ?_
    obtain ⟨c36, h⟩ := p_gdE h
    obtain ⟨s37, q38, h⟩ := p_bvE h
    have t39 := tF_Mo_body K l v0 7 s0 _ q38
    refine g_callV (a := v0) (ci := 11) (q0 := (RX11, TX11, 90)) (As := [p_i 7]) (rest := []) [] mt_Mo_body rfl rfl tw_8_120 ts_84 tw_8_118 ⟨Nat.le_of_ble_eq_true rfl, Nat.le_of_ble_eq_true rfl⟩ rfl (Nat.le_of_ble_eq_true rfl) (dk_Mo_bodies 27 rfl) rfl c36 rfl t39 ?_
    have hs40 : p_x s0 s37 := t39.1
    show p_Go K l m_Mo_bodies 100 [(0, p_r v0), (1, p_i v1)] [] s37 _
    refine g_aload_n (i := 0) (j := 0) (dk_Mo_bodies 28 rfl) rfl rfl ?_
    refine g_bipush (dk_Mo_bodies 29 rfl) (by decide +kernel) (by decide) ?_
    obtain ⟨s41, q42, h⟩ := p_bvE h
    have t43 := tF_Mo_body K l v0 6 s37 _ q42
    refine g_callV (a := v0) (ci := 11) (q0 := (RX11, TX11, 90)) (As := [p_i 6]) (rest := []) [] mt_Mo_body rfl rfl tw_8_120 ts_84 tw_8_118 ⟨Nat.le_of_ble_eq_true rfl, Nat.le_of_ble_eq_true rfl⟩ rfl (Nat.le_of_ble_eq_true rfl) (dk_Mo_bodies 30 rfl) rfl (c36.up hs40) rfl t43 ?_
    have hs44 : p_x s37 s41 := t43.1
    show p_Go K l m_Mo_bodies 106 [(0, p_r v0), (1, p_i v1)] [] s41 _
    refine g_goto 127 (dk_Mo_bodies 31 rfl) (by decide) ?_
    cases h
    exact g_ret rfl rfl (dk_Mo_bodies 40 rfl) (fun _ => rfl)
  rcases p_iteE h with ⟨b45, h⟩ | ⟨b45, h⟩
  · refine g_tableIn 109 (dk_Mo_bodies 1 rfl) (by omega) (by omega) (by rw [b45]; rfl) (by decide) ?_
    refine g_aload_n (i := 0) (j := 0) (dk_Mo_bodies 32 rfl) rfl rfl ?_
    refine g_bipush (dk_Mo_bodies 33 rfl) (by decide +kernel) (by decide) ?_
    obtain ⟨c46, h⟩ := p_gdE h
    obtain ⟨s47, q48, h⟩ := p_bvE h
    have t49 := tF_Mo_body K l v0 8 s0 _ q48
    refine g_callV (a := v0) (ci := 11) (q0 := (RX11, TX11, 90)) (As := [p_i 8]) (rest := []) [] mt_Mo_body rfl rfl tw_8_120 ts_84 tw_8_118 ⟨Nat.le_of_ble_eq_true rfl, Nat.le_of_ble_eq_true rfl⟩ rfl (Nat.le_of_ble_eq_true rfl) (dk_Mo_bodies 34 rfl) rfl c46 rfl t49 ?_
    have hs50 : p_x s0 s47 := t49.1
    show p_Go K l m_Mo_bodies 115 [(0, p_r v0), (1, p_i v1)] [] s47 _
    refine g_goto 127 (dk_Mo_bodies 35 rfl) (by decide) ?_
    cases h
    exact g_ret rfl rfl (dk_Mo_bodies 40 rfl) (fun _ => rfl)
  rcases p_iteE h with ⟨b51, h⟩ | ⟨b51, h⟩
  · refine g_tableIn 118 (dk_Mo_bodies 1 rfl) (by omega) (by omega) (by rw [b51]; rfl) (by decide) ?_
    refine g_aload_n (i := 0) (j := 0) (dk_Mo_bodies 36 rfl) rfl rfl ?_
    refine g_bipush (dk_Mo_bodies 37 rfl) (by decide +kernel) (by decide) ?_
    obtain ⟨c52, h⟩ := p_gdE h
    obtain ⟨s53, q54, h⟩ := p_bvE h
    have t55 := tF_Mo_body K l v0 9 s0 _ q54
    refine g_callV (a := v0) (ci := 11) (q0 := (RX11, TX11, 90)) (As := [p_i 9]) (rest := []) [] mt_Mo_body rfl rfl tw_8_120 ts_84 tw_8_118 ⟨Nat.le_of_ble_eq_true rfl, Nat.le_of_ble_eq_true rfl⟩ rfl (Nat.le_of_ble_eq_true rfl) (dk_Mo_bodies 38 rfl) rfl c52 rfl t55 ?_
    have hs56 : p_x s0 s53 := t55.1
    show p_Go K l m_Mo_bodies 124 [(0, p_r v0), (1, p_i v1)] [] s53 _
    refine g_goto 127 (dk_Mo_bodies 39 rfl) (by decide) ?_
    cases h
    exact g_ret rfl rfl (dk_Mo_bodies 40 rfl) (fun _ => rfl)
  refine g_tableOut 127 (dk_Mo_bodies 1 rfl) (by omega) (by decide) ?_
  cases h
  exact g_ret rfl rfl (dk_Mo_bodies 40 rfl) (fun _ => rfl)
def m_Mo_bodiesLast : p_Me := (⟨"SortWorksModel", "bodiesLast", "(I)V"⟩, prog_13_method_80_code, 2, none, 1, 21)
theorem mt_Mo_bodiesLast : p_Mt m_Mo_bodiesLast 1 := ⟨p_mem (p_tb8 (List.mem_of_getElem? (i := 157) rfl)) rfl, tw_1_12, by decide +kernel, by decide +kernel, by decide +kernel⟩
def dt_Mo_bodiesLast : List (Nat × Instr × Nat) := [(0, .iload_n 1, 1), (1, .iconst 5, 1), (2, .if_icmp .ge 8, 3), (5, .aload_n 0, 1), (6, .iconst 1, 1), (7, .invokevirtual 441, 3), (10, .return_, 1)]
theorem dk_Mo_bodiesLast (i : Nat) {pc : Nat} {ins : Instr} {len : Nat} (h : dt_Mo_bodiesLast[i]? = some (pc, ins, len)) : decode m_Mo_bodiesLast.2.1 pc = .ok (ins, len) := p_dk (b := m_Mo_bodiesLast.2.1) (t := dt_Mo_bodiesLast) (by decide +kernel) i h
def F_Mo_bodiesLast (v0 : Nat) (v1 : Int) (s0 : p_Hp) : Option p_Hp :=
  if 5 ≤ v1 then
    some s0
  else
    p_gd (p_is s0 v0 11) <|
    p_bv (F_Mo_body v0 1 s0) fun s3 =>
    some s3
set_option maxRecDepth 100000 in
set_option maxHeartbeats 4000000 in
theorem tF_Mo_bodiesLast (K : p_K) (l : Launch) (v0 : Nat) (v1 : Int) (s0 : p_Hp) (r : p_Hp) (h : F_Mo_bodiesLast v0 v1 s0 = some r) : p_Ct K l m_Mo_bodiesLast [p_r v0, p_i v1] s0 (none, r) := by
  refine p_Ct.of (by decide +kernel) (Nat.le_of_ble_eq_true rfl) ?_
  unfold F_Mo_bodiesLast at h
  show p_Go K l m_Mo_bodiesLast 0 [(0, p_r v0), (1, p_i v1)] [] s0 _
  refine g_iload_n (i := 1) (j := 1) (dk_Mo_bodiesLast 0 rfl) rfl rfl ?_
  refine g_iconst (dk_Mo_bodiesLast 1 rfl) (by decide) ?_
  refine g_icmp_ge 10 (dk_Mo_bodiesLast 2 rfl) (by decide) (fun b1 => ?_) (fun b1 => ?_)
  · have h := p_ifT b1 h
    cases h
    exact g_ret rfl rfl (dk_Mo_bodiesLast 6 rfl) (fun _ => rfl)
  · have h := p_ifF b1 h
    refine g_aload_n (i := 0) (j := 0) (dk_Mo_bodiesLast 3 rfl) rfl rfl ?_
    refine g_iconst (dk_Mo_bodiesLast 4 rfl) (by decide) ?_
    obtain ⟨c2, h⟩ := p_gdE h
    obtain ⟨s3, q4, h⟩ := p_bvE h
    have t5 := tF_Mo_body K l v0 1 s0 _ q4
    refine g_callV (a := v0) (ci := 11) (q0 := (RX11, TX11, 90)) (As := [p_i 1]) (rest := []) [] mt_Mo_body rfl rfl tw_8_120 ts_84 tw_8_118 ⟨Nat.le_of_ble_eq_true rfl, Nat.le_of_ble_eq_true rfl⟩ rfl (Nat.le_of_ble_eq_true rfl) (dk_Mo_bodiesLast 5 rfl) rfl c2 rfl t5 ?_
    have hs6 : p_x s0 s3 := t5.1
    show p_Go K l m_Mo_bodiesLast 10 [(0, p_r v0), (1, p_i v1)] [] s3 _
    cases h
    exact g_ret rfl rfl (dk_Mo_bodiesLast 6 rfl) (fun _ => rfl)
def m_Mo_linkAt : p_Me := (⟨"SortWorksModel", "linkAt", "(I)I"⟩, prog_13_method_62_code, 2, (some .int), 1, 21)
theorem mt_Mo_linkAt : p_Mt m_Mo_linkAt 1 := ⟨p_mem (p_tb8 (List.mem_of_getElem? (i := 105) rfl)) rfl, tw_1_12, by decide +kernel, by decide +kernel, by decide +kernel⟩
def dt_Mo_linkAt : List (Nat × Instr × Nat) := [(0, .aload_n 0, 1), (1, .getfield 16, 3), (4, .aload_n 0, 1), (5, .iload_n 1, 1), (6, .invokevirtual 257, 3), (9, .iaload, 1), (10, .invokestatic 234, 3), (13, .ifCond .eq 16, 3), (16, .aload_n 0, 1), (17, .getfield 31, 3), (20, .aload_n 0, 1), (21, .iload_n 1, 1), (22, .invokevirtual 257, 3), (25, .iaload, 1), (26, .goto 4, 3), (29, .iconst 0, 1), (30, .ireturn, 1)]
theorem dk_Mo_linkAt (i : Nat) {pc : Nat} {ins : Instr} {len : Nat} (h : dt_Mo_linkAt[i]? = some (pc, ins, len)) : decode m_Mo_linkAt.2.1 pc = .ok (ins, len) := p_dk (b := m_Mo_linkAt.2.1) (t := dt_Mo_linkAt) (by decide +kernel) i h
def F_Mo_linkAt (v0 : Nat) (v1 : Int) (s0 : p_Hp) : Option (Int × p_Hp) :=
  p_gd (p_is s0 v0 11) <|
  p_bd (F_Mo_g v0 v1 s0) fun r6 s2 =>
  p_gd (p_is s2 (p_R s0 v0 5) 100) <|
  p_gd ((0 : Int) ≤ r6 ∧ r6 < (p_L s2 (p_R s0 v0 5) : Int)) <|
  p_bd (F_Mo_isDivert (p_Z s2 (p_R s0 v0 5) (r6 : Int).toNat) s2) fun r13 s9 =>
  if r13 = 0 then
    some (0, s9)
  else
    p_bd (F_Mo_g v0 v1 s9) fun r19 s15 =>
    p_gd (p_is s15 (p_R s9 v0 10) 100) <|
    p_gd ((0 : Int) ≤ r19 ∧ r19 < (p_L s15 (p_R s9 v0 10) : Int)) <|
    some ((p_Z s15 (p_R s9 v0 10) (r19 : Int).toNat), s15)
set_option maxRecDepth 100000 in
set_option maxHeartbeats 4000000 in
theorem tF_Mo_linkAt (K : p_K) (l : Launch) (v0 : Nat) (v1 : Int) (s0 : p_Hp) (r : (Int × p_Hp)) (h : F_Mo_linkAt v0 v1 s0 = some r) : p_Ct K l m_Mo_linkAt [p_r v0, p_i v1] s0 (some (p_i r.1), r.2) := by
  refine p_Ct.of (by decide +kernel) (Nat.le_of_ble_eq_true rfl) ?_
  unfold F_Mo_linkAt at h
  show p_Go K l m_Mo_linkAt 0 [(0, p_r v0), (1, p_i v1)] [] s0 _
  refine g_aload_n (i := 0) (j := 0) (dk_Mo_linkAt 0 rfl) rfl rfl ?_
  obtain ⟨c1, h⟩ := p_gdE h
  refine g_getR fl_Mo_16 (Or.inr ⟨_, rfl⟩) (dk_Mo_linkAt 1 rfl) c1 ?_
  refine g_aload_n (i := 0) (j := 0) (dk_Mo_linkAt 2 rfl) rfl rfl ?_
  refine g_iload_n (i := 1) (j := 1) (dk_Mo_linkAt 3 rfl) rfl rfl ?_
  obtain ⟨r6, s2, q3, h⟩ := p_bdE h
  have t4 := tF_Mo_g K l v0 v1 s0 _ q3
  refine g_callV (a := v0) (ci := 11) (q0 := (RX11, TX11, 90)) (As := [p_i v1]) (rest := [p_r (p_R s0 v0 5)]) [p_i r6, p_r (p_R s0 v0 5)] mt_Mo_g rfl rfl tw_7_84 ts_45 tw_7_82 ⟨Nat.le_of_ble_eq_true rfl, Nat.le_of_ble_eq_true rfl⟩ rfl (Nat.le_of_ble_eq_true rfl) (dk_Mo_linkAt 4 rfl) rfl c1 rfl t4 ?_
  have hs5 : p_x s0 s2 := t4.1
  show p_Go K l m_Mo_linkAt 9 [(0, p_r v0), (1, p_i v1)] [p_i r6, p_r (p_R s0 v0 5)] s2 _
  obtain ⟨c7, h⟩ := p_gdE h
  obtain ⟨c8, h⟩ := p_gdE h
  refine g_iaload (dk_Mo_linkAt 5 rfl) c7 c8.1 c8.2 ?_
  obtain ⟨r13, s9, q10, h⟩ := p_bdE h
  have t11 := tF_Mo_isDivert K l (p_Z s2 (p_R s0 v0 5) (r6 : Int).toNat) s2 _ q10
  refine g_callS (av := [p_i (p_Z s2 (p_R s0 v0 5) (r6 : Int).toNat)]) (rest := []) [p_i r13] mt_Mo_isDivert tw_7_94 tw_7_93 ⟨Nat.le_of_ble_eq_true rfl, Nat.le_of_ble_eq_true rfl⟩ rfl (Nat.le_of_ble_eq_true rfl) (dk_Mo_linkAt 6 rfl) rfl rfl t11 ?_
  have hs12 : p_x s2 s9 := t11.1
  show p_Go K l m_Mo_linkAt 13 [(0, p_r v0), (1, p_i v1)] [p_i r13] s9 _
  refine g_if_eq 29 (dk_Mo_linkAt 7 rfl) (by decide) (fun b14 => ?_) (fun b14 => ?_)
  · have h := p_ifT b14 h
    refine g_iconst (dk_Mo_linkAt 15 rfl) (by decide) ?_
    cases h
    exact g_ret rfl rfl (dk_Mo_linkAt 16 rfl) (fun os => ⟨_, rfl, p_okh os⟩)
  · have h := p_ifF b14 h
    refine g_aload_n (i := 0) (j := 0) (dk_Mo_linkAt 8 rfl) rfl rfl ?_
    refine g_getR fl_Mo_31 (Or.inr ⟨_, rfl⟩) (dk_Mo_linkAt 9 rfl) (c1.up (hs5.trans hs12)) ?_
    refine g_aload_n (i := 0) (j := 0) (dk_Mo_linkAt 10 rfl) rfl rfl ?_
    refine g_iload_n (i := 1) (j := 1) (dk_Mo_linkAt 11 rfl) rfl rfl ?_
    obtain ⟨r19, s15, q16, h⟩ := p_bdE h
    have t17 := tF_Mo_g K l v0 v1 s9 _ q16
    refine g_callV (a := v0) (ci := 11) (q0 := (RX11, TX11, 90)) (As := [p_i v1]) (rest := [p_r (p_R s9 v0 10)]) [p_i r19, p_r (p_R s9 v0 10)] mt_Mo_g rfl rfl tw_7_84 ts_45 tw_7_82 ⟨Nat.le_of_ble_eq_true rfl, Nat.le_of_ble_eq_true rfl⟩ rfl (Nat.le_of_ble_eq_true rfl) (dk_Mo_linkAt 12 rfl) rfl (c1.up (hs5.trans hs12)) rfl t17 ?_
    have hs18 : p_x s9 s15 := t17.1
    show p_Go K l m_Mo_linkAt 25 [(0, p_r v0), (1, p_i v1)] [p_i r19, p_r (p_R s9 v0 10)] s15 _
    obtain ⟨c20, h⟩ := p_gdE h
    obtain ⟨c21, h⟩ := p_gdE h
    refine g_iaload (dk_Mo_linkAt 13 rfl) c20 c21.1 c21.2 ?_
    refine g_goto 30 (dk_Mo_linkAt 14 rfl) (by decide) ?_
    cases h
    exact g_ret rfl rfl (dk_Mo_linkAt 16 rfl) (fun os => ⟨_, rfl, p_okh os⟩)
def m_Mo_wants : p_Me := (⟨"SortWorksModel", "wants", "(II)I"⟩, prog_13_method_73_code, 5, (some .int), 1, 20)
theorem mt_Mo_wants : p_Mt m_Mo_wants 2 := ⟨p_mem (p_tb8 (List.mem_of_getElem? (i := 177) rfl)) rfl, tw_1_12, by decide +kernel, by decide +kernel, by decide +kernel⟩
def dt_Mo_wants : List (Nat × Instr × Nat) := [(0, .aload_n 0, 1), (1, .getfield 90, 3), (4, .iload_n 2, 1), (5, .iaload, 1), (6, .istore_n 3, 1), (7, .iconst 1, 1), (8, .istore 4, 2), (10, .iload 4, 2), (12, .aload_n 0, 1), (13, .getfield 16, 3), (16, .iload_n 1, 1), (17, .iaload, 1), (18, .invokestatic 277, 3), (21, .if_icmp .ge 38, 3), (24, .iload_n 3, 1), (25, .ifCond .lt 28, 3), (28, .aload_n 0, 1), (29, .getfield 34, 3), (32, .iconst 2, 1), (33, .iload_n 1, 1), (34, .imul, 1), (35, .iload 4, 2), (37, .iadd, 1), (38, .iconst 1, 1), (39, .isub, 1), (40, .laload, 1), (41, .iload_n 3, 1), (42, .lshr, 1), (43, .lconst 1, 1), (44, .land, 1), (45, .lconst 1, 1), (46, .lcmp, 1), (47, .ifCond .ne 6, 3), (50, .iload 4, 2), (52, .ireturn, 1), (53, .iinc 4 1, 3), (56, .goto (-46), 3), (59, .iconst 0, 1), (60, .ireturn, 1)]
theorem dk_Mo_wants (i : Nat) {pc : Nat} {ins : Instr} {len : Nat} (h : dt_Mo_wants[i]? = some (pc, ins, len)) : decode m_Mo_wants.2.1 pc = .ok (ins, len) := p_dk (b := m_Mo_wants.2.1) (t := dt_Mo_wants) (by decide +kernel) i h
def B_Mo_wants_53 (k10 : Nat → Int → Int → Int → p_Hp → Option (Int × p_Hp)) (v0 : Nat) (v1 : Int) (v3 : Int) (v4 : Int) (s0 : p_Hp) : Option (Int × p_Hp) :=
  p_bi (p_w (v4 + 1)) fun x1 =>
  k10 v0 v1 v3 x1 s0
def L_Mo_wants_10 (k10 : Nat → Int → Int → Int → p_Hp → Option (Int × p_Hp)) (v0 : Nat) (v1 : Int) (v3 : Int) (v4 : Int) (s0 : p_Hp) : Option (Int × p_Hp) :=
  p_gd (p_is s0 v0 11) <|
  p_gd (p_is s0 (p_R s0 v0 5) 100) <|
  p_gd ((0 : Int) ≤ v1 ∧ v1 < (p_L s0 (p_R s0 v0 5) : Int)) <|
  p_bd (F_Mo_sidesOf (p_Z s0 (p_R s0 v0 5) (v1 : Int).toNat) s0) fun r8 s4 =>
  if r8 ≤ v4 then
    some (0, s4)
  else
    if v3 < 0 then
      B_Mo_wants_53 k10 v0 v1 v3 v4 s4
    else
      p_gd (p_is s4 (p_R s4 v0 11) 101) <|
      p_gd ((0 : Int) ≤ (p_w ((p_w ((p_w (2 * v1)) + v4)) - 1)) ∧ (p_w ((p_w ((p_w (2 * v1)) + v4)) - 1)) < (p_L s4 (p_R s4 v0 11) : Int)) <|
      if (p_cmp (p_and6 (p_shr6 (p_Z s4 (p_R s4 v0 11) ((p_w ((p_w ((p_w (2 * v1)) + v4)) - 1)) : Int).toNat) v3) 1) 1) ≠ 0 then
        B_Mo_wants_53 k10 v0 v1 v3 v4 s4
      else
        some (v4, s4)
def O_Mo_wants_10  : Nat → Nat → Int → Int → Int → p_Hp → Option (Int × p_Hp)
  | 0 => fun _ _ _ _ _ => none
  | n + 1 => L_Mo_wants_10 (O_Mo_wants_10 n)
def F_Mo_wants (v0 : Nat) (v1 : Int) (v2 : Int) (s0 : p_Hp) : Option (Int × p_Hp) :=
  p_gd (p_is s0 v0 11) <|
  p_gd (p_is s0 (p_R s0 v0 30) 100) <|
  p_gd ((0 : Int) ≤ v2 ∧ v2 < (p_L s0 (p_R s0 v0 30) : Int)) <|
  p_bi ((p_Z s0 (p_R s0 v0 30) (v2 : Int).toNat)) fun x4 =>
  O_Mo_wants_10 3000 v0 v1 x4 1 s0
set_option maxRecDepth 100000 in
set_option maxHeartbeats 4000000 in
theorem tB_Mo_wants_53 (K : p_K) (l : Launch) (k10 : Nat → Int → Int → Int → p_Hp → Option (Int × p_Hp)) (hk10 : ∀ (v0 : Nat) (v1 : Int) (v3 : Int) (v4 : Int)  (s0 : p_Hp) (r : (Int × p_Hp)), k10 v0 v1 v3 v4 s0 = some r → p_Go K l m_Mo_wants 10 [(0, p_r v0), (1, p_i v1), (3, p_i v3), (4, p_i v4)] [] s0 (some (p_i r.1), r.2)) (v0 : Nat) (v1 : Int) (v3 : Int) (v4 : Int) (s0 : p_Hp) (r : (Int × p_Hp)) (h : B_Mo_wants_53 k10 v0 v1 v3 v4 s0 = some r) : p_Go K l m_Mo_wants 53 [(0, p_r v0), (1, p_i v1), (3, p_i v3), (4, p_i v4)] [] s0 (some (p_i r.1), r.2) := by
  unfold B_Mo_wants_53 at h
  refine g_iinc (j := 3) [(4, p_i (p_w (v4 + 1))), (0, p_r v0), (1, p_i v1), (3, p_i v3)] (dk_Mo_wants 35 rfl) rfl (by decide) rfl ?_
  refine p_ltG (P := fun q => p_Go K l m_Mo_wants 56 [(4, p_i q), (0, p_r v0), (1, p_i v1), (3, p_i v3)] [] s0 _) ?_ h
  intro x1 h
  refine g_goto 10 (dk_Mo_wants 36 rfl) (by decide) ?_
  refine g_sub [(0, p_r v0), (1, p_i v1), (3, p_i v3), (4, p_i x1)] [1, 2, 3, 0] rfl ?_
  exact hk10 v0 v1 v3 x1 s0 _ h
set_option maxRecDepth 100000 in
set_option maxHeartbeats 4000000 in
theorem tL_Mo_wants_10 (K : p_K) (l : Launch) (k10 : Nat → Int → Int → Int → p_Hp → Option (Int × p_Hp)) (hk10 : ∀ (v0 : Nat) (v1 : Int) (v3 : Int) (v4 : Int)  (s0 : p_Hp) (r : (Int × p_Hp)), k10 v0 v1 v3 v4 s0 = some r → p_Go K l m_Mo_wants 10 [(0, p_r v0), (1, p_i v1), (3, p_i v3), (4, p_i v4)] [] s0 (some (p_i r.1), r.2)) (v0 : Nat) (v1 : Int) (v3 : Int) (v4 : Int) (s0 : p_Hp) (r : (Int × p_Hp)) (h : L_Mo_wants_10 k10 v0 v1 v3 v4 s0 = some r) : p_Go K l m_Mo_wants 10 [(0, p_r v0), (1, p_i v1), (3, p_i v3), (4, p_i v4)] [] s0 (some (p_i r.1), r.2) := by
  unfold L_Mo_wants_10 at h
  refine g_iload (j := 3) (dk_Mo_wants 7 rfl) rfl ?_
  refine g_aload_n (i := 0) (j := 0) (dk_Mo_wants 8 rfl) rfl rfl ?_
  obtain ⟨c1, h⟩ := p_gdE h
  refine g_getR fl_Mo_16 (Or.inr ⟨_, rfl⟩) (dk_Mo_wants 9 rfl) c1 ?_
  refine g_iload_n (i := 1) (j := 1) (dk_Mo_wants 10 rfl) rfl rfl ?_
  obtain ⟨c2, h⟩ := p_gdE h
  obtain ⟨c3, h⟩ := p_gdE h
  refine g_iaload (dk_Mo_wants 11 rfl) c2 c3.1 c3.2 ?_
  obtain ⟨r8, s4, q5, h⟩ := p_bdE h
  have t6 := tF_Mo_sidesOf K l (p_Z s0 (p_R s0 v0 5) (v1 : Int).toNat) s0 _ q5
  refine g_callS (av := [p_i (p_Z s0 (p_R s0 v0 5) (v1 : Int).toNat)]) (rest := [p_i v4]) [p_i r8, p_i v4] mt_Mo_sidesOf tw_7_123 tw_7_122 ⟨Nat.le_of_ble_eq_true rfl, Nat.le_of_ble_eq_true rfl⟩ rfl (Nat.le_of_ble_eq_true rfl) (dk_Mo_wants 12 rfl) rfl rfl t6 ?_
  have hs7 : p_x s0 s4 := t6.1
  show p_Go K l m_Mo_wants 21 [(0, p_r v0), (1, p_i v1), (3, p_i v3), (4, p_i v4)] [p_i r8, p_i v4] s4 _
  refine g_icmp_ge 59 (dk_Mo_wants 13 rfl) (by decide) (fun b9 => ?_) (fun b9 => ?_)
  · have h := p_ifT b9 h
    refine g_iconst (dk_Mo_wants 37 rfl) (by decide) ?_
    cases h
    exact g_ret rfl rfl (dk_Mo_wants 38 rfl) (fun os => ⟨_, rfl, p_okh os⟩)
  · have h := p_ifF b9 h
    refine g_iload_n (i := 3) (j := 2) (dk_Mo_wants 14 rfl) rfl rfl ?_
    refine g_if_lt 53 (dk_Mo_wants 15 rfl) (by decide) (fun b10 => ?_) (fun b10 => ?_)
    · have h := p_ifT b10 h
      exact tB_Mo_wants_53 K l k10 hk10 v0 v1 v3 v4 s4 _ h
    · have h := p_ifF b10 h
      refine g_aload_n (i := 0) (j := 0) (dk_Mo_wants 16 rfl) rfl rfl ?_
      refine g_getR fl_Mo_34 (Or.inr ⟨_, rfl⟩) (dk_Mo_wants 17 rfl) (c1.up hs7) ?_
      refine g_iconst (dk_Mo_wants 18 rfl) (by decide) ?_
      refine g_iload_n (i := 1) (j := 1) (dk_Mo_wants 19 rfl) rfl rfl ?_
      refine g_imul (dk_Mo_wants 20 rfl) ?_
      refine g_iload (j := 3) (dk_Mo_wants 21 rfl) rfl ?_
      refine g_iadd (dk_Mo_wants 22 rfl) ?_
      refine g_iconst (dk_Mo_wants 23 rfl) (by decide) ?_
      refine g_isub (dk_Mo_wants 24 rfl) ?_
      obtain ⟨c11, h⟩ := p_gdE h
      obtain ⟨c12, h⟩ := p_gdE h
      refine g_laload (dk_Mo_wants 25 rfl) c11 c12.1 c12.2 ?_
      refine g_iload_n (i := 3) (j := 2) (dk_Mo_wants 26 rfl) rfl rfl ?_
      refine g_lshr (dk_Mo_wants 27 rfl) ?_
      refine g_lconst (x := 1) (dk_Mo_wants 28 rfl) rfl (by decide) ?_
      refine g_land (dk_Mo_wants 29 rfl) ?_
      refine g_lconst (x := 1) (dk_Mo_wants 30 rfl) rfl (by decide) ?_
      refine g_lcmp (dk_Mo_wants 31 rfl) ?_
      refine g_if_ne 53 (dk_Mo_wants 32 rfl) (by decide) (fun b13 => ?_) (fun b13 => ?_)
      · have h := p_ifT b13 h
        exact tB_Mo_wants_53 K l k10 hk10 v0 v1 v3 v4 s4 _ h
      · have h := p_ifF b13 h
        refine g_iload (j := 3) (dk_Mo_wants 33 rfl) rfl ?_
        cases h
        exact g_ret rfl rfl (dk_Mo_wants 34 rfl) (fun os => ⟨_, rfl, p_okh os⟩)
set_option maxRecDepth 100000 in
set_option maxHeartbeats 4000000 in
theorem tO_Mo_wants_10 (K : p_K) (l : Launch)  : ∀ (n : Nat) (v0 : Nat) (v1 : Int) (v3 : Int) (v4 : Int) (s0 : p_Hp) (r : (Int × p_Hp)), O_Mo_wants_10 n v0 v1 v3 v4 s0 = some r → p_Go K l m_Mo_wants 10 [(0, p_r v0), (1, p_i v1), (3, p_i v3), (4, p_i v4)] [] s0 (some (p_i r.1), r.2) := by
  intro n
  induction n with
  | zero => intro v0 v1 v3 v4 s0 r h; cases (show (none : Option (Int × p_Hp)) = some r from h)
  | succ n ih => intro v0 v1 v3 v4 s0 r h; exact tL_Mo_wants_10 K l _ ih v0 v1 v3 v4 s0 r h
set_option maxRecDepth 100000 in
set_option maxHeartbeats 4000000 in
theorem tF_Mo_wants (K : p_K) (l : Launch) (v0 : Nat) (v1 : Int) (v2 : Int) (s0 : p_Hp) (r : (Int × p_Hp)) (h : F_Mo_wants v0 v1 v2 s0 = some r) : p_Ct K l m_Mo_wants [p_r v0, p_i v1, p_i v2] s0 (some (p_i r.1), r.2) := by
  refine p_Ct.of (by decide +kernel) (Nat.le_of_ble_eq_true rfl) ?_
  unfold F_Mo_wants at h
  show p_Go K l m_Mo_wants 0 [(0, p_r v0), (1, p_i v1), (2, p_i v2)] [] s0 _
  refine g_aload_n (i := 0) (j := 0) (dk_Mo_wants 0 rfl) rfl rfl ?_
  obtain ⟨c1, h⟩ := p_gdE h
  refine g_getR fl_Mo_90 (Or.inr ⟨_, rfl⟩) (dk_Mo_wants 1 rfl) c1 ?_
  refine g_iload_n (i := 2) (j := 2) (dk_Mo_wants 2 rfl) rfl rfl ?_
  obtain ⟨c2, h⟩ := p_gdE h
  obtain ⟨c3, h⟩ := p_gdE h
  refine g_iaload (dk_Mo_wants 3 rfl) c2 c3.1 c3.2 ?_
  refine g_istore_n (i := 3) [(3, p_i (p_Z s0 (p_R s0 v0 30) (v2 : Int).toNat)), (0, p_r v0), (1, p_i v1), (2, p_i v2)] (dk_Mo_wants 4 rfl) rfl (by decide) rfl ?_
  refine p_ltG (P := fun q => p_Go K l m_Mo_wants 7 [(3, p_i q), (0, p_r v0), (1, p_i v1), (2, p_i v2)] [] s0 _) ?_ h
  intro x4 h
  refine g_iconst (dk_Mo_wants 5 rfl) (by decide) ?_
  refine g_istore [(4, p_i 1), (3, p_i x4), (0, p_r v0), (1, p_i v1), (2, p_i v2)] (dk_Mo_wants 6 rfl) (by decide) rfl ?_
  refine g_sub [(0, p_r v0), (1, p_i v1), (3, p_i x4), (4, p_i 1)] [2, 3, 1, 0] rfl ?_
  exact tO_Mo_wants_10 K l 3000 v0 v1 x4 1 s0 _ h
def m_Mo_takes : p_Me := (⟨"SortWorksModel", "takes", "(III)Z"⟩, prog_13_method_74_code, 7, (some .boolean), 2, 44)
theorem mt_Mo_takes : p_Mt m_Mo_takes 3 := ⟨p_mem (p_tb8 (List.mem_of_getElem? (i := 173) rfl)) rfl, tw_1_12, by decide +kernel, by decide +kernel, by decide +kernel⟩
def dt_Mo_takes : List (Nat × Instr × Nat) := [(0, .aload_n 0, 1), (1, .iload_n 1, 1), (2, .invokevirtual 257, 3), (5, .istore 4, 2), (7, .aload_n 0, 1), (8, .getfield 69, 3), (11, .bipush 8, 2), (13, .iload 4, 2), (15, .imul, 1), (16, .iaload, 1), (17, .ifCond .ne 7, 3), (20, .iconst 1, 1), (21, .goto 4, 3), (24, .iconst 0, 1), (25, .istore 5, 2), (27, .aload_n 0, 1), (28, .getfield 16, 3), (31, .iload 4, 2), (33, .iaload, 1), (34, .tableswitch 187 2 8 #[42, 187, 187, 82, 82, 132, 159], 42), (76, .aload_n 0, 1), (77, .bipush 21, 2), (79, .invokevirtual 441, 3), (82, .aload_n 0, 1), (83, .getfield 201, 3), (86, .iload_n 1, 1), (87, .iaload, 1), (88, .iload_n 2, 1), (89, .if_icmp .eq 5, 3), (92, .iconst 0, 1), (93, .ireturn, 1), (94, .aload_n 0, 1), (95, .bipush 20, 2), (97, .invokevirtual 441, 3), (100, .iload 5, 2), (102, .ifCond .eq 11, 3), (105, .aload_n 0, 1), (106, .getfield 38, 3), (109, .iload 4, 2), (111, .iload_n 2, 1), (112, .iastore, 1), (113, .iload 5, 2), (115, .ireturn, 1), (116, .aload_n 0, 1), (117, .bipush 22, 2), (119, .invokevirtual 441, 3), (122, .aload_n 0, 1), (123, .iload 4, 2), (125, .iload_n 3, 1), (126, .invokevirtual 444, 3), (129, .istore 6, 2), (131, .aload_n 0, 1), (132, .getfield 31, 3), (135, .iload 4, 2), (137, .iaload, 1), (138, .iload 6, 2), (140, .if_icmp .ne 6, 3), (143, .iload 5, 2), (145, .ireturn, 1), (146, .aload_n 0, 1), (147, .iload 4, 2), (149, .invokevirtual 282, 3), (152, .ifCond .ne 12, 3), (155, .aload_n 0, 1), (156, .getfield 31, 3), (159, .iload 4, 2), (161, .iload 6, 2), (163, .iastore, 1), (164, .iconst 0, 1), (165, .ireturn, 1), (166, .aload_n 0, 1), (167, .bipush 23, 2), (169, .invokevirtual 441, 3), (172, .aload_n 0, 1), (173, .getfield 90, 3), (176, .iload_n 3, 1), (177, .iaload, 1), (178, .iload_n 1, 1), (179, .if_icmp .ne 12, 3), (182, .iload 5, 2), (184, .ifCond .eq 7, 3), (187, .iconst 1, 1), (188, .goto 4, 3), (191, .iconst 0, 1), (192, .ireturn, 1), (193, .aload_n 0, 1), (194, .bipush 24, 2), (196, .invokevirtual 441, 3), (199, .aload_n 0, 1), (200, .getfield 90, 3), (203, .iload_n 3, 1), (204, .iaload, 1), (205, .bipush (-8), 2), (207, .if_icmp .ne 12, 3), (210, .iload 5, 2), (212, .ifCond .eq 7, 3), (215, .iconst 1, 1), (216, .goto 4, 3), (219, .iconst 0, 1), (220, .ireturn, 1), (221, .aload_n 0, 1), (222, .bipush 20, 2), (224, .invokevirtual 441, 3), (227, .iload 5, 2), (229, .ireturn, 1)]
theorem dk_Mo_takes (i : Nat) {pc : Nat} {ins : Instr} {len : Nat} (h : dt_Mo_takes[i]? = some (pc, ins, len)) : decode m_Mo_takes.2.1 pc = .ok (ins, len) := p_dk (b := m_Mo_takes.2.1) (t := dt_Mo_takes) (by decide +kernel) i h
def B_Mo_takes_25  (v0 : Nat) (v1 : Int) (v2 : Int) (v3 : Int) (v4 : Int) (w0 : Int) (s0 : p_Hp) : Option (Int × p_Hp) :=
  p_gd (p_is s0 v0 11) <|
  p_gd (p_is s0 (p_R s0 v0 5) 100) <|
  p_gd ((0 : Int) ≤ v4 ∧ v4 < (p_L s0 (p_R s0 v0 5) : Int)) <|
  if (p_Z s0 (p_R s0 v0 5) (v4 : Int).toNat) = 2 then
    p_bv (F_Mo_body v0 21 s0) fun s5 =>
    p_gd (p_is s5 (p_R s5 v0 74) 100) <|
    p_gd ((0 : Int) ≤ v1 ∧ v1 < (p_L s5 (p_R s5 v0 74) : Int)) <|
    if (p_Z s5 (p_R s5 v0 74) (v1 : Int).toNat) = v2 then
      p_bv (F_Mo_body v0 20 s5) fun s12 =>
      if w0 = 0 then
        p_gd (w0 = 0 ∨ w0 = 1) <|
        some (w0, s12)
      else
        p_gd (p_is s12 (p_R s12 v0 12) 100) <|
        p_gd ((0 : Int) ≤ v4 ∧ v4 < (p_L s12 (p_R s12 v0 12) : Int)) <|
        p_bi (p_wZ s12 (p_R s12 v0 12) (v4 : Int).toNat v2) fun s20 =>
        p_gd (w0 = 0 ∨ w0 = 1) <|
        some (w0, s20)
    else
      some (0, s5)
  else if (p_Z s0 (p_R s0 v0 5) (v4 : Int).toNat) = 5 then
    p_bv (F_Mo_body v0 22 s0) fun s24 =>
    p_bd (F_Mo_wants v0 v4 v3 s24) fun r32 s28 =>
    p_gd (p_is s28 (p_R s28 v0 10) 100) <|
    p_gd ((0 : Int) ≤ v4 ∧ v4 < (p_L s28 (p_R s28 v0 10) : Int)) <|
    if (p_Z s28 (p_R s28 v0 10) (v4 : Int).toNat) ≠ r32 then
      p_bd (F_Mo_loadOf v0 v4 s28) fun r40 s36 =>
      if r40 ≠ 0 then
        some (0, s36)
      else
        p_gd (p_is s36 (p_R s36 v0 10) 100) <|
        p_gd ((0 : Int) ≤ v4 ∧ v4 < (p_L s36 (p_R s36 v0 10) : Int)) <|
        p_bi (p_wZ s36 (p_R s36 v0 10) (v4 : Int).toNat r32) fun s44 =>
        some (0, s44)
    else
      p_gd (w0 = 0 ∨ w0 = 1) <|
      some (w0, s28)
  else if (p_Z s0 (p_R s0 v0 5) (v4 : Int).toNat) = 6 then
    p_bv (F_Mo_body v0 22 s0) fun s48 =>
    p_bd (F_Mo_wants v0 v4 v3 s48) fun r56 s52 =>
    p_gd (p_is s52 (p_R s52 v0 10) 100) <|
    p_gd ((0 : Int) ≤ v4 ∧ v4 < (p_L s52 (p_R s52 v0 10) : Int)) <|
    if (p_Z s52 (p_R s52 v0 10) (v4 : Int).toNat) ≠ r56 then
      p_bd (F_Mo_loadOf v0 v4 s52) fun r64 s60 =>
      if r64 ≠ 0 then
        some (0, s60)
      else
        p_gd (p_is s60 (p_R s60 v0 10) 100) <|
        p_gd ((0 : Int) ≤ v4 ∧ v4 < (p_L s60 (p_R s60 v0 10) : Int)) <|
        p_bi (p_wZ s60 (p_R s60 v0 10) (v4 : Int).toNat r56) fun s68 =>
        some (0, s68)
    else
      p_gd (w0 = 0 ∨ w0 = 1) <|
      some (w0, s52)
  else if (p_Z s0 (p_R s0 v0 5) (v4 : Int).toNat) = 7 then
    p_bv (F_Mo_body v0 23 s0) fun s72 =>
    p_gd (p_is s72 (p_R s72 v0 30) 100) <|
    p_gd ((0 : Int) ≤ v3 ∧ v3 < (p_L s72 (p_R s72 v0 30) : Int)) <|
    if (p_Z s72 (p_R s72 v0 30) (v3 : Int).toNat) ≠ v1 then
      some (0, s72)
    else
      if w0 = 0 then
        some (0, s72)
      else
        some (1, s72)
  else if (p_Z s0 (p_R s0 v0 5) (v4 : Int).toNat) = 8 then
    p_bv (F_Mo_body v0 24 s0) fun s81 =>
    p_gd (p_is s81 (p_R s81 v0 30) 100) <|
    p_gd ((0 : Int) ≤ v3 ∧ v3 < (p_L s81 (p_R s81 v0 30) : Int)) <|
    if (p_Z s81 (p_R s81 v0 30) (v3 : Int).toNat) ≠ (-8) then
      some (0, s81)
    else
      if w0 = 0 then
        some (0, s81)
      else
        some (1, s81)
  else 
  p_bv (F_Mo_body v0 20 s0) fun s89 =>
  p_gd (w0 = 0 ∨ w0 = 1) <|
  some (w0, s89)
def F_Mo_takes (v0 : Nat) (v1 : Int) (v2 : Int) (v3 : Int) (s0 : p_Hp) : Option (Int × p_Hp) :=
  p_gd (p_is s0 v0 11) <|
  p_bd (F_Mo_g v0 v1 s0) fun r6 s2 =>
  p_gd (p_is s2 (p_R s2 v0 22) 100) <|
  p_gd ((0 : Int) ≤ (p_w (8 * r6)) ∧ (p_w (8 * r6)) < (p_L s2 (p_R s2 v0 22) : Int)) <|
  if (p_Z s2 (p_R s2 v0 22) ((p_w (8 * r6)) : Int).toNat) ≠ 0 then
    B_Mo_takes_25 v0 v1 v2 v3 r6 0 s2
  else
    B_Mo_takes_25 v0 v1 v2 v3 r6 1 s2
set_option maxRecDepth 100000 in
set_option maxHeartbeats 4000000 in
theorem tB_Mo_takes_25 (K : p_K) (l : Launch)  (v0 : Nat) (v1 : Int) (v2 : Int) (v3 : Int) (v4 : Int) (w0 : Int) (s0 : p_Hp) (r : (Int × p_Hp)) (h : B_Mo_takes_25 v0 v1 v2 v3 v4 w0 s0 = some r) : p_Go K l m_Mo_takes 25 [(0, p_r v0), (1, p_i v1), (2, p_i v2), (3, p_i v3), (4, p_i v4)] [p_i w0] s0 (some (p_i r.1), r.2) := by
  unfold B_Mo_takes_25 at h
  refine g_istore [(5, p_i w0), (0, p_r v0), (1, p_i v1), (2, p_i v2), (3, p_i v3), (4, p_i v4)] (dk_Mo_takes 14 rfl) (by decide) rfl ?_
  refine g_aload_n (i := 0) (j := 1) (dk_Mo_takes 15 rfl) rfl rfl ?_
  obtain ⟨c1, h⟩ := p_gdE h
  refine g_getR fl_Mo_16 (Or.inr ⟨_, rfl⟩) (dk_Mo_takes 16 rfl) c1 ?_
  refine g_iload (j := 5) (dk_Mo_takes 17 rfl) rfl ?_
  obtain ⟨c2, h⟩ := p_gdE h
  obtain ⟨c3, h⟩ := p_gdE h
  refine g_iaload (dk_Mo_takes 18 rfl) c2 c3.1 c3.2 ?_
  rcases p_iteE h with ⟨b4, h⟩ | ⟨b4, h⟩
  · refine g_tableIn 76 (dk_Mo_takes 19 rfl) (by omega) (by omega) (by rw [b4]; rfl) (by decide) ?_
    refine g_aload_n (i := 0) (j := 1) (dk_Mo_takes 20 rfl) rfl rfl ?_
    refine g_bipush (dk_Mo_takes 21 rfl) (by decide +kernel) (by decide) ?_
    obtain ⟨s5, q6, h⟩ := p_bvE h
    have t7 := tF_Mo_body K l v0 21 s0 _ q6
    refine g_callV (a := v0) (ci := 11) (q0 := (RX11, TX11, 90)) (As := [p_i 21]) (rest := []) [] mt_Mo_body rfl rfl tw_8_120 ts_84 tw_8_118 ⟨Nat.le_of_ble_eq_true rfl, Nat.le_of_ble_eq_true rfl⟩ rfl (Nat.le_of_ble_eq_true rfl) (dk_Mo_takes 22 rfl) rfl c1 rfl t7 ?_
    have hs8 : p_x s0 s5 := t7.1
    show p_Go K l m_Mo_takes 82 [(5, p_i w0), (0, p_r v0), (1, p_i v1), (2, p_i v2), (3, p_i v3), (4, p_i v4)] [] s5 _
    refine g_aload_n (i := 0) (j := 1) (dk_Mo_takes 23 rfl) rfl rfl ?_
    refine g_getR fl_Mo_201 (Or.inr ⟨_, rfl⟩) (dk_Mo_takes 24 rfl) (c1.up hs8) ?_
    refine g_iload_n (i := 1) (j := 2) (dk_Mo_takes 25 rfl) rfl rfl ?_
    obtain ⟨c9, h⟩ := p_gdE h
    obtain ⟨c10, h⟩ := p_gdE h
    refine g_iaload (dk_Mo_takes 26 rfl) c9 c10.1 c10.2 ?_
    refine g_iload_n (i := 2) (j := 3) (dk_Mo_takes 27 rfl) rfl rfl ?_
    refine g_icmp_eq 94 (dk_Mo_takes 28 rfl) (by decide) (fun b11 => ?_) (fun b11 => ?_)
    · have h := p_ifT b11 h
      refine g_aload_n (i := 0) (j := 1) (dk_Mo_takes 31 rfl) rfl rfl ?_
      refine g_bipush (dk_Mo_takes 32 rfl) (by decide +kernel) (by decide) ?_
      obtain ⟨s12, q13, h⟩ := p_bvE h
      have t14 := tF_Mo_body K l v0 20 s5 _ q13
      refine g_callV (a := v0) (ci := 11) (q0 := (RX11, TX11, 90)) (As := [p_i 20]) (rest := []) [] mt_Mo_body rfl rfl tw_8_120 ts_84 tw_8_118 ⟨Nat.le_of_ble_eq_true rfl, Nat.le_of_ble_eq_true rfl⟩ rfl (Nat.le_of_ble_eq_true rfl) (dk_Mo_takes 33 rfl) rfl (c1.up hs8) rfl t14 ?_
      have hs15 : p_x s5 s12 := t14.1
      show p_Go K l m_Mo_takes 100 [(5, p_i w0), (0, p_r v0), (1, p_i v1), (2, p_i v2), (3, p_i v3), (4, p_i v4)] [] s12 _
      refine g_iload (j := 0) (dk_Mo_takes 34 rfl) rfl ?_
      refine g_if_eq 113 (dk_Mo_takes 35 rfl) (by decide) (fun b16 => ?_) (fun b16 => ?_)
      · have h := p_ifT b16 h
        refine g_iload (j := 0) (dk_Mo_takes 41 rfl) rfl ?_
        obtain ⟨c17, h⟩ := p_gdE h
        cases h
        exact g_ret rfl rfl (dk_Mo_takes 42 rfl) (fun _ => ⟨_, rfl, c17⟩)
      · have h := p_ifF b16 h
        refine g_aload_n (i := 0) (j := 1) (dk_Mo_takes 36 rfl) rfl rfl ?_
        refine g_getR fl_Mo_38 (Or.inr ⟨_, rfl⟩) (dk_Mo_takes 37 rfl) (c1.up (hs8.trans hs15)) ?_
        refine g_iload (j := 5) (dk_Mo_takes 38 rfl) rfl ?_
        refine g_iload_n (i := 2) (j := 3) (dk_Mo_takes 39 rfl) rfl rfl ?_
        obtain ⟨c18, h⟩ := p_gdE h
        obtain ⟨c19, h⟩ := p_gdE h
        refine g_iastore (dk_Mo_takes 40 rfl) c18 c19.1 c19.2 ?_
        refine p_ltS (P := fun q => p_Go K l m_Mo_takes 113 [(5, p_i w0), (0, p_r v0), (1, p_i v1), (2, p_i v2), (3, p_i v3), (4, p_i v4)] [] q _) (p_xZ _ _ _ _) ?_ h
        intro s20 hs21 h
        refine g_iload (j := 0) (dk_Mo_takes 41 rfl) rfl ?_
        obtain ⟨c22, h⟩ := p_gdE h
        cases h
        exact g_ret rfl rfl (dk_Mo_takes 42 rfl) (fun _ => ⟨_, rfl, c22⟩)
    · have h := p_ifF b11 h
      refine g_iconst (dk_Mo_takes 29 rfl) (by decide) ?_
      cases h
      exact g_ret rfl rfl (dk_Mo_takes 30 rfl) (fun _ => ⟨_, rfl, Or.inl rfl⟩)
  rcases p_iteE h with ⟨b23, h⟩ | ⟨b23, h⟩
  · refine g_tableIn 116 (dk_Mo_takes 19 rfl) (by omega) (by omega) (by rw [b23]; rfl) (by decide) ?_
    refine g_aload_n (i := 0) (j := 1) (dk_Mo_takes 43 rfl) rfl rfl ?_
    refine g_bipush (dk_Mo_takes 44 rfl) (by decide +kernel) (by decide) ?_
    obtain ⟨s24, q25, h⟩ := p_bvE h
    have t26 := tF_Mo_body K l v0 22 s0 _ q25
    refine g_callV (a := v0) (ci := 11) (q0 := (RX11, TX11, 90)) (As := [p_i 22]) (rest := []) [] mt_Mo_body rfl rfl tw_8_120 ts_84 tw_8_118 ⟨Nat.le_of_ble_eq_true rfl, Nat.le_of_ble_eq_true rfl⟩ rfl (Nat.le_of_ble_eq_true rfl) (dk_Mo_takes 45 rfl) rfl c1 rfl t26 ?_
    have hs27 : p_x s0 s24 := t26.1
    show p_Go K l m_Mo_takes 122 [(5, p_i w0), (0, p_r v0), (1, p_i v1), (2, p_i v2), (3, p_i v3), (4, p_i v4)] [] s24 _
    refine g_aload_n (i := 0) (j := 1) (dk_Mo_takes 46 rfl) rfl rfl ?_
    refine g_iload (j := 5) (dk_Mo_takes 47 rfl) rfl ?_
    refine g_iload_n (i := 3) (j := 4) (dk_Mo_takes 48 rfl) rfl rfl ?_
    obtain ⟨r32, s28, q29, h⟩ := p_bdE h
    have t30 := tF_Mo_wants K l v0 v4 v3 s24 _ q29
    refine g_callV (a := v0) (ci := 11) (q0 := (RX11, TX11, 90)) (As := [p_i v4, p_i v3]) (rest := []) [p_i r32] mt_Mo_wants rfl rfl tw_8_176 ts_98 tw_8_174 ⟨Nat.le_of_ble_eq_true rfl, Nat.le_of_ble_eq_true rfl⟩ rfl (Nat.le_of_ble_eq_true rfl) (dk_Mo_takes 49 rfl) rfl (c1.up hs27) rfl t30 ?_
    have hs31 : p_x s24 s28 := t30.1
    show p_Go K l m_Mo_takes 129 [(5, p_i w0), (0, p_r v0), (1, p_i v1), (2, p_i v2), (3, p_i v3), (4, p_i v4)] [p_i r32] s28 _
    refine g_istore [(6, p_i r32), (5, p_i w0), (0, p_r v0), (1, p_i v1), (2, p_i v2), (3, p_i v3), (4, p_i v4)] (dk_Mo_takes 50 rfl) (by decide) rfl ?_
    refine g_aload_n (i := 0) (j := 2) (dk_Mo_takes 51 rfl) rfl rfl ?_
    refine g_getR fl_Mo_31 (Or.inr ⟨_, rfl⟩) (dk_Mo_takes 52 rfl) (c1.up (hs27.trans hs31)) ?_
    refine g_iload (j := 6) (dk_Mo_takes 53 rfl) rfl ?_
    obtain ⟨c33, h⟩ := p_gdE h
    obtain ⟨c34, h⟩ := p_gdE h
    refine g_iaload (dk_Mo_takes 54 rfl) c33 c34.1 c34.2 ?_
    refine g_iload (j := 0) (dk_Mo_takes 55 rfl) rfl ?_
    refine g_icmp_ne 146 (dk_Mo_takes 56 rfl) (by decide) (fun b35 => ?_) (fun b35 => ?_)
    · have h := p_ifT b35 h
      refine g_aload_n (i := 0) (j := 2) (dk_Mo_takes 59 rfl) rfl rfl ?_
      refine g_iload (j := 6) (dk_Mo_takes 60 rfl) rfl ?_
      obtain ⟨r40, s36, q37, h⟩ := p_bdE h
      have t38 := tF_Mo_loadOf K l v0 v4 s28 _ q37
      refine g_callV (a := v0) (ci := 11) (q0 := (RX11, TX11, 90)) (As := [p_i v4]) (rest := []) [p_i r40] mt_Mo_loadOf rfl rfl tw_7_136 ts_50 tw_7_134 ⟨Nat.le_of_ble_eq_true rfl, Nat.le_of_ble_eq_true rfl⟩ rfl (Nat.le_of_ble_eq_true rfl) (dk_Mo_takes 61 rfl) rfl (c1.up (hs27.trans hs31)) rfl t38 ?_
      have hs39 : p_x s28 s36 := t38.1
      show p_Go K l m_Mo_takes 152 [(6, p_i r32), (5, p_i w0), (0, p_r v0), (1, p_i v1), (2, p_i v2), (3, p_i v3), (4, p_i v4)] [p_i r40] s36 _
      refine g_if_ne 164 (dk_Mo_takes 62 rfl) (by decide) (fun b41 => ?_) (fun b41 => ?_)
      · have h := p_ifT b41 h
        refine g_iconst (dk_Mo_takes 68 rfl) (by decide) ?_
        cases h
        exact g_ret rfl rfl (dk_Mo_takes 69 rfl) (fun _ => ⟨_, rfl, Or.inl rfl⟩)
      · have h := p_ifF b41 h
        refine g_aload_n (i := 0) (j := 2) (dk_Mo_takes 63 rfl) rfl rfl ?_
        refine g_getR fl_Mo_31 (Or.inr ⟨_, rfl⟩) (dk_Mo_takes 64 rfl) (c1.up (hs27.trans (hs31.trans hs39))) ?_
        refine g_iload (j := 6) (dk_Mo_takes 65 rfl) rfl ?_
        refine g_iload (j := 0) (dk_Mo_takes 66 rfl) rfl ?_
        obtain ⟨c42, h⟩ := p_gdE h
        obtain ⟨c43, h⟩ := p_gdE h
        refine g_iastore (dk_Mo_takes 67 rfl) c42 c43.1 c43.2 ?_
        refine p_ltS (P := fun q => p_Go K l m_Mo_takes 164 [(6, p_i r32), (5, p_i w0), (0, p_r v0), (1, p_i v1), (2, p_i v2), (3, p_i v3), (4, p_i v4)] [] q _) (p_xZ _ _ _ _) ?_ h
        intro s44 hs45 h
        refine g_iconst (dk_Mo_takes 68 rfl) (by decide) ?_
        cases h
        exact g_ret rfl rfl (dk_Mo_takes 69 rfl) (fun _ => ⟨_, rfl, Or.inl rfl⟩)
    · have h := p_ifF b35 h
      refine g_iload (j := 1) (dk_Mo_takes 57 rfl) rfl ?_
      obtain ⟨c46, h⟩ := p_gdE h
      cases h
      exact g_ret rfl rfl (dk_Mo_takes 58 rfl) (fun _ => ⟨_, rfl, c46⟩)
  rcases p_iteE h with ⟨b47, h⟩ | ⟨b47, h⟩
  · refine g_tableIn 116 (dk_Mo_takes 19 rfl) (by omega) (by omega) (by rw [b47]; rfl) (by decide) ?_
    refine g_aload_n (i := 0) (j := 1) (dk_Mo_takes 43 rfl) rfl rfl ?_
    refine g_bipush (dk_Mo_takes 44 rfl) (by decide +kernel) (by decide) ?_
    obtain ⟨s48, q49, h⟩ := p_bvE h
    have t50 := tF_Mo_body K l v0 22 s0 _ q49
    refine g_callV (a := v0) (ci := 11) (q0 := (RX11, TX11, 90)) (As := [p_i 22]) (rest := []) [] mt_Mo_body rfl rfl tw_8_120 ts_84 tw_8_118 ⟨Nat.le_of_ble_eq_true rfl, Nat.le_of_ble_eq_true rfl⟩ rfl (Nat.le_of_ble_eq_true rfl) (dk_Mo_takes 45 rfl) rfl c1 rfl t50 ?_
    have hs51 : p_x s0 s48 := t50.1
    show p_Go K l m_Mo_takes 122 [(5, p_i w0), (0, p_r v0), (1, p_i v1), (2, p_i v2), (3, p_i v3), (4, p_i v4)] [] s48 _
    refine g_aload_n (i := 0) (j := 1) (dk_Mo_takes 46 rfl) rfl rfl ?_
    refine g_iload (j := 5) (dk_Mo_takes 47 rfl) rfl ?_
    refine g_iload_n (i := 3) (j := 4) (dk_Mo_takes 48 rfl) rfl rfl ?_
    obtain ⟨r56, s52, q53, h⟩ := p_bdE h
    have t54 := tF_Mo_wants K l v0 v4 v3 s48 _ q53
    refine g_callV (a := v0) (ci := 11) (q0 := (RX11, TX11, 90)) (As := [p_i v4, p_i v3]) (rest := []) [p_i r56] mt_Mo_wants rfl rfl tw_8_176 ts_98 tw_8_174 ⟨Nat.le_of_ble_eq_true rfl, Nat.le_of_ble_eq_true rfl⟩ rfl (Nat.le_of_ble_eq_true rfl) (dk_Mo_takes 49 rfl) rfl (c1.up hs51) rfl t54 ?_
    have hs55 : p_x s48 s52 := t54.1
    show p_Go K l m_Mo_takes 129 [(5, p_i w0), (0, p_r v0), (1, p_i v1), (2, p_i v2), (3, p_i v3), (4, p_i v4)] [p_i r56] s52 _
    refine g_istore [(6, p_i r56), (5, p_i w0), (0, p_r v0), (1, p_i v1), (2, p_i v2), (3, p_i v3), (4, p_i v4)] (dk_Mo_takes 50 rfl) (by decide) rfl ?_
    refine g_aload_n (i := 0) (j := 2) (dk_Mo_takes 51 rfl) rfl rfl ?_
    refine g_getR fl_Mo_31 (Or.inr ⟨_, rfl⟩) (dk_Mo_takes 52 rfl) (c1.up (hs51.trans hs55)) ?_
    refine g_iload (j := 6) (dk_Mo_takes 53 rfl) rfl ?_
    obtain ⟨c57, h⟩ := p_gdE h
    obtain ⟨c58, h⟩ := p_gdE h
    refine g_iaload (dk_Mo_takes 54 rfl) c57 c58.1 c58.2 ?_
    refine g_iload (j := 0) (dk_Mo_takes 55 rfl) rfl ?_
    refine g_icmp_ne 146 (dk_Mo_takes 56 rfl) (by decide) (fun b59 => ?_) (fun b59 => ?_)
    · have h := p_ifT b59 h
      refine g_aload_n (i := 0) (j := 2) (dk_Mo_takes 59 rfl) rfl rfl ?_
      refine g_iload (j := 6) (dk_Mo_takes 60 rfl) rfl ?_
      obtain ⟨r64, s60, q61, h⟩ := p_bdE h
      have t62 := tF_Mo_loadOf K l v0 v4 s52 _ q61
      refine g_callV (a := v0) (ci := 11) (q0 := (RX11, TX11, 90)) (As := [p_i v4]) (rest := []) [p_i r64] mt_Mo_loadOf rfl rfl tw_7_136 ts_50 tw_7_134 ⟨Nat.le_of_ble_eq_true rfl, Nat.le_of_ble_eq_true rfl⟩ rfl (Nat.le_of_ble_eq_true rfl) (dk_Mo_takes 61 rfl) rfl (c1.up (hs51.trans hs55)) rfl t62 ?_
      have hs63 : p_x s52 s60 := t62.1
      show p_Go K l m_Mo_takes 152 [(6, p_i r56), (5, p_i w0), (0, p_r v0), (1, p_i v1), (2, p_i v2), (3, p_i v3), (4, p_i v4)] [p_i r64] s60 _
      refine g_if_ne 164 (dk_Mo_takes 62 rfl) (by decide) (fun b65 => ?_) (fun b65 => ?_)
      · have h := p_ifT b65 h
        refine g_iconst (dk_Mo_takes 68 rfl) (by decide) ?_
        cases h
        exact g_ret rfl rfl (dk_Mo_takes 69 rfl) (fun _ => ⟨_, rfl, Or.inl rfl⟩)
      · have h := p_ifF b65 h
        refine g_aload_n (i := 0) (j := 2) (dk_Mo_takes 63 rfl) rfl rfl ?_
        refine g_getR fl_Mo_31 (Or.inr ⟨_, rfl⟩) (dk_Mo_takes 64 rfl) (c1.up (hs51.trans (hs55.trans hs63))) ?_
        refine g_iload (j := 6) (dk_Mo_takes 65 rfl) rfl ?_
        refine g_iload (j := 0) (dk_Mo_takes 66 rfl) rfl ?_
        obtain ⟨c66, h⟩ := p_gdE h
        obtain ⟨c67, h⟩ := p_gdE h
        refine g_iastore (dk_Mo_takes 67 rfl) c66 c67.1 c67.2 ?_
        refine p_ltS (P := fun q => p_Go K l m_Mo_takes 164 [(6, p_i r56), (5, p_i w0), (0, p_r v0), (1, p_i v1), (2, p_i v2), (3, p_i v3), (4, p_i v4)] [] q _) (p_xZ _ _ _ _) ?_ h
        intro s68 hs69 h
        refine g_iconst (dk_Mo_takes 68 rfl) (by decide) ?_
        cases h
        exact g_ret rfl rfl (dk_Mo_takes 69 rfl) (fun _ => ⟨_, rfl, Or.inl rfl⟩)
    · have h := p_ifF b59 h
      refine g_iload (j := 1) (dk_Mo_takes 57 rfl) rfl ?_
      obtain ⟨c70, h⟩ := p_gdE h
      cases h
      exact g_ret rfl rfl (dk_Mo_takes 58 rfl) (fun _ => ⟨_, rfl, c70⟩)
  rcases p_iteE h with ⟨b71, h⟩ | ⟨b71, h⟩
  · refine g_tableIn 166 (dk_Mo_takes 19 rfl) (by omega) (by omega) (by rw [b71]; rfl) (by decide) ?_
    refine g_aload_n (i := 0) (j := 1) (dk_Mo_takes 70 rfl) rfl rfl ?_
    refine g_bipush (dk_Mo_takes 71 rfl) (by decide +kernel) (by decide) ?_
    obtain ⟨s72, q73, h⟩ := p_bvE h
    have t74 := tF_Mo_body K l v0 23 s0 _ q73
    refine g_callV (a := v0) (ci := 11) (q0 := (RX11, TX11, 90)) (As := [p_i 23]) (rest := []) [] mt_Mo_body rfl rfl tw_8_120 ts_84 tw_8_118 ⟨Nat.le_of_ble_eq_true rfl, Nat.le_of_ble_eq_true rfl⟩ rfl (Nat.le_of_ble_eq_true rfl) (dk_Mo_takes 72 rfl) rfl c1 rfl t74 ?_
    have hs75 : p_x s0 s72 := t74.1
    show p_Go K l m_Mo_takes 172 [(5, p_i w0), (0, p_r v0), (1, p_i v1), (2, p_i v2), (3, p_i v3), (4, p_i v4)] [] s72 _
    refine g_aload_n (i := 0) (j := 1) (dk_Mo_takes 73 rfl) rfl rfl ?_
    refine g_getR fl_Mo_90 (Or.inr ⟨_, rfl⟩) (dk_Mo_takes 74 rfl) (c1.up hs75) ?_
    refine g_iload_n (i := 3) (j := 4) (dk_Mo_takes 75 rfl) rfl rfl ?_
    obtain ⟨c76, h⟩ := p_gdE h
    obtain ⟨c77, h⟩ := p_gdE h
    refine g_iaload (dk_Mo_takes 76 rfl) c76 c77.1 c77.2 ?_
    refine g_iload_n (i := 1) (j := 2) (dk_Mo_takes 77 rfl) rfl rfl ?_
    refine g_icmp_ne 191 (dk_Mo_takes 78 rfl) (by decide) (fun b78 => ?_) (fun b78 => ?_)
    · have h := p_ifT b78 h
      refine g_iconst (dk_Mo_takes 83 rfl) (by decide) ?_
      cases h
      exact g_ret rfl rfl (dk_Mo_takes 84 rfl) (fun _ => ⟨_, rfl, Or.inl rfl⟩)
    · have h := p_ifF b78 h
      refine g_iload (j := 0) (dk_Mo_takes 79 rfl) rfl ?_
      refine g_if_eq 191 (dk_Mo_takes 80 rfl) (by decide) (fun b79 => ?_) (fun b79 => ?_)
      · have h := p_ifT b79 h
        refine g_iconst (dk_Mo_takes 83 rfl) (by decide) ?_
        cases h
        exact g_ret rfl rfl (dk_Mo_takes 84 rfl) (fun _ => ⟨_, rfl, Or.inl rfl⟩)
      · have h := p_ifF b79 h
        refine g_iconst (dk_Mo_takes 81 rfl) (by decide) ?_
        refine g_goto 192 (dk_Mo_takes 82 rfl) (by decide) ?_
        cases h
        exact g_ret rfl rfl (dk_Mo_takes 84 rfl) (fun _ => ⟨_, rfl, Or.inr rfl⟩)
  rcases p_iteE h with ⟨b80, h⟩ | ⟨b80, h⟩
  · refine g_tableIn 193 (dk_Mo_takes 19 rfl) (by omega) (by omega) (by rw [b80]; rfl) (by decide) ?_
    refine g_aload_n (i := 0) (j := 1) (dk_Mo_takes 85 rfl) rfl rfl ?_
    refine g_bipush (dk_Mo_takes 86 rfl) (by decide +kernel) (by decide) ?_
    obtain ⟨s81, q82, h⟩ := p_bvE h
    have t83 := tF_Mo_body K l v0 24 s0 _ q82
    refine g_callV (a := v0) (ci := 11) (q0 := (RX11, TX11, 90)) (As := [p_i 24]) (rest := []) [] mt_Mo_body rfl rfl tw_8_120 ts_84 tw_8_118 ⟨Nat.le_of_ble_eq_true rfl, Nat.le_of_ble_eq_true rfl⟩ rfl (Nat.le_of_ble_eq_true rfl) (dk_Mo_takes 87 rfl) rfl c1 rfl t83 ?_
    have hs84 : p_x s0 s81 := t83.1
    show p_Go K l m_Mo_takes 199 [(5, p_i w0), (0, p_r v0), (1, p_i v1), (2, p_i v2), (3, p_i v3), (4, p_i v4)] [] s81 _
    refine g_aload_n (i := 0) (j := 1) (dk_Mo_takes 88 rfl) rfl rfl ?_
    refine g_getR fl_Mo_90 (Or.inr ⟨_, rfl⟩) (dk_Mo_takes 89 rfl) (c1.up hs84) ?_
    refine g_iload_n (i := 3) (j := 4) (dk_Mo_takes 90 rfl) rfl rfl ?_
    obtain ⟨c85, h⟩ := p_gdE h
    obtain ⟨c86, h⟩ := p_gdE h
    refine g_iaload (dk_Mo_takes 91 rfl) c85 c86.1 c86.2 ?_
    refine g_bipush (dk_Mo_takes 92 rfl) (by decide +kernel) (by decide) ?_
    refine g_icmp_ne 219 (dk_Mo_takes 93 rfl) (by decide) (fun b87 => ?_) (fun b87 => ?_)
    · have h := p_ifT b87 h
      refine g_iconst (dk_Mo_takes 98 rfl) (by decide) ?_
      cases h
      exact g_ret rfl rfl (dk_Mo_takes 99 rfl) (fun _ => ⟨_, rfl, Or.inl rfl⟩)
    · have h := p_ifF b87 h
      refine g_iload (j := 0) (dk_Mo_takes 94 rfl) rfl ?_
      refine g_if_eq 219 (dk_Mo_takes 95 rfl) (by decide) (fun b88 => ?_) (fun b88 => ?_)
      · have h := p_ifT b88 h
        refine g_iconst (dk_Mo_takes 98 rfl) (by decide) ?_
        cases h
        exact g_ret rfl rfl (dk_Mo_takes 99 rfl) (fun _ => ⟨_, rfl, Or.inl rfl⟩)
      · have h := p_ifF b88 h
        refine g_iconst (dk_Mo_takes 96 rfl) (by decide) ?_
        refine g_goto 220 (dk_Mo_takes 97 rfl) (by decide) ?_
        cases h
        exact g_ret rfl rfl (dk_Mo_takes 99 rfl) (fun _ => ⟨_, rfl, Or.inr rfl⟩)
  by_cases b94 : (p_Z s0 (p_R s0 v0 5) (v4 : Int).toNat) = 3
  · refine g_tableIn 221 (dk_Mo_takes 19 rfl) (by omega) (by omega) (by rw [b94]; rfl) (by decide) ?_
    refine g_aload_n (i := 0) (j := 1) (dk_Mo_takes 100 rfl) rfl rfl ?_
    refine g_bipush (dk_Mo_takes 101 rfl) (by decide +kernel) (by decide) ?_
    obtain ⟨s89, q90, h⟩ := p_bvE h
    have t91 := tF_Mo_body K l v0 20 s0 _ q90
    refine g_callV (a := v0) (ci := 11) (q0 := (RX11, TX11, 90)) (As := [p_i 20]) (rest := []) [] mt_Mo_body rfl rfl tw_8_120 ts_84 tw_8_118 ⟨Nat.le_of_ble_eq_true rfl, Nat.le_of_ble_eq_true rfl⟩ rfl (Nat.le_of_ble_eq_true rfl) (dk_Mo_takes 102 rfl) rfl c1 rfl t91 ?_
    have hs92 : p_x s0 s89 := t91.1
    show p_Go K l m_Mo_takes 227 [(5, p_i w0), (0, p_r v0), (1, p_i v1), (2, p_i v2), (3, p_i v3), (4, p_i v4)] [] s89 _
    refine g_iload (j := 0) (dk_Mo_takes 103 rfl) rfl ?_
    obtain ⟨c93, h⟩ := p_gdE h
    cases h
    exact g_ret rfl rfl (dk_Mo_takes 104 rfl) (fun _ => ⟨_, rfl, c93⟩)
  by_cases b95 : (p_Z s0 (p_R s0 v0 5) (v4 : Int).toNat) = 4
  · refine g_tableIn 221 (dk_Mo_takes 19 rfl) (by omega) (by omega) (by rw [b95]; rfl) (by decide) ?_
    refine g_aload_n (i := 0) (j := 1) (dk_Mo_takes 100 rfl) rfl rfl ?_
    refine g_bipush (dk_Mo_takes 101 rfl) (by decide +kernel) (by decide) ?_
    obtain ⟨s89, q90, h⟩ := p_bvE h
    have t91 := tF_Mo_body K l v0 20 s0 _ q90
    refine g_callV (a := v0) (ci := 11) (q0 := (RX11, TX11, 90)) (As := [p_i 20]) (rest := []) [] mt_Mo_body rfl rfl tw_8_120 ts_84 tw_8_118 ⟨Nat.le_of_ble_eq_true rfl, Nat.le_of_ble_eq_true rfl⟩ rfl (Nat.le_of_ble_eq_true rfl) (dk_Mo_takes 102 rfl) rfl c1 rfl t91 ?_
    have hs92 : p_x s0 s89 := t91.1
    show p_Go K l m_Mo_takes 227 [(5, p_i w0), (0, p_r v0), (1, p_i v1), (2, p_i v2), (3, p_i v3), (4, p_i v4)] [] s89 _
    refine g_iload (j := 0) (dk_Mo_takes 103 rfl) rfl ?_
    obtain ⟨c93, h⟩ := p_gdE h
    cases h
    exact g_ret rfl rfl (dk_Mo_takes 104 rfl) (fun _ => ⟨_, rfl, c93⟩)
  refine g_tableOut 221 (dk_Mo_takes 19 rfl) (by omega) (by decide) ?_
  refine g_aload_n (i := 0) (j := 1) (dk_Mo_takes 100 rfl) rfl rfl ?_
  refine g_bipush (dk_Mo_takes 101 rfl) (by decide +kernel) (by decide) ?_
  obtain ⟨s89, q90, h⟩ := p_bvE h
  have t91 := tF_Mo_body K l v0 20 s0 _ q90
  refine g_callV (a := v0) (ci := 11) (q0 := (RX11, TX11, 90)) (As := [p_i 20]) (rest := []) [] mt_Mo_body rfl rfl tw_8_120 ts_84 tw_8_118 ⟨Nat.le_of_ble_eq_true rfl, Nat.le_of_ble_eq_true rfl⟩ rfl (Nat.le_of_ble_eq_true rfl) (dk_Mo_takes 102 rfl) rfl c1 rfl t91 ?_
  have hs92 : p_x s0 s89 := t91.1
  show p_Go K l m_Mo_takes 227 [(5, p_i w0), (0, p_r v0), (1, p_i v1), (2, p_i v2), (3, p_i v3), (4, p_i v4)] [] s89 _
  refine g_iload (j := 0) (dk_Mo_takes 103 rfl) rfl ?_
  obtain ⟨c93, h⟩ := p_gdE h
  cases h
  exact g_ret rfl rfl (dk_Mo_takes 104 rfl) (fun _ => ⟨_, rfl, c93⟩)
set_option maxRecDepth 100000 in
set_option maxHeartbeats 4000000 in
theorem tF_Mo_takes (K : p_K) (l : Launch) (v0 : Nat) (v1 : Int) (v2 : Int) (v3 : Int) (s0 : p_Hp) (r : (Int × p_Hp)) (h : F_Mo_takes v0 v1 v2 v3 s0 = some r) : p_Ct K l m_Mo_takes [p_r v0, p_i v1, p_i v2, p_i v3] s0 (some (p_i r.1), r.2) := by
  refine p_Ct.of (by decide +kernel) (Nat.le_of_ble_eq_true rfl) ?_
  unfold F_Mo_takes at h
  show p_Go K l m_Mo_takes 0 [(0, p_r v0), (1, p_i v1), (2, p_i v2), (3, p_i v3)] [] s0 _
  refine g_aload_n (i := 0) (j := 0) (dk_Mo_takes 0 rfl) rfl rfl ?_
  refine g_iload_n (i := 1) (j := 1) (dk_Mo_takes 1 rfl) rfl rfl ?_
  obtain ⟨c1, h⟩ := p_gdE h
  obtain ⟨r6, s2, q3, h⟩ := p_bdE h
  have t4 := tF_Mo_g K l v0 v1 s0 _ q3
  refine g_callV (a := v0) (ci := 11) (q0 := (RX11, TX11, 90)) (As := [p_i v1]) (rest := []) [p_i r6] mt_Mo_g rfl rfl tw_7_84 ts_45 tw_7_82 ⟨Nat.le_of_ble_eq_true rfl, Nat.le_of_ble_eq_true rfl⟩ rfl (Nat.le_of_ble_eq_true rfl) (dk_Mo_takes 2 rfl) rfl c1 rfl t4 ?_
  have hs5 : p_x s0 s2 := t4.1
  show p_Go K l m_Mo_takes 5 [(0, p_r v0), (1, p_i v1), (2, p_i v2), (3, p_i v3)] [p_i r6] s2 _
  refine g_istore [(4, p_i r6), (0, p_r v0), (1, p_i v1), (2, p_i v2), (3, p_i v3)] (dk_Mo_takes 3 rfl) (by decide) rfl ?_
  refine g_aload_n (i := 0) (j := 1) (dk_Mo_takes 4 rfl) rfl rfl ?_
  refine g_getR fl_Mo_69 (Or.inr ⟨_, rfl⟩) (dk_Mo_takes 5 rfl) (c1.up hs5) ?_
  refine g_bipush (dk_Mo_takes 6 rfl) (by decide +kernel) (by decide) ?_
  refine g_iload (j := 0) (dk_Mo_takes 7 rfl) rfl ?_
  refine g_imul (dk_Mo_takes 8 rfl) ?_
  obtain ⟨c7, h⟩ := p_gdE h
  obtain ⟨c8, h⟩ := p_gdE h
  refine g_iaload (dk_Mo_takes 9 rfl) c7 c8.1 c8.2 ?_
  refine g_if_ne 24 (dk_Mo_takes 10 rfl) (by decide) (fun b9 => ?_) (fun b9 => ?_)
  · have h := p_ifT b9 h
    refine g_iconst (dk_Mo_takes 13 rfl) (by decide) ?_
    refine g_sub [(0, p_r v0), (1, p_i v1), (2, p_i v2), (3, p_i v3), (4, p_i r6)] [1, 2, 3, 4, 0] rfl ?_
    exact tB_Mo_takes_25 K l v0 v1 v2 v3 r6 0 s2 _ h
  · have h := p_ifF b9 h
    refine g_iconst (dk_Mo_takes 11 rfl) (by decide) ?_
    refine g_goto 25 (dk_Mo_takes 12 rfl) (by decide) ?_
    refine g_sub [(0, p_r v0), (1, p_i v1), (2, p_i v2), (3, p_i v3), (4, p_i r6)] [1, 2, 3, 4, 0] rfl ?_
    exact tB_Mo_takes_25 K l v0 v1 v2 v3 r6 1 s2 _ h
def m_Mo_gives : p_Me := (⟨"SortWorksModel", "gives", "(II)Z"⟩, prog_13_method_77_code, 5, (some .boolean), 3, 70)
theorem mt_Mo_gives : p_Mt m_Mo_gives 2 := ⟨p_mem (p_tb8 (List.mem_of_getElem? (i := 169) rfl)) rfl, tw_1_12, by decide +kernel, by decide +kernel, by decide +kernel⟩
def dt_Mo_gives : List (Nat × Instr × Nat) := [(0, .aload_n 0, 1), (1, .iload_n 1, 1), (2, .aload_n 0, 1), (3, .iload_n 1, 1), (4, .invokevirtual 407, 3), (7, .invokevirtual 388, 3), (10, .istore_n 3, 1), (11, .aload_n 0, 1), (12, .getfield 385, 3), (15, .istore 4, 2), (17, .iload_n 3, 1), (18, .ifCond .ne 22, 3), (21, .aload_n 0, 1), (22, .getfield 16, 3), (25, .aload_n 0, 1), (26, .iload 4, 2), (28, .invokevirtual 257, 3), (31, .iaload, 1), (32, .invokestatic 252, 3), (35, .ifCond .ne 5, 3), (38, .iconst 2, 1), (39, .istore_n 3, 1), (40, .iload_n 3, 1), (41, .ifCond .le 12, 3), (44, .aload_n 0, 1), (45, .iconst 1, 1), (46, .iload_n 3, 1), (47, .iload_n 2, 1), (48, .invokevirtual 395, 3), (51, .iconst 0, 1), (52, .ireturn, 1), (53, .aload_n 0, 1), (54, .iload 4, 2), (56, .iload_n 1, 1), (57, .iload_n 2, 1), (58, .invokevirtual 450, 3), (61, .ifCond .ne 5, 3), (64, .iconst 0, 1), (65, .ireturn, 1), (66, .aload_n 0, 1), (67, .iload_n 2, 1), (68, .invokevirtual 369, 3), (71, .aload_n 0, 1), (72, .iload_n 2, 1), (73, .iload 4, 2), (75, .invokevirtual 337, 3), (78, .aload_n 0, 1), (79, .getfield 108, 3), (82, .iload_n 2, 1), (83, .iconst 1, 1), (84, .bastore, 1), (85, .iconst 1, 1), (86, .ireturn, 1)]
theorem dk_Mo_gives (i : Nat) {pc : Nat} {ins : Instr} {len : Nat} (h : dt_Mo_gives[i]? = some (pc, ins, len)) : decode m_Mo_gives.2.1 pc = .ok (ins, len) := p_dk (b := m_Mo_gives.2.1) (t := dt_Mo_gives) (by decide +kernel) i h
def B_Mo_gives_40  (v0 : Nat) (v1 : Int) (v2 : Int) (v3 : Int) (v4 : Int) (s0 : p_Hp) : Option (Int × p_Hp) :=
  if v3 ≤ 0 then
    p_gd (p_is s0 v0 11) <|
    p_bd (F_Mo_takes v0 v4 v1 v2 s0) fun r7 s3 =>
    if r7 ≠ 0 then
      p_bv (F_Mo_leaves v0 v2 s3) fun s9 =>
      p_bv (F_Mo_enters v0 v2 v4 s9) fun s13 =>
      p_gd (p_is s13 (p_R s13 v0 36) 102) <|
      p_gd ((0 : Int) ≤ v2 ∧ v2 < (p_L s13 (p_R s13 v0 36) : Int)) <|
      p_bi (p_wZ s13 (p_R s13 v0 36) (v2 : Int).toNat 1) fun s19 =>
      some (1, s19)
    else
      some (0, s3)
  else
    p_gd (p_is s0 v0 11) <|
    p_bv (F_Mo_find v0 1 v3 v2 s0) fun s22 =>
    some (0, s22)
def F_Mo_gives (v0 : Nat) (v1 : Int) (v2 : Int) (s0 : p_Hp) : Option (Int × p_Hp) :=
  p_gd (p_is s0 v0 11) <|
  p_bd (F_Mo_linkAt v0 v1 s0) fun r6 s2 =>
  p_bd (F_Mo_follow v0 v1 r6 s2) fun r11 s7 =>
  p_bi ((p_Z s7 v0 73)) fun x12 =>
  if r11 ≠ 0 then
    B_Mo_gives_40 v0 v1 v2 r11 x12 s7
  else
    p_bd (F_Mo_g v0 x12 s7) fun r18 s14 =>
    p_gd (p_is s14 (p_R s7 v0 5) 100) <|
    p_gd ((0 : Int) ≤ r18 ∧ r18 < (p_L s14 (p_R s7 v0 5) : Int)) <|
    p_bd (F_Mo_isTaker (p_Z s14 (p_R s7 v0 5) (r18 : Int).toNat) s14) fun r25 s21 =>
    if r25 ≠ 0 then
      B_Mo_gives_40 v0 v1 v2 r11 x12 s21
    else
      B_Mo_gives_40 v0 v1 v2 2 x12 s21
set_option maxRecDepth 100000 in
set_option maxHeartbeats 4000000 in
theorem tB_Mo_gives_40 (K : p_K) (l : Launch)  (v0 : Nat) (v1 : Int) (v2 : Int) (v3 : Int) (v4 : Int) (s0 : p_Hp) (r : (Int × p_Hp)) (h : B_Mo_gives_40 v0 v1 v2 v3 v4 s0 = some r) : p_Go K l m_Mo_gives 40 [(0, p_r v0), (1, p_i v1), (2, p_i v2), (3, p_i v3), (4, p_i v4)] [] s0 (some (p_i r.1), r.2) := by
  unfold B_Mo_gives_40 at h
  refine g_iload_n (i := 3) (j := 3) (dk_Mo_gives 22 rfl) rfl rfl ?_
  refine g_if_le 53 (dk_Mo_gives 23 rfl) (by decide) (fun b1 => ?_) (fun b1 => ?_)
  · have h := p_ifT b1 h
    refine g_aload_n (i := 0) (j := 0) (dk_Mo_gives 31 rfl) rfl rfl ?_
    refine g_iload (j := 4) (dk_Mo_gives 32 rfl) rfl ?_
    refine g_iload_n (i := 1) (j := 1) (dk_Mo_gives 33 rfl) rfl rfl ?_
    refine g_iload_n (i := 2) (j := 2) (dk_Mo_gives 34 rfl) rfl rfl ?_
    obtain ⟨c2, h⟩ := p_gdE h
    obtain ⟨r7, s3, q4, h⟩ := p_bdE h
    have t5 := tF_Mo_takes K l v0 v4 v1 v2 s0 _ q4
    refine g_callV (a := v0) (ci := 11) (q0 := (RX11, TX11, 90)) (As := [p_i v4, p_i v1, p_i v2]) (rest := []) [p_i r7] mt_Mo_takes rfl rfl tw_8_172 ts_97 tw_8_170 ⟨Nat.le_of_ble_eq_true rfl, Nat.le_of_ble_eq_true rfl⟩ rfl (Nat.le_of_ble_eq_true rfl) (dk_Mo_gives 35 rfl) rfl c2 rfl t5 ?_
    have hs6 : p_x s0 s3 := t5.1
    show p_Go K l m_Mo_gives 61 [(0, p_r v0), (1, p_i v1), (2, p_i v2), (3, p_i v3), (4, p_i v4)] [p_i r7] s3 _
    refine g_if_ne 66 (dk_Mo_gives 36 rfl) (by decide) (fun b8 => ?_) (fun b8 => ?_)
    · have h := p_ifT b8 h
      refine g_aload_n (i := 0) (j := 0) (dk_Mo_gives 39 rfl) rfl rfl ?_
      refine g_iload_n (i := 2) (j := 2) (dk_Mo_gives 40 rfl) rfl rfl ?_
      obtain ⟨s9, q10, h⟩ := p_bvE h
      have t11 := tF_Mo_leaves K l v0 v2 s3 _ q10
      refine g_callV (a := v0) (ci := 11) (q0 := (RX11, TX11, 90)) (As := [p_i v2]) (rest := []) [] mt_Mo_leaves rfl rfl tw_8_21 ts_66 tw_8_19 ⟨Nat.le_of_ble_eq_true rfl, Nat.le_of_ble_eq_true rfl⟩ rfl (Nat.le_of_ble_eq_true rfl) (dk_Mo_gives 41 rfl) rfl (c2.up hs6) rfl t11 ?_
      have hs12 : p_x s3 s9 := t11.1
      show p_Go K l m_Mo_gives 71 [(0, p_r v0), (1, p_i v1), (2, p_i v2), (3, p_i v3), (4, p_i v4)] [] s9 _
      refine g_aload_n (i := 0) (j := 0) (dk_Mo_gives 42 rfl) rfl rfl ?_
      refine g_iload_n (i := 2) (j := 2) (dk_Mo_gives 43 rfl) rfl rfl ?_
      refine g_iload (j := 4) (dk_Mo_gives 44 rfl) rfl ?_
      obtain ⟨s13, q14, h⟩ := p_bvE h
      have t15 := tF_Mo_enters K l v0 v2 v4 s9 _ q14
      refine g_callV (a := v0) (ci := 11) (q0 := (RX11, TX11, 90)) (As := [p_i v2, p_i v4]) (rest := []) [] mt_Mo_enters rfl rfl tw_7_211 ts_61 tw_7_209 ⟨Nat.le_of_ble_eq_true rfl, Nat.le_of_ble_eq_true rfl⟩ rfl (Nat.le_of_ble_eq_true rfl) (dk_Mo_gives 45 rfl) rfl (c2.up (hs6.trans hs12)) rfl t15 ?_
      have hs16 : p_x s9 s13 := t15.1
      show p_Go K l m_Mo_gives 78 [(0, p_r v0), (1, p_i v1), (2, p_i v2), (3, p_i v3), (4, p_i v4)] [] s13 _
      refine g_aload_n (i := 0) (j := 0) (dk_Mo_gives 46 rfl) rfl rfl ?_
      refine g_getR fl_Mo_108 (Or.inr ⟨_, rfl⟩) (dk_Mo_gives 47 rfl) (c2.up (hs6.trans (hs12.trans hs16))) ?_
      refine g_iload_n (i := 2) (j := 2) (dk_Mo_gives 48 rfl) rfl rfl ?_
      refine g_iconst (dk_Mo_gives 49 rfl) (by decide) ?_
      obtain ⟨c17, h⟩ := p_gdE h
      obtain ⟨c18, h⟩ := p_gdE h
      refine g_bastore (dk_Mo_gives 50 rfl) c17 c18.1 c18.2 (Or.inr rfl) ?_
      refine p_ltS (P := fun q => p_Go K l m_Mo_gives 85 [(0, p_r v0), (1, p_i v1), (2, p_i v2), (3, p_i v3), (4, p_i v4)] [] q _) (p_xZ _ _ _ _) ?_ h
      intro s19 hs20 h
      refine g_iconst (dk_Mo_gives 51 rfl) (by decide) ?_
      cases h
      exact g_ret rfl rfl (dk_Mo_gives 52 rfl) (fun _ => ⟨_, rfl, Or.inr rfl⟩)
    · have h := p_ifF b8 h
      refine g_iconst (dk_Mo_gives 37 rfl) (by decide) ?_
      cases h
      exact g_ret rfl rfl (dk_Mo_gives 38 rfl) (fun _ => ⟨_, rfl, Or.inl rfl⟩)
  · have h := p_ifF b1 h
    refine g_aload_n (i := 0) (j := 0) (dk_Mo_gives 24 rfl) rfl rfl ?_
    refine g_iconst (dk_Mo_gives 25 rfl) (by decide) ?_
    refine g_iload_n (i := 3) (j := 3) (dk_Mo_gives 26 rfl) rfl rfl ?_
    refine g_iload_n (i := 2) (j := 2) (dk_Mo_gives 27 rfl) rfl rfl ?_
    obtain ⟨c21, h⟩ := p_gdE h
    obtain ⟨s22, q23, h⟩ := p_bvE h
    have t24 := tF_Mo_find K l v0 1 v3 v2 s0 _ q23
    refine g_callV (a := v0) (ci := 11) (q0 := (RX11, TX11, 90)) (As := [p_i 1, p_i v3, p_i v2]) (rest := []) [] mt_Mo_find rfl rfl tw_8_85 ts_76 tw_8_83 ⟨Nat.le_of_ble_eq_true rfl, Nat.le_of_ble_eq_true rfl⟩ rfl (Nat.le_of_ble_eq_true rfl) (dk_Mo_gives 28 rfl) rfl c21 rfl t24 ?_
    have hs25 : p_x s0 s22 := t24.1
    show p_Go K l m_Mo_gives 51 [(0, p_r v0), (1, p_i v1), (2, p_i v2), (3, p_i v3), (4, p_i v4)] [] s22 _
    refine g_iconst (dk_Mo_gives 29 rfl) (by decide) ?_
    cases h
    exact g_ret rfl rfl (dk_Mo_gives 30 rfl) (fun _ => ⟨_, rfl, Or.inl rfl⟩)
set_option maxRecDepth 100000 in
set_option maxHeartbeats 4000000 in
theorem tF_Mo_gives (K : p_K) (l : Launch) (v0 : Nat) (v1 : Int) (v2 : Int) (s0 : p_Hp) (r : (Int × p_Hp)) (h : F_Mo_gives v0 v1 v2 s0 = some r) : p_Ct K l m_Mo_gives [p_r v0, p_i v1, p_i v2] s0 (some (p_i r.1), r.2) := by
  refine p_Ct.of (by decide +kernel) (Nat.le_of_ble_eq_true rfl) ?_
  unfold F_Mo_gives at h
  show p_Go K l m_Mo_gives 0 [(0, p_r v0), (1, p_i v1), (2, p_i v2)] [] s0 _
  refine g_aload_n (i := 0) (j := 0) (dk_Mo_gives 0 rfl) rfl rfl ?_
  refine g_iload_n (i := 1) (j := 1) (dk_Mo_gives 1 rfl) rfl rfl ?_
  refine g_aload_n (i := 0) (j := 0) (dk_Mo_gives 2 rfl) rfl rfl ?_
  refine g_iload_n (i := 1) (j := 1) (dk_Mo_gives 3 rfl) rfl rfl ?_
  obtain ⟨c1, h⟩ := p_gdE h
  obtain ⟨r6, s2, q3, h⟩ := p_bdE h
  have t4 := tF_Mo_linkAt K l v0 v1 s0 _ q3
  refine g_callV (a := v0) (ci := 11) (q0 := (RX11, TX11, 90)) (As := [p_i v1]) (rest := [p_i v1, p_r v0]) [p_i r6, p_i v1, p_r v0] mt_Mo_linkAt rfl rfl tw_8_104 ts_80 tw_8_102 ⟨Nat.le_of_ble_eq_true rfl, Nat.le_of_ble_eq_true rfl⟩ rfl (Nat.le_of_ble_eq_true rfl) (dk_Mo_gives 4 rfl) rfl c1 rfl t4 ?_
  have hs5 : p_x s0 s2 := t4.1
  show p_Go K l m_Mo_gives 7 [(0, p_r v0), (1, p_i v1), (2, p_i v2)] [p_i r6, p_i v1, p_r v0] s2 _
  obtain ⟨r11, s7, q8, h⟩ := p_bdE h
  have t9 := tF_Mo_follow K l v0 v1 r6 s2 _ q8
  refine g_callV (a := v0) (ci := 11) (q0 := (RX11, TX11, 90)) (As := [p_i v1, p_i r6]) (rest := []) [p_i r11] mt_Mo_follow rfl rfl tw_8_112 ts_82 tw_8_110 ⟨Nat.le_of_ble_eq_true rfl, Nat.le_of_ble_eq_true rfl⟩ rfl (Nat.le_of_ble_eq_true rfl) (dk_Mo_gives 5 rfl) rfl (c1.up hs5) rfl t9 ?_
  have hs10 : p_x s2 s7 := t9.1
  show p_Go K l m_Mo_gives 10 [(0, p_r v0), (1, p_i v1), (2, p_i v2)] [p_i r11] s7 _
  refine g_istore_n (i := 3) [(3, p_i r11), (0, p_r v0), (1, p_i v1), (2, p_i v2)] (dk_Mo_gives 6 rfl) rfl (by decide) rfl ?_
  refine g_aload_n (i := 0) (j := 1) (dk_Mo_gives 7 rfl) rfl rfl ?_
  refine g_getI fl_Mo_385 (Or.inl rfl) (dk_Mo_gives 8 rfl) (c1.up (hs5.trans hs10)) ?_
  refine g_istore [(4, p_i (p_Z s7 v0 73)), (3, p_i r11), (0, p_r v0), (1, p_i v1), (2, p_i v2)] (dk_Mo_gives 9 rfl) (by decide) rfl ?_
  refine p_ltG (P := fun q => p_Go K l m_Mo_gives 17 [(4, p_i q), (3, p_i r11), (0, p_r v0), (1, p_i v1), (2, p_i v2)] [] s7 _) ?_ h
  intro x12 h
  refine g_iload_n (i := 3) (j := 1) (dk_Mo_gives 10 rfl) rfl rfl ?_
  refine g_if_ne 40 (dk_Mo_gives 11 rfl) (by decide) (fun b13 => ?_) (fun b13 => ?_)
  · have h := p_ifT b13 h
    refine g_sub [(0, p_r v0), (1, p_i v1), (2, p_i v2), (3, p_i r11), (4, p_i x12)] [2, 3, 4, 1, 0] rfl ?_
    exact tB_Mo_gives_40 K l v0 v1 v2 r11 x12 s7 _ h
  · have h := p_ifF b13 h
    refine g_aload_n (i := 0) (j := 2) (dk_Mo_gives 12 rfl) rfl rfl ?_
    refine g_getR fl_Mo_16 (Or.inr ⟨_, rfl⟩) (dk_Mo_gives 13 rfl) (c1.up (hs5.trans hs10)) ?_
    refine g_aload_n (i := 0) (j := 2) (dk_Mo_gives 14 rfl) rfl rfl ?_
    refine g_iload (j := 0) (dk_Mo_gives 15 rfl) rfl ?_
    obtain ⟨r18, s14, q15, h⟩ := p_bdE h
    have t16 := tF_Mo_g K l v0 x12 s7 _ q15
    refine g_callV (a := v0) (ci := 11) (q0 := (RX11, TX11, 90)) (As := [p_i x12]) (rest := [p_r (p_R s7 v0 5)]) [p_i r18, p_r (p_R s7 v0 5)] mt_Mo_g rfl rfl tw_7_84 ts_45 tw_7_82 ⟨Nat.le_of_ble_eq_true rfl, Nat.le_of_ble_eq_true rfl⟩ rfl (Nat.le_of_ble_eq_true rfl) (dk_Mo_gives 16 rfl) rfl (c1.up (hs5.trans hs10)) rfl t16 ?_
    have hs17 : p_x s7 s14 := t16.1
    show p_Go K l m_Mo_gives 31 [(4, p_i x12), (3, p_i r11), (0, p_r v0), (1, p_i v1), (2, p_i v2)] [p_i r18, p_r (p_R s7 v0 5)] s14 _
    obtain ⟨c19, h⟩ := p_gdE h
    obtain ⟨c20, h⟩ := p_gdE h
    refine g_iaload (dk_Mo_gives 17 rfl) c19 c20.1 c20.2 ?_
    obtain ⟨r25, s21, q22, h⟩ := p_bdE h
    have t23 := tF_Mo_isTaker K l (p_Z s14 (p_R s7 v0 5) (r18 : Int).toNat) s14 _ q22
    refine g_callS (av := [p_i (p_Z s14 (p_R s7 v0 5) (r18 : Int).toNat)]) (rest := []) [p_i r25] mt_Mo_isTaker tw_7_79 tw_7_78 ⟨Nat.le_of_ble_eq_true rfl, Nat.le_of_ble_eq_true rfl⟩ rfl (Nat.le_of_ble_eq_true rfl) (dk_Mo_gives 18 rfl) rfl rfl t23 ?_
    have hs24 : p_x s14 s21 := t23.1
    show p_Go K l m_Mo_gives 35 [(4, p_i x12), (3, p_i r11), (0, p_r v0), (1, p_i v1), (2, p_i v2)] [p_i r25] s21 _
    refine g_if_ne 40 (dk_Mo_gives 19 rfl) (by decide) (fun b26 => ?_) (fun b26 => ?_)
    · have h := p_ifT b26 h
      refine g_sub [(0, p_r v0), (1, p_i v1), (2, p_i v2), (3, p_i r11), (4, p_i x12)] [2, 3, 4, 1, 0] rfl ?_
      exact tB_Mo_gives_40 K l v0 v1 v2 r11 x12 s21 _ h
    · have h := p_ifF b26 h
      refine g_iconst (dk_Mo_gives 20 rfl) (by decide) ?_
      refine g_istore_n (i := 3) [(3, p_i 2), (4, p_i x12), (0, p_r v0), (1, p_i v1), (2, p_i v2)] (dk_Mo_gives 21 rfl) rfl (by decide) rfl ?_
      refine g_sub [(0, p_r v0), (1, p_i v1), (2, p_i v2), (3, p_i 2), (4, p_i x12)] [2, 3, 4, 0, 1] rfl ?_
      exact tB_Mo_gives_40 K l v0 v1 v2 2 x12 s21 _ h
def m_Mo_goesOut : p_Me := (⟨"SortWorksModel", "goesOut", "(III)V"⟩, prog_13_method_75_code, 5, none, 2, 43)
theorem mt_Mo_goesOut : p_Mt m_Mo_goesOut 3 := ⟨p_mem (p_tb8 (List.mem_of_getElem? (i := 165) rfl)) rfl, tw_1_12, by decide +kernel, by decide +kernel, by decide +kernel⟩
def dt_Mo_goesOut : List (Nat × Instr × Nat) := [(0, .bipush 30, 2), (2, .aload_n 0, 1), (3, .getfield 227, 3), (6, .imul, 1), (7, .aload_n 0, 1), (8, .getfield 120, 3), (11, .aload_n 0, 1), (12, .getfield 227, 3), (15, .iaload, 1), (16, .bipush 30, 2), (18, .irem, 1), (19, .iadd, 1), (20, .istore 4, 2), (22, .aload_n 0, 1), (23, .iload_n 1, 1), (24, .invokevirtual 369, 3), (27, .aload_n 0, 1), (28, .getfield 75, 3), (31, .iload_n 1, 1), (32, .iconst 2, 1), (33, .iastore, 1), (34, .aload_n 0, 1), (35, .getfield 111, 3), (38, .iload_n 1, 1), (39, .iload_n 3, 1), (40, .iastore, 1), (41, .aload_n 0, 1), (42, .getfield 57, 3), (45, .aload_n 0, 1), (46, .iload_n 3, 1), (47, .invokevirtual 257, 3), (50, .dup2, 1), (51, .iaload, 1), (52, .iconst 1, 1), (53, .iadd, 1), (54, .iastore, 1), (55, .aload_n 0, 1), (56, .getfield 60, 3), (59, .aload_n 0, 1), (60, .iload_n 3, 1), (61, .invokevirtual 257, 3), (64, .dup2, 1), (65, .iaload, 1), (66, .iconst 1, 1), (67, .iadd, 1), (68, .iastore, 1), (69, .aload_n 0, 1), (70, .getfield 114, 3), (73, .aload_n 0, 1), (74, .getfield 227, 3), (77, .dup2, 1), (78, .iaload, 1), (79, .iconst 1, 1), (80, .isub, 1), (81, .iastore, 1), (82, .aload_n 0, 1), (83, .getfield 123, 3), (86, .iconst 4, 1), (87, .iload 4, 2), (89, .imul, 1), (90, .iload_n 1, 1), (91, .iastore, 1), (92, .aload_n 0, 1), (93, .getfield 123, 3), (96, .iconst 4, 1), (97, .iload 4, 2), (99, .imul, 1), (100, .iconst 1, 1), (101, .iadd, 1), (102, .iload_n 3, 1), (103, .iastore, 1), (104, .aload_n 0, 1), (105, .getfield 123, 3), (108, .iconst 4, 1), (109, .iload 4, 2), (111, .imul, 1), (112, .iconst 2, 1), (113, .iadd, 1), (114, .aload_n 0, 1), (115, .getfield 13, 3), (118, .aload_n 0, 1), (119, .getfield 227, 3), (122, .iaload, 1), (123, .iastore, 1), (124, .aload_n 0, 1), (125, .getfield 123, 3), (128, .iconst 4, 1), (129, .iload 4, 2), (131, .imul, 1), (132, .iconst 3, 1), (133, .iadd, 1), (134, .iload_n 2, 1), (135, .iastore, 1), (136, .aload_n 0, 1), (137, .getfield 120, 3), (140, .aload_n 0, 1), (141, .getfield 227, 3), (144, .dup2, 1), (145, .iaload, 1), (146, .iconst 1, 1), (147, .iadd, 1), (148, .iastore, 1), (149, .return_, 1)]
theorem dk_Mo_goesOut (i : Nat) {pc : Nat} {ins : Instr} {len : Nat} (h : dt_Mo_goesOut[i]? = some (pc, ins, len)) : decode m_Mo_goesOut.2.1 pc = .ok (ins, len) := p_dk (b := m_Mo_goesOut.2.1) (t := dt_Mo_goesOut) (by decide +kernel) i h
def B_Mo_goesOut_149   (s0 : p_Hp) : Option p_Hp :=
  some s0
def F_Mo_goesOut (v0 : Nat) (v1 : Int) (v2 : Int) (v3 : Int) (s0 : p_Hp) : Option p_Hp :=
  p_gd (p_is s0 v0 11) <|
  p_gd (p_is s0 (p_R s0 v0 40) 100) <|
  p_gd ((0 : Int) ≤ (p_Z s0 v0 0) ∧ (p_Z s0 v0 0) < (p_L s0 (p_R s0 v0 40) : Int)) <|
  p_bi ((p_w ((p_w (30 * (p_Z s0 v0 0))) + (p_rem (p_Z s0 (p_R s0 v0 40) ((p_Z s0 v0 0) : Int).toNat) 30)))) fun x4 =>
  p_bv (F_Mo_leaves v0 v1 s0) fun s5 =>
  p_gd (p_is s5 (p_R s5 v0 25) 100) <|
  p_gd ((0 : Int) ≤ v1 ∧ v1 < (p_L s5 (p_R s5 v0 25) : Int)) <|
  p_bi (p_wZ s5 (p_R s5 v0 25) (v1 : Int).toNat 2) fun s11 =>
  p_gd (p_is s11 (p_R s11 v0 37) 100) <|
  p_gd ((0 : Int) ≤ v1 ∧ v1 < (p_L s11 (p_R s11 v0 37) : Int)) <|
  p_bi (p_wZ s11 (p_R s11 v0 37) (v1 : Int).toNat v3) fun s15 =>
  p_bd (F_Mo_g v0 v3 s15) fun r21 s17 =>
  p_gd (p_is s17 (p_R s15 v0 18) 100) <|
  p_gd ((0 : Int) ≤ r21 ∧ r21 < (p_L s17 (p_R s15 v0 18) : Int)) <|
  p_gd ((0 : Int) ≤ r21 ∧ r21 < (p_L s17 (p_R s15 v0 18) : Int)) <|
  p_bi (p_wZ s17 (p_R s15 v0 18) (r21 : Int).toNat (p_w ((p_Z s17 (p_R s15 v0 18) (r21 : Int).toNat) + 1))) fun s25 =>
  p_bd (F_Mo_g v0 v3 s25) fun r31 s27 =>
  p_gd (p_is s27 (p_R s25 v0 19) 100) <|
  p_gd ((0 : Int) ≤ r31 ∧ r31 < (p_L s27 (p_R s25 v0 19) : Int)) <|
  p_gd ((0 : Int) ≤ r31 ∧ r31 < (p_L s27 (p_R s25 v0 19) : Int)) <|
  p_bi (p_wZ s27 (p_R s25 v0 19) (r31 : Int).toNat (p_w ((p_Z s27 (p_R s25 v0 19) (r31 : Int).toNat) + 1))) fun s35 =>
  p_gd (p_is s35 (p_R s35 v0 38) 100) <|
  p_gd ((0 : Int) ≤ (p_Z s35 v0 0) ∧ (p_Z s35 v0 0) < (p_L s35 (p_R s35 v0 38) : Int)) <|
  p_gd ((0 : Int) ≤ (p_Z s35 v0 0) ∧ (p_Z s35 v0 0) < (p_L s35 (p_R s35 v0 38) : Int)) <|
  p_bi (p_wZ s35 (p_R s35 v0 38) ((p_Z s35 v0 0) : Int).toNat (p_w ((p_Z s35 (p_R s35 v0 38) ((p_Z s35 v0 0) : Int).toNat) - 1))) fun s40 =>
  p_gd (p_is s40 (p_R s40 v0 41) 100) <|
  p_gd ((0 : Int) ≤ (p_w (4 * x4)) ∧ (p_w (4 * x4)) < (p_L s40 (p_R s40 v0 41) : Int)) <|
  p_bi (p_wZ s40 (p_R s40 v0 41) ((p_w (4 * x4)) : Int).toNat v1) fun s44 =>
  p_gd (p_is s44 (p_R s44 v0 41) 100) <|
  p_gd ((0 : Int) ≤ (p_w ((p_w (4 * x4)) + 1)) ∧ (p_w ((p_w (4 * x4)) + 1)) < (p_L s44 (p_R s44 v0 41) : Int)) <|
  p_bi (p_wZ s44 (p_R s44 v0 41) ((p_w ((p_w (4 * x4)) + 1)) : Int).toNat v3) fun s48 =>
  p_gd (p_is s48 (p_R s48 v0 4) 100) <|
  p_gd ((0 : Int) ≤ (p_Z s48 v0 0) ∧ (p_Z s48 v0 0) < (p_L s48 (p_R s48 v0 4) : Int)) <|
  p_gd (p_is s48 (p_R s48 v0 41) 100) <|
  p_gd ((0 : Int) ≤ (p_w ((p_w (4 * x4)) + 2)) ∧ (p_w ((p_w (4 * x4)) + 2)) < (p_L s48 (p_R s48 v0 41) : Int)) <|
  p_bi (p_wZ s48 (p_R s48 v0 41) ((p_w ((p_w (4 * x4)) + 2)) : Int).toNat (p_Z s48 (p_R s48 v0 4) ((p_Z s48 v0 0) : Int).toNat)) fun s54 =>
  p_gd (p_is s54 (p_R s54 v0 41) 100) <|
  p_gd ((0 : Int) ≤ (p_w ((p_w (4 * x4)) + 3)) ∧ (p_w ((p_w (4 * x4)) + 3)) < (p_L s54 (p_R s54 v0 41) : Int)) <|
  p_bi (p_wZ s54 (p_R s54 v0 41) ((p_w ((p_w (4 * x4)) + 3)) : Int).toNat v2) fun s58 =>
  p_gd (p_is s58 (p_R s58 v0 40) 100) <|
  p_gd ((0 : Int) ≤ (p_Z s58 v0 0) ∧ (p_Z s58 v0 0) < (p_L s58 (p_R s58 v0 40) : Int)) <|
  p_gd ((0 : Int) ≤ (p_Z s58 v0 0) ∧ (p_Z s58 v0 0) < (p_L s58 (p_R s58 v0 40) : Int)) <|
  p_bi (p_wZ s58 (p_R s58 v0 40) ((p_Z s58 v0 0) : Int).toNat (p_w ((p_Z s58 (p_R s58 v0 40) ((p_Z s58 v0 0) : Int).toNat) + 1))) fun s63 =>
  B_Mo_goesOut_149 s63
set_option maxRecDepth 100000 in
set_option maxHeartbeats 4000000 in
theorem tB_Mo_goesOut_149 (K : p_K) (l : Launch)   (s0 : p_Hp) (r : p_Hp) (h : B_Mo_goesOut_149  s0 = some r) : p_Go K l m_Mo_goesOut 149 [] [] s0 (none, r) := by
  unfold B_Mo_goesOut_149 at h
  cases h
  exact g_ret rfl rfl (dk_Mo_goesOut 102 rfl) (fun _ => rfl)
set_option maxRecDepth 100000 in
set_option maxHeartbeats 4000000 in
theorem tF_Mo_goesOut (K : p_K) (l : Launch) (v0 : Nat) (v1 : Int) (v2 : Int) (v3 : Int) (s0 : p_Hp) (r : p_Hp) (h : F_Mo_goesOut v0 v1 v2 v3 s0 = some r) : p_Ct K l m_Mo_goesOut [p_r v0, p_i v1, p_i v2, p_i v3] s0 (none, r) := by
  refine p_Ct.of (by decide +kernel) (Nat.le_of_ble_eq_true rfl) ?_
  unfold F_Mo_goesOut at h
  show p_Go K l m_Mo_goesOut 0 [(0, p_r v0), (1, p_i v1), (2, p_i v2), (3, p_i v3)] [] s0 _
  refine g_bipush (dk_Mo_goesOut 0 rfl) (by decide +kernel) (by decide) ?_
  refine g_aload_n (i := 0) (j := 0) (dk_Mo_goesOut 1 rfl) rfl rfl ?_
  obtain ⟨c1, h⟩ := p_gdE h
  refine g_getI fl_Mo_227 (Or.inl rfl) (dk_Mo_goesOut 2 rfl) c1 ?_
  refine g_imul (dk_Mo_goesOut 3 rfl) ?_
  refine g_aload_n (i := 0) (j := 0) (dk_Mo_goesOut 4 rfl) rfl rfl ?_
  refine g_getR fl_Mo_120 (Or.inr ⟨_, rfl⟩) (dk_Mo_goesOut 5 rfl) c1 ?_
  refine g_aload_n (i := 0) (j := 0) (dk_Mo_goesOut 6 rfl) rfl rfl ?_
  refine g_getI fl_Mo_227 (Or.inl rfl) (dk_Mo_goesOut 7 rfl) c1 ?_
  obtain ⟨c2, h⟩ := p_gdE h
  obtain ⟨c3, h⟩ := p_gdE h
  refine g_iaload (dk_Mo_goesOut 8 rfl) c2 c3.1 c3.2 ?_
  refine g_bipush (dk_Mo_goesOut 9 rfl) (by decide +kernel) (by decide) ?_
  refine g_irem (dk_Mo_goesOut 10 rfl) (by decide) ?_
  refine g_iadd (dk_Mo_goesOut 11 rfl) ?_
  refine g_istore [(4, p_i (p_w ((p_w (30 * (p_Z s0 v0 0))) + (p_rem (p_Z s0 (p_R s0 v0 40) ((p_Z s0 v0 0) : Int).toNat) 30)))), (0, p_r v0), (1, p_i v1), (2, p_i v2), (3, p_i v3)] (dk_Mo_goesOut 12 rfl) (by decide) rfl ?_
  refine p_ltG (P := fun q => p_Go K l m_Mo_goesOut 22 [(4, p_i q), (0, p_r v0), (1, p_i v1), (2, p_i v2), (3, p_i v3)] [] s0 _) ?_ h
  intro x4 h
  refine g_aload_n (i := 0) (j := 1) (dk_Mo_goesOut 13 rfl) rfl rfl ?_
  refine g_iload_n (i := 1) (j := 2) (dk_Mo_goesOut 14 rfl) rfl rfl ?_
  obtain ⟨s5, q6, h⟩ := p_bvE h
  have t7 := tF_Mo_leaves K l v0 v1 s0 _ q6
  refine g_callV (a := v0) (ci := 11) (q0 := (RX11, TX11, 90)) (As := [p_i v1]) (rest := []) [] mt_Mo_leaves rfl rfl tw_8_21 ts_66 tw_8_19 ⟨Nat.le_of_ble_eq_true rfl, Nat.le_of_ble_eq_true rfl⟩ rfl (Nat.le_of_ble_eq_true rfl) (dk_Mo_goesOut 15 rfl) rfl c1 rfl t7 ?_
  have hs8 : p_x s0 s5 := t7.1
  show p_Go K l m_Mo_goesOut 27 [(4, p_i x4), (0, p_r v0), (1, p_i v1), (2, p_i v2), (3, p_i v3)] [] s5 _
  refine g_aload_n (i := 0) (j := 1) (dk_Mo_goesOut 16 rfl) rfl rfl ?_
  refine g_getR fl_Mo_75 (Or.inr ⟨_, rfl⟩) (dk_Mo_goesOut 17 rfl) (c1.up hs8) ?_
  refine g_iload_n (i := 1) (j := 2) (dk_Mo_goesOut 18 rfl) rfl rfl ?_
  refine g_iconst (dk_Mo_goesOut 19 rfl) (by decide) ?_
  obtain ⟨c9, h⟩ := p_gdE h
  obtain ⟨c10, h⟩ := p_gdE h
  refine g_iastore (dk_Mo_goesOut 20 rfl) c9 c10.1 c10.2 ?_
  refine p_ltS (P := fun q => p_Go K l m_Mo_goesOut 34 [(4, p_i x4), (0, p_r v0), (1, p_i v1), (2, p_i v2), (3, p_i v3)] [] q _) (p_xZ _ _ _ _) ?_ h
  intro s11 hs12 h
  refine g_aload_n (i := 0) (j := 1) (dk_Mo_goesOut 21 rfl) rfl rfl ?_
  refine g_getR fl_Mo_111 (Or.inr ⟨_, rfl⟩) (dk_Mo_goesOut 22 rfl) (c1.up (hs8.trans hs12)) ?_
  refine g_iload_n (i := 1) (j := 2) (dk_Mo_goesOut 23 rfl) rfl rfl ?_
  refine g_iload_n (i := 3) (j := 4) (dk_Mo_goesOut 24 rfl) rfl rfl ?_
  obtain ⟨c13, h⟩ := p_gdE h
  obtain ⟨c14, h⟩ := p_gdE h
  refine g_iastore (dk_Mo_goesOut 25 rfl) c13 c14.1 c14.2 ?_
  refine p_ltS (P := fun q => p_Go K l m_Mo_goesOut 41 [(4, p_i x4), (0, p_r v0), (1, p_i v1), (2, p_i v2), (3, p_i v3)] [] q _) (p_xZ _ _ _ _) ?_ h
  intro s15 hs16 h
  refine g_aload_n (i := 0) (j := 1) (dk_Mo_goesOut 26 rfl) rfl rfl ?_
  refine g_getR fl_Mo_57 (Or.inr ⟨_, rfl⟩) (dk_Mo_goesOut 27 rfl) (c1.up (hs8.trans (hs12.trans hs16))) ?_
  refine g_aload_n (i := 0) (j := 1) (dk_Mo_goesOut 28 rfl) rfl rfl ?_
  refine g_iload_n (i := 3) (j := 4) (dk_Mo_goesOut 29 rfl) rfl rfl ?_
  obtain ⟨r21, s17, q18, h⟩ := p_bdE h
  have t19 := tF_Mo_g K l v0 v3 s15 _ q18
  refine g_callV (a := v0) (ci := 11) (q0 := (RX11, TX11, 90)) (As := [p_i v3]) (rest := [p_r (p_R s15 v0 18)]) [p_i r21, p_r (p_R s15 v0 18)] mt_Mo_g rfl rfl tw_7_84 ts_45 tw_7_82 ⟨Nat.le_of_ble_eq_true rfl, Nat.le_of_ble_eq_true rfl⟩ rfl (Nat.le_of_ble_eq_true rfl) (dk_Mo_goesOut 30 rfl) rfl (c1.up (hs8.trans (hs12.trans hs16))) rfl t19 ?_
  have hs20 : p_x s15 s17 := t19.1
  show p_Go K l m_Mo_goesOut 50 [(4, p_i x4), (0, p_r v0), (1, p_i v1), (2, p_i v2), (3, p_i v3)] [p_i r21, p_r (p_R s15 v0 18)] s17 _
  refine g_dup2 (dk_Mo_goesOut 31 rfl) rfl rfl ?_
  obtain ⟨c22, h⟩ := p_gdE h
  obtain ⟨c23, h⟩ := p_gdE h
  refine g_iaload (dk_Mo_goesOut 32 rfl) c22 c23.1 c23.2 ?_
  refine g_iconst (dk_Mo_goesOut 33 rfl) (by decide) ?_
  refine g_iadd (dk_Mo_goesOut 34 rfl) ?_
  obtain ⟨c24, h⟩ := p_gdE h
  refine g_iastore (dk_Mo_goesOut 35 rfl) c22 c24.1 c24.2 ?_
  refine p_ltS (P := fun q => p_Go K l m_Mo_goesOut 55 [(4, p_i x4), (0, p_r v0), (1, p_i v1), (2, p_i v2), (3, p_i v3)] [] q _) (p_xZ _ _ _ _) ?_ h
  intro s25 hs26 h
  refine g_aload_n (i := 0) (j := 1) (dk_Mo_goesOut 36 rfl) rfl rfl ?_
  refine g_getR fl_Mo_60 (Or.inr ⟨_, rfl⟩) (dk_Mo_goesOut 37 rfl) (c1.up (hs8.trans (hs12.trans (hs16.trans (hs20.trans hs26))))) ?_
  refine g_aload_n (i := 0) (j := 1) (dk_Mo_goesOut 38 rfl) rfl rfl ?_
  refine g_iload_n (i := 3) (j := 4) (dk_Mo_goesOut 39 rfl) rfl rfl ?_
  obtain ⟨r31, s27, q28, h⟩ := p_bdE h
  have t29 := tF_Mo_g K l v0 v3 s25 _ q28
  refine g_callV (a := v0) (ci := 11) (q0 := (RX11, TX11, 90)) (As := [p_i v3]) (rest := [p_r (p_R s25 v0 19)]) [p_i r31, p_r (p_R s25 v0 19)] mt_Mo_g rfl rfl tw_7_84 ts_45 tw_7_82 ⟨Nat.le_of_ble_eq_true rfl, Nat.le_of_ble_eq_true rfl⟩ rfl (Nat.le_of_ble_eq_true rfl) (dk_Mo_goesOut 40 rfl) rfl (c1.up (hs8.trans (hs12.trans (hs16.trans (hs20.trans hs26))))) rfl t29 ?_
  have hs30 : p_x s25 s27 := t29.1
  show p_Go K l m_Mo_goesOut 64 [(4, p_i x4), (0, p_r v0), (1, p_i v1), (2, p_i v2), (3, p_i v3)] [p_i r31, p_r (p_R s25 v0 19)] s27 _
  refine g_dup2 (dk_Mo_goesOut 41 rfl) rfl rfl ?_
  obtain ⟨c32, h⟩ := p_gdE h
  obtain ⟨c33, h⟩ := p_gdE h
  refine g_iaload (dk_Mo_goesOut 42 rfl) c32 c33.1 c33.2 ?_
  refine g_iconst (dk_Mo_goesOut 43 rfl) (by decide) ?_
  refine g_iadd (dk_Mo_goesOut 44 rfl) ?_
  obtain ⟨c34, h⟩ := p_gdE h
  refine g_iastore (dk_Mo_goesOut 45 rfl) c32 c34.1 c34.2 ?_
  refine p_ltS (P := fun q => p_Go K l m_Mo_goesOut 69 [(4, p_i x4), (0, p_r v0), (1, p_i v1), (2, p_i v2), (3, p_i v3)] [] q _) (p_xZ _ _ _ _) ?_ h
  intro s35 hs36 h
  refine g_aload_n (i := 0) (j := 1) (dk_Mo_goesOut 46 rfl) rfl rfl ?_
  refine g_getR fl_Mo_114 (Or.inr ⟨_, rfl⟩) (dk_Mo_goesOut 47 rfl) (c1.up (hs8.trans (hs12.trans (hs16.trans (hs20.trans (hs26.trans (hs30.trans hs36))))))) ?_
  refine g_aload_n (i := 0) (j := 1) (dk_Mo_goesOut 48 rfl) rfl rfl ?_
  refine g_getI fl_Mo_227 (Or.inl rfl) (dk_Mo_goesOut 49 rfl) (c1.up (hs8.trans (hs12.trans (hs16.trans (hs20.trans (hs26.trans (hs30.trans hs36))))))) ?_
  refine g_dup2 (dk_Mo_goesOut 50 rfl) rfl rfl ?_
  obtain ⟨c37, h⟩ := p_gdE h
  obtain ⟨c38, h⟩ := p_gdE h
  refine g_iaload (dk_Mo_goesOut 51 rfl) c37 c38.1 c38.2 ?_
  refine g_iconst (dk_Mo_goesOut 52 rfl) (by decide) ?_
  refine g_isub (dk_Mo_goesOut 53 rfl) ?_
  obtain ⟨c39, h⟩ := p_gdE h
  refine g_iastore (dk_Mo_goesOut 54 rfl) c37 c39.1 c39.2 ?_
  refine p_ltS (P := fun q => p_Go K l m_Mo_goesOut 82 [(4, p_i x4), (0, p_r v0), (1, p_i v1), (2, p_i v2), (3, p_i v3)] [] q _) (p_xZ _ _ _ _) ?_ h
  intro s40 hs41 h
  refine g_aload_n (i := 0) (j := 1) (dk_Mo_goesOut 55 rfl) rfl rfl ?_
  refine g_getR fl_Mo_123 (Or.inr ⟨_, rfl⟩) (dk_Mo_goesOut 56 rfl) (c1.up (hs8.trans (hs12.trans (hs16.trans (hs20.trans (hs26.trans (hs30.trans (hs36.trans hs41)))))))) ?_
  refine g_iconst (dk_Mo_goesOut 57 rfl) (by decide) ?_
  refine g_iload (j := 0) (dk_Mo_goesOut 58 rfl) rfl ?_
  refine g_imul (dk_Mo_goesOut 59 rfl) ?_
  refine g_iload_n (i := 1) (j := 2) (dk_Mo_goesOut 60 rfl) rfl rfl ?_
  obtain ⟨c42, h⟩ := p_gdE h
  obtain ⟨c43, h⟩ := p_gdE h
  refine g_iastore (dk_Mo_goesOut 61 rfl) c42 c43.1 c43.2 ?_
  refine p_ltS (P := fun q => p_Go K l m_Mo_goesOut 92 [(4, p_i x4), (0, p_r v0), (1, p_i v1), (2, p_i v2), (3, p_i v3)] [] q _) (p_xZ _ _ _ _) ?_ h
  intro s44 hs45 h
  refine g_aload_n (i := 0) (j := 1) (dk_Mo_goesOut 62 rfl) rfl rfl ?_
  refine g_getR fl_Mo_123 (Or.inr ⟨_, rfl⟩) (dk_Mo_goesOut 63 rfl) (c1.up (hs8.trans (hs12.trans (hs16.trans (hs20.trans (hs26.trans (hs30.trans (hs36.trans (hs41.trans hs45))))))))) ?_
  refine g_iconst (dk_Mo_goesOut 64 rfl) (by decide) ?_
  refine g_iload (j := 0) (dk_Mo_goesOut 65 rfl) rfl ?_
  refine g_imul (dk_Mo_goesOut 66 rfl) ?_
  refine g_iconst (dk_Mo_goesOut 67 rfl) (by decide) ?_
  refine g_iadd (dk_Mo_goesOut 68 rfl) ?_
  refine g_iload_n (i := 3) (j := 4) (dk_Mo_goesOut 69 rfl) rfl rfl ?_
  obtain ⟨c46, h⟩ := p_gdE h
  obtain ⟨c47, h⟩ := p_gdE h
  refine g_iastore (dk_Mo_goesOut 70 rfl) c46 c47.1 c47.2 ?_
  refine p_ltS (P := fun q => p_Go K l m_Mo_goesOut 104 [(4, p_i x4), (0, p_r v0), (1, p_i v1), (2, p_i v2), (3, p_i v3)] [] q _) (p_xZ _ _ _ _) ?_ h
  intro s48 hs49 h
  refine g_aload_n (i := 0) (j := 1) (dk_Mo_goesOut 71 rfl) rfl rfl ?_
  refine g_getR fl_Mo_123 (Or.inr ⟨_, rfl⟩) (dk_Mo_goesOut 72 rfl) (c1.up (hs8.trans (hs12.trans (hs16.trans (hs20.trans (hs26.trans (hs30.trans (hs36.trans (hs41.trans (hs45.trans hs49)))))))))) ?_
  refine g_iconst (dk_Mo_goesOut 73 rfl) (by decide) ?_
  refine g_iload (j := 0) (dk_Mo_goesOut 74 rfl) rfl ?_
  refine g_imul (dk_Mo_goesOut 75 rfl) ?_
  refine g_iconst (dk_Mo_goesOut 76 rfl) (by decide) ?_
  refine g_iadd (dk_Mo_goesOut 77 rfl) ?_
  refine g_aload_n (i := 0) (j := 1) (dk_Mo_goesOut 78 rfl) rfl rfl ?_
  refine g_getR fl_Mo_13 (Or.inr ⟨_, rfl⟩) (dk_Mo_goesOut 79 rfl) (c1.up (hs8.trans (hs12.trans (hs16.trans (hs20.trans (hs26.trans (hs30.trans (hs36.trans (hs41.trans (hs45.trans hs49)))))))))) ?_
  refine g_aload_n (i := 0) (j := 1) (dk_Mo_goesOut 80 rfl) rfl rfl ?_
  refine g_getI fl_Mo_227 (Or.inl rfl) (dk_Mo_goesOut 81 rfl) (c1.up (hs8.trans (hs12.trans (hs16.trans (hs20.trans (hs26.trans (hs30.trans (hs36.trans (hs41.trans (hs45.trans hs49)))))))))) ?_
  obtain ⟨c50, h⟩ := p_gdE h
  obtain ⟨c51, h⟩ := p_gdE h
  refine g_iaload (dk_Mo_goesOut 82 rfl) c50 c51.1 c51.2 ?_
  obtain ⟨c52, h⟩ := p_gdE h
  obtain ⟨c53, h⟩ := p_gdE h
  refine g_iastore (dk_Mo_goesOut 83 rfl) c52 c53.1 c53.2 ?_
  refine p_ltS (P := fun q => p_Go K l m_Mo_goesOut 124 [(4, p_i x4), (0, p_r v0), (1, p_i v1), (2, p_i v2), (3, p_i v3)] [] q _) (p_xZ _ _ _ _) ?_ h
  intro s54 hs55 h
  refine g_aload_n (i := 0) (j := 1) (dk_Mo_goesOut 84 rfl) rfl rfl ?_
  refine g_getR fl_Mo_123 (Or.inr ⟨_, rfl⟩) (dk_Mo_goesOut 85 rfl) (c1.up (hs8.trans (hs12.trans (hs16.trans (hs20.trans (hs26.trans (hs30.trans (hs36.trans (hs41.trans (hs45.trans (hs49.trans hs55))))))))))) ?_
  refine g_iconst (dk_Mo_goesOut 86 rfl) (by decide) ?_
  refine g_iload (j := 0) (dk_Mo_goesOut 87 rfl) rfl ?_
  refine g_imul (dk_Mo_goesOut 88 rfl) ?_
  refine g_iconst (dk_Mo_goesOut 89 rfl) (by decide) ?_
  refine g_iadd (dk_Mo_goesOut 90 rfl) ?_
  refine g_iload_n (i := 2) (j := 3) (dk_Mo_goesOut 91 rfl) rfl rfl ?_
  obtain ⟨c56, h⟩ := p_gdE h
  obtain ⟨c57, h⟩ := p_gdE h
  refine g_iastore (dk_Mo_goesOut 92 rfl) c56 c57.1 c57.2 ?_
  refine p_ltS (P := fun q => p_Go K l m_Mo_goesOut 136 [(4, p_i x4), (0, p_r v0), (1, p_i v1), (2, p_i v2), (3, p_i v3)] [] q _) (p_xZ _ _ _ _) ?_ h
  intro s58 hs59 h
  refine g_aload_n (i := 0) (j := 1) (dk_Mo_goesOut 93 rfl) rfl rfl ?_
  refine g_getR fl_Mo_120 (Or.inr ⟨_, rfl⟩) (dk_Mo_goesOut 94 rfl) (c1.up (hs8.trans (hs12.trans (hs16.trans (hs20.trans (hs26.trans (hs30.trans (hs36.trans (hs41.trans (hs45.trans (hs49.trans (hs55.trans hs59)))))))))))) ?_
  refine g_aload_n (i := 0) (j := 1) (dk_Mo_goesOut 95 rfl) rfl rfl ?_
  refine g_getI fl_Mo_227 (Or.inl rfl) (dk_Mo_goesOut 96 rfl) (c1.up (hs8.trans (hs12.trans (hs16.trans (hs20.trans (hs26.trans (hs30.trans (hs36.trans (hs41.trans (hs45.trans (hs49.trans (hs55.trans hs59)))))))))))) ?_
  refine g_dup2 (dk_Mo_goesOut 97 rfl) rfl rfl ?_
  obtain ⟨c60, h⟩ := p_gdE h
  obtain ⟨c61, h⟩ := p_gdE h
  refine g_iaload (dk_Mo_goesOut 98 rfl) c60 c61.1 c61.2 ?_
  refine g_iconst (dk_Mo_goesOut 99 rfl) (by decide) ?_
  refine g_iadd (dk_Mo_goesOut 100 rfl) ?_
  obtain ⟨c62, h⟩ := p_gdE h
  refine g_iastore (dk_Mo_goesOut 101 rfl) c60 c62.1 c62.2 ?_
  refine p_ltS (P := fun q => p_Go K l m_Mo_goesOut 149 [(4, p_i x4), (0, p_r v0), (1, p_i v1), (2, p_i v2), (3, p_i v3)] [] q _) (p_xZ _ _ _ _) ?_ h
  intro s63 hs64 h
  refine g_sub [] [] rfl ?_
  exact tB_Mo_goesOut_149 K l s63 _ h
def m_Mo_givesOut : p_Me := (⟨"SortWorksModel", "givesOut", "(II)Z"⟩, prog_13_method_76_code, 6, (some .boolean), 3, 69)
theorem mt_Mo_givesOut : p_Mt m_Mo_givesOut 2 := ⟨p_mem (p_tb8 (List.mem_of_getElem? (i := 161) rfl)) rfl, tw_1_12, by decide +kernel, by decide +kernel, by decide +kernel⟩
def dt_Mo_givesOut : List (Nat × Instr × Nat) := [(0, .aload_n 0, 1), (1, .iload_n 1, 1), (2, .invokevirtual 257, 3), (5, .istore_n 3, 1), (6, .aload_n 0, 1), (7, .getfield 22, 3), (10, .iload_n 3, 1), (11, .iaload, 1), (12, .ifCond .ge 7, 3), (15, .iconst 1, 1), (16, .goto 4, 3), (19, .iconst 0, 1), (20, .istore 4, 2), (22, .iconst 0, 1), (23, .istore 5, 2), (25, .iload 5, 2), (27, .aload_n 0, 1), (28, .getfield 22, 3), (31, .iload_n 3, 1), (32, .iaload, 1), (33, .if_icmp .ge 87, 3), (36, .aload_n 0, 1), (37, .iload_n 1, 1), (38, .iload 5, 2), (40, .invokevirtual 388, 3), (43, .istore 4, 2), (45, .iload 4, 2), (47, .ifCond .ne 24, 3), (50, .aload_n 0, 1), (51, .getfield 16, 3), (54, .aload_n 0, 1), (55, .aload_n 0, 1), (56, .getfield 385, 3), (59, .invokevirtual 257, 3), (62, .iaload, 1), (63, .bipush 9, 2), (65, .if_icmp .eq 6, 3), (68, .iconst 2, 1), (69, .istore 4, 2), (71, .iload 4, 2), (73, .ifCond .le 13, 3), (76, .aload_n 0, 1), (77, .iconst 1, 1), (78, .iload 4, 2), (80, .iload_n 2, 1), (81, .invokevirtual 395, 3), (84, .iconst 0, 1), (85, .ireturn, 1), (86, .aload_n 0, 1), (87, .getfield 44, 3), (90, .aload_n 0, 1), (91, .aload_n 0, 1), (92, .getfield 385, 3), (95, .invokevirtual 257, 3), (98, .baload, 1), (99, .ifCond .eq 15, 3), (102, .aload_n 0, 1), (103, .iload_n 2, 1), (104, .iload_n 1, 1), (105, .aload_n 0, 1), (106, .getfield 385, 3), (109, .invokevirtual 447, 3), (112, .iconst 1, 1), (113, .ireturn, 1), (114, .iinc 5 1, 3), (117, .goto (-92), 3), (120, .iload 4, 2), (122, .ifCond .le 11, 3), (125, .aload_n 0, 1), (126, .iconst 1, 1), (127, .iload 4, 2), (129, .iload_n 2, 1), (130, .invokevirtual 395, 3), (133, .iconst 0, 1), (134, .ireturn, 1)]
theorem dk_Mo_givesOut (i : Nat) {pc : Nat} {ins : Instr} {len : Nat} (h : dt_Mo_givesOut[i]? = some (pc, ins, len)) : decode m_Mo_givesOut.2.1 pc = .ok (ins, len) := p_dk (b := m_Mo_givesOut.2.1) (t := dt_Mo_givesOut) (by decide +kernel) i h
def B_Mo_givesOut_71 (k25 : Nat → Int → Int → Int → Int → Int → p_Hp → Option (Int × p_Hp)) (v0 : Nat) (v1 : Int) (v2 : Int) (v3 : Int) (v4 : Int) (v5 : Int) (s0 : p_Hp) : Option (Int × p_Hp) :=
  if v4 ≤ 0 then
    p_gd (p_is s0 v0 11) <|
    p_bd (F_Mo_g v0 (p_Z s0 v0 73) s0) fun r7 s3 =>
    p_gd (p_is s3 (p_R s0 v0 14) 102) <|
    p_gd ((0 : Int) ≤ r7 ∧ r7 < (p_L s3 (p_R s0 v0 14) : Int)) <|
    if (p_Z s3 (p_R s0 v0 14) (r7 : Int).toNat) = 0 then
      p_bi (p_w (v5 + 1)) fun x11 =>
      k25 v0 v1 v2 v3 v4 x11 s3
    else
      p_bv (F_Mo_goesOut v0 v2 v1 (p_Z s3 v0 73) s3) fun s12 =>
      some (1, s12)
  else
    p_gd (p_is s0 v0 11) <|
    p_bv (F_Mo_find v0 1 v4 v2 s0) fun s17 =>
    some (0, s17)
def L_Mo_givesOut_25 (k25 : Nat → Int → Int → Int → Int → Int → p_Hp → Option (Int × p_Hp)) (v0 : Nat) (v1 : Int) (v2 : Int) (v3 : Int) (v4 : Int) (v5 : Int) (s0 : p_Hp) : Option (Int × p_Hp) :=
  p_gd (p_is s0 v0 11) <|
  p_gd (p_is s0 (p_R s0 v0 7) 100) <|
  p_gd ((0 : Int) ≤ v3 ∧ v3 < (p_L s0 (p_R s0 v0 7) : Int)) <|
  if (p_Z s0 (p_R s0 v0 7) (v3 : Int).toNat) ≤ v5 then
    if v4 ≤ 0 then
      some (0, s0)
    else
      p_bv (F_Mo_find v0 1 v4 v2 s0) fun s6 =>
      some (0, s6)
  else
    p_bd (F_Mo_follow v0 v1 v5 s0) fun r14 s10 =>
    if r14 ≠ 0 then
      B_Mo_givesOut_71 k25 v0 v1 v2 v3 r14 v5 s10
    else
      p_bd (F_Mo_g v0 (p_Z s10 v0 73) s10) fun r20 s16 =>
      p_gd (p_is s16 (p_R s10 v0 5) 100) <|
      p_gd ((0 : Int) ≤ r20 ∧ r20 < (p_L s16 (p_R s10 v0 5) : Int)) <|
      if (p_Z s16 (p_R s10 v0 5) (r20 : Int).toNat) = 9 then
        B_Mo_givesOut_71 k25 v0 v1 v2 v3 r14 v5 s16
      else
        B_Mo_givesOut_71 k25 v0 v1 v2 v3 2 v5 s16
def O_Mo_givesOut_25  : Nat → Nat → Int → Int → Int → Int → Int → p_Hp → Option (Int × p_Hp)
  | 0 => fun _ _ _ _ _ _ _ => none
  | n + 1 => L_Mo_givesOut_25 (O_Mo_givesOut_25 n)
def B_Mo_givesOut_20  (v0 : Nat) (v1 : Int) (v2 : Int) (v3 : Int) (w0 : Int) (s0 : p_Hp) : Option (Int × p_Hp) :=
  O_Mo_givesOut_25 3000 v0 v1 v2 v3 w0 0 s0
def F_Mo_givesOut (v0 : Nat) (v1 : Int) (v2 : Int) (s0 : p_Hp) : Option (Int × p_Hp) :=
  p_gd (p_is s0 v0 11) <|
  p_bd (F_Mo_g v0 v1 s0) fun r6 s2 =>
  p_gd (p_is s2 (p_R s2 v0 7) 100) <|
  p_gd ((0 : Int) ≤ r6 ∧ r6 < (p_L s2 (p_R s2 v0 7) : Int)) <|
  if 0 ≤ (p_Z s2 (p_R s2 v0 7) (r6 : Int).toNat) then
    B_Mo_givesOut_20 v0 v1 v2 r6 0 s2
  else
    B_Mo_givesOut_20 v0 v1 v2 r6 1 s2
set_option maxRecDepth 100000 in
set_option maxHeartbeats 4000000 in
theorem tB_Mo_givesOut_71 (K : p_K) (l : Launch) (k25 : Nat → Int → Int → Int → Int → Int → p_Hp → Option (Int × p_Hp)) (hk25 : ∀ (v0 : Nat) (v1 : Int) (v2 : Int) (v3 : Int) (v4 : Int) (v5 : Int)  (s0 : p_Hp) (r : (Int × p_Hp)), k25 v0 v1 v2 v3 v4 v5 s0 = some r → p_Go K l m_Mo_givesOut 25 [(0, p_r v0), (1, p_i v1), (2, p_i v2), (3, p_i v3), (4, p_i v4), (5, p_i v5)] [] s0 (some (p_i r.1), r.2)) (v0 : Nat) (v1 : Int) (v2 : Int) (v3 : Int) (v4 : Int) (v5 : Int) (s0 : p_Hp) (r : (Int × p_Hp)) (h : B_Mo_givesOut_71 k25 v0 v1 v2 v3 v4 v5 s0 = some r) : p_Go K l m_Mo_givesOut 71 [(0, p_r v0), (1, p_i v1), (2, p_i v2), (3, p_i v3), (4, p_i v4), (5, p_i v5)] [] s0 (some (p_i r.1), r.2) := by
  unfold B_Mo_givesOut_71 at h
  refine g_iload (j := 4) (dk_Mo_givesOut 39 rfl) rfl ?_
  refine g_if_le 86 (dk_Mo_givesOut 40 rfl) (by decide) (fun b1 => ?_) (fun b1 => ?_)
  · have h := p_ifT b1 h
    refine g_aload_n (i := 0) (j := 0) (dk_Mo_givesOut 48 rfl) rfl rfl ?_
    obtain ⟨c2, h⟩ := p_gdE h
    refine g_getR fl_Mo_44 (Or.inr ⟨_, rfl⟩) (dk_Mo_givesOut 49 rfl) c2 ?_
    refine g_aload_n (i := 0) (j := 0) (dk_Mo_givesOut 50 rfl) rfl rfl ?_
    refine g_aload_n (i := 0) (j := 0) (dk_Mo_givesOut 51 rfl) rfl rfl ?_
    refine g_getI fl_Mo_385 (Or.inl rfl) (dk_Mo_givesOut 52 rfl) c2 ?_
    obtain ⟨r7, s3, q4, h⟩ := p_bdE h
    have t5 := tF_Mo_g K l v0 (p_Z s0 v0 73) s0 _ q4
    refine g_callV (a := v0) (ci := 11) (q0 := (RX11, TX11, 90)) (As := [p_i (p_Z s0 v0 73)]) (rest := [p_r (p_R s0 v0 14)]) [p_i r7, p_r (p_R s0 v0 14)] mt_Mo_g rfl rfl tw_7_84 ts_45 tw_7_82 ⟨Nat.le_of_ble_eq_true rfl, Nat.le_of_ble_eq_true rfl⟩ rfl (Nat.le_of_ble_eq_true rfl) (dk_Mo_givesOut 53 rfl) rfl c2 rfl t5 ?_
    have hs6 : p_x s0 s3 := t5.1
    show p_Go K l m_Mo_givesOut 98 [(0, p_r v0), (1, p_i v1), (2, p_i v2), (3, p_i v3), (4, p_i v4), (5, p_i v5)] [p_i r7, p_r (p_R s0 v0 14)] s3 _
    obtain ⟨c8, h⟩ := p_gdE h
    obtain ⟨c9, h⟩ := p_gdE h
    refine g_baload (dk_Mo_givesOut 54 rfl) c8 c9.1 c9.2 ?_
    refine g_if_eq 114 (dk_Mo_givesOut 55 rfl) (by decide) (fun b10 => ?_) (fun b10 => ?_)
    · have h := p_ifT b10 h
      refine g_iinc (j := 5) [(5, p_i (p_w (v5 + 1))), (0, p_r v0), (1, p_i v1), (2, p_i v2), (3, p_i v3), (4, p_i v4)] (dk_Mo_givesOut 64 rfl) rfl (by decide) rfl ?_
      refine p_ltG (P := fun q => p_Go K l m_Mo_givesOut 117 [(5, p_i q), (0, p_r v0), (1, p_i v1), (2, p_i v2), (3, p_i v3), (4, p_i v4)] [] s3 _) ?_ h
      intro x11 h
      refine g_goto 25 (dk_Mo_givesOut 65 rfl) (by decide) ?_
      refine g_sub [(0, p_r v0), (1, p_i v1), (2, p_i v2), (3, p_i v3), (4, p_i v4), (5, p_i x11)] [1, 2, 3, 4, 5, 0] rfl ?_
      exact hk25 v0 v1 v2 v3 v4 x11 s3 _ h
    · have h := p_ifF b10 h
      refine g_aload_n (i := 0) (j := 0) (dk_Mo_givesOut 56 rfl) rfl rfl ?_
      refine g_iload_n (i := 2) (j := 2) (dk_Mo_givesOut 57 rfl) rfl rfl ?_
      refine g_iload_n (i := 1) (j := 1) (dk_Mo_givesOut 58 rfl) rfl rfl ?_
      refine g_aload_n (i := 0) (j := 0) (dk_Mo_givesOut 59 rfl) rfl rfl ?_
      refine g_getI fl_Mo_385 (Or.inl rfl) (dk_Mo_givesOut 60 rfl) (c2.up hs6) ?_
      obtain ⟨s12, q13, h⟩ := p_bvE h
      have t14 := tF_Mo_goesOut K l v0 v2 v1 (p_Z s3 v0 73) s3 _ q13
      refine g_callV (a := v0) (ci := 11) (q0 := (RX11, TX11, 90)) (As := [p_i v2, p_i v1, p_i (p_Z s3 v0 73)]) (rest := []) [] mt_Mo_goesOut rfl rfl tw_8_164 ts_95 tw_8_162 ⟨Nat.le_of_ble_eq_true rfl, Nat.le_of_ble_eq_true rfl⟩ rfl (Nat.le_of_ble_eq_true rfl) (dk_Mo_givesOut 61 rfl) rfl (c2.up hs6) rfl t14 ?_
      have hs15 : p_x s3 s12 := t14.1
      show p_Go K l m_Mo_givesOut 112 [(0, p_r v0), (1, p_i v1), (2, p_i v2), (3, p_i v3), (4, p_i v4), (5, p_i v5)] [] s12 _
      refine g_iconst (dk_Mo_givesOut 62 rfl) (by decide) ?_
      cases h
      exact g_ret rfl rfl (dk_Mo_givesOut 63 rfl) (fun _ => ⟨_, rfl, Or.inr rfl⟩)
  · have h := p_ifF b1 h
    refine g_aload_n (i := 0) (j := 0) (dk_Mo_givesOut 41 rfl) rfl rfl ?_
    refine g_iconst (dk_Mo_givesOut 42 rfl) (by decide) ?_
    refine g_iload (j := 4) (dk_Mo_givesOut 43 rfl) rfl ?_
    refine g_iload_n (i := 2) (j := 2) (dk_Mo_givesOut 44 rfl) rfl rfl ?_
    obtain ⟨c16, h⟩ := p_gdE h
    obtain ⟨s17, q18, h⟩ := p_bvE h
    have t19 := tF_Mo_find K l v0 1 v4 v2 s0 _ q18
    refine g_callV (a := v0) (ci := 11) (q0 := (RX11, TX11, 90)) (As := [p_i 1, p_i v4, p_i v2]) (rest := []) [] mt_Mo_find rfl rfl tw_8_85 ts_76 tw_8_83 ⟨Nat.le_of_ble_eq_true rfl, Nat.le_of_ble_eq_true rfl⟩ rfl (Nat.le_of_ble_eq_true rfl) (dk_Mo_givesOut 45 rfl) rfl c16 rfl t19 ?_
    have hs20 : p_x s0 s17 := t19.1
    show p_Go K l m_Mo_givesOut 84 [(0, p_r v0), (1, p_i v1), (2, p_i v2), (3, p_i v3), (4, p_i v4), (5, p_i v5)] [] s17 _
    refine g_iconst (dk_Mo_givesOut 46 rfl) (by decide) ?_
    cases h
    exact g_ret rfl rfl (dk_Mo_givesOut 47 rfl) (fun _ => ⟨_, rfl, Or.inl rfl⟩)
set_option maxRecDepth 100000 in
set_option maxHeartbeats 4000000 in
theorem tL_Mo_givesOut_25 (K : p_K) (l : Launch) (k25 : Nat → Int → Int → Int → Int → Int → p_Hp → Option (Int × p_Hp)) (hk25 : ∀ (v0 : Nat) (v1 : Int) (v2 : Int) (v3 : Int) (v4 : Int) (v5 : Int)  (s0 : p_Hp) (r : (Int × p_Hp)), k25 v0 v1 v2 v3 v4 v5 s0 = some r → p_Go K l m_Mo_givesOut 25 [(0, p_r v0), (1, p_i v1), (2, p_i v2), (3, p_i v3), (4, p_i v4), (5, p_i v5)] [] s0 (some (p_i r.1), r.2)) (v0 : Nat) (v1 : Int) (v2 : Int) (v3 : Int) (v4 : Int) (v5 : Int) (s0 : p_Hp) (r : (Int × p_Hp)) (h : L_Mo_givesOut_25 k25 v0 v1 v2 v3 v4 v5 s0 = some r) : p_Go K l m_Mo_givesOut 25 [(0, p_r v0), (1, p_i v1), (2, p_i v2), (3, p_i v3), (4, p_i v4), (5, p_i v5)] [] s0 (some (p_i r.1), r.2) := by
  unfold L_Mo_givesOut_25 at h
  refine g_iload (j := 5) (dk_Mo_givesOut 15 rfl) rfl ?_
  refine g_aload_n (i := 0) (j := 0) (dk_Mo_givesOut 16 rfl) rfl rfl ?_
  obtain ⟨c1, h⟩ := p_gdE h
  refine g_getR fl_Mo_22 (Or.inr ⟨_, rfl⟩) (dk_Mo_givesOut 17 rfl) c1 ?_
  refine g_iload_n (i := 3) (j := 3) (dk_Mo_givesOut 18 rfl) rfl rfl ?_
  obtain ⟨c2, h⟩ := p_gdE h
  obtain ⟨c3, h⟩ := p_gdE h
  refine g_iaload (dk_Mo_givesOut 19 rfl) c2 c3.1 c3.2 ?_
  refine g_icmp_ge 120 (dk_Mo_givesOut 20 rfl) (by decide) (fun b4 => ?_) (fun b4 => ?_)
  · have h := p_ifT b4 h
    refine g_iload (j := 4) (dk_Mo_givesOut 66 rfl) rfl ?_
    refine g_if_le 133 (dk_Mo_givesOut 67 rfl) (by decide) (fun b5 => ?_) (fun b5 => ?_)
    · have h := p_ifT b5 h
      refine g_iconst (dk_Mo_givesOut 73 rfl) (by decide) ?_
      cases h
      exact g_ret rfl rfl (dk_Mo_givesOut 74 rfl) (fun _ => ⟨_, rfl, Or.inl rfl⟩)
    · have h := p_ifF b5 h
      refine g_aload_n (i := 0) (j := 0) (dk_Mo_givesOut 68 rfl) rfl rfl ?_
      refine g_iconst (dk_Mo_givesOut 69 rfl) (by decide) ?_
      refine g_iload (j := 4) (dk_Mo_givesOut 70 rfl) rfl ?_
      refine g_iload_n (i := 2) (j := 2) (dk_Mo_givesOut 71 rfl) rfl rfl ?_
      obtain ⟨s6, q7, h⟩ := p_bvE h
      have t8 := tF_Mo_find K l v0 1 v4 v2 s0 _ q7
      refine g_callV (a := v0) (ci := 11) (q0 := (RX11, TX11, 90)) (As := [p_i 1, p_i v4, p_i v2]) (rest := []) [] mt_Mo_find rfl rfl tw_8_85 ts_76 tw_8_83 ⟨Nat.le_of_ble_eq_true rfl, Nat.le_of_ble_eq_true rfl⟩ rfl (Nat.le_of_ble_eq_true rfl) (dk_Mo_givesOut 72 rfl) rfl c1 rfl t8 ?_
      have hs9 : p_x s0 s6 := t8.1
      show p_Go K l m_Mo_givesOut 133 [(0, p_r v0), (1, p_i v1), (2, p_i v2), (3, p_i v3), (4, p_i v4), (5, p_i v5)] [] s6 _
      refine g_iconst (dk_Mo_givesOut 73 rfl) (by decide) ?_
      cases h
      exact g_ret rfl rfl (dk_Mo_givesOut 74 rfl) (fun _ => ⟨_, rfl, Or.inl rfl⟩)
  · have h := p_ifF b4 h
    refine g_aload_n (i := 0) (j := 0) (dk_Mo_givesOut 21 rfl) rfl rfl ?_
    refine g_iload_n (i := 1) (j := 1) (dk_Mo_givesOut 22 rfl) rfl rfl ?_
    refine g_iload (j := 5) (dk_Mo_givesOut 23 rfl) rfl ?_
    obtain ⟨r14, s10, q11, h⟩ := p_bdE h
    have t12 := tF_Mo_follow K l v0 v1 v5 s0 _ q11
    refine g_callV (a := v0) (ci := 11) (q0 := (RX11, TX11, 90)) (As := [p_i v1, p_i v5]) (rest := []) [p_i r14] mt_Mo_follow rfl rfl tw_8_112 ts_82 tw_8_110 ⟨Nat.le_of_ble_eq_true rfl, Nat.le_of_ble_eq_true rfl⟩ rfl (Nat.le_of_ble_eq_true rfl) (dk_Mo_givesOut 24 rfl) rfl c1 rfl t12 ?_
    have hs13 : p_x s0 s10 := t12.1
    show p_Go K l m_Mo_givesOut 43 [(0, p_r v0), (1, p_i v1), (2, p_i v2), (3, p_i v3), (4, p_i v4), (5, p_i v5)] [p_i r14] s10 _
    refine g_istore [(4, p_i r14), (0, p_r v0), (1, p_i v1), (2, p_i v2), (3, p_i v3), (5, p_i v5)] (dk_Mo_givesOut 25 rfl) (by decide) rfl ?_
    refine g_iload (j := 0) (dk_Mo_givesOut 26 rfl) rfl ?_
    refine g_if_ne 71 (dk_Mo_givesOut 27 rfl) (by decide) (fun b15 => ?_) (fun b15 => ?_)
    · have h := p_ifT b15 h
      refine g_sub [(0, p_r v0), (1, p_i v1), (2, p_i v2), (3, p_i v3), (4, p_i r14), (5, p_i v5)] [1, 2, 3, 4, 0, 5] rfl ?_
      exact tB_Mo_givesOut_71 K l k25 hk25 v0 v1 v2 v3 r14 v5 s10 _ h
    · have h := p_ifF b15 h
      refine g_aload_n (i := 0) (j := 1) (dk_Mo_givesOut 28 rfl) rfl rfl ?_
      refine g_getR fl_Mo_16 (Or.inr ⟨_, rfl⟩) (dk_Mo_givesOut 29 rfl) (c1.up hs13) ?_
      refine g_aload_n (i := 0) (j := 1) (dk_Mo_givesOut 30 rfl) rfl rfl ?_
      refine g_aload_n (i := 0) (j := 1) (dk_Mo_givesOut 31 rfl) rfl rfl ?_
      refine g_getI fl_Mo_385 (Or.inl rfl) (dk_Mo_givesOut 32 rfl) (c1.up hs13) ?_
      obtain ⟨r20, s16, q17, h⟩ := p_bdE h
      have t18 := tF_Mo_g K l v0 (p_Z s10 v0 73) s10 _ q17
      refine g_callV (a := v0) (ci := 11) (q0 := (RX11, TX11, 90)) (As := [p_i (p_Z s10 v0 73)]) (rest := [p_r (p_R s10 v0 5)]) [p_i r20, p_r (p_R s10 v0 5)] mt_Mo_g rfl rfl tw_7_84 ts_45 tw_7_82 ⟨Nat.le_of_ble_eq_true rfl, Nat.le_of_ble_eq_true rfl⟩ rfl (Nat.le_of_ble_eq_true rfl) (dk_Mo_givesOut 33 rfl) rfl (c1.up hs13) rfl t18 ?_
      have hs19 : p_x s10 s16 := t18.1
      show p_Go K l m_Mo_givesOut 62 [(4, p_i r14), (0, p_r v0), (1, p_i v1), (2, p_i v2), (3, p_i v3), (5, p_i v5)] [p_i r20, p_r (p_R s10 v0 5)] s16 _
      obtain ⟨c21, h⟩ := p_gdE h
      obtain ⟨c22, h⟩ := p_gdE h
      refine g_iaload (dk_Mo_givesOut 34 rfl) c21 c22.1 c22.2 ?_
      refine g_bipush (dk_Mo_givesOut 35 rfl) (by decide +kernel) (by decide) ?_
      refine g_icmp_eq 71 (dk_Mo_givesOut 36 rfl) (by decide) (fun b23 => ?_) (fun b23 => ?_)
      · have h := p_ifT b23 h
        refine g_sub [(0, p_r v0), (1, p_i v1), (2, p_i v2), (3, p_i v3), (4, p_i r14), (5, p_i v5)] [1, 2, 3, 4, 0, 5] rfl ?_
        exact tB_Mo_givesOut_71 K l k25 hk25 v0 v1 v2 v3 r14 v5 s16 _ h
      · have h := p_ifF b23 h
        refine g_iconst (dk_Mo_givesOut 37 rfl) (by decide) ?_
        refine g_istore [(4, p_i 2), (0, p_r v0), (1, p_i v1), (2, p_i v2), (3, p_i v3), (5, p_i v5)] (dk_Mo_givesOut 38 rfl) (by decide) rfl ?_
        refine g_sub [(0, p_r v0), (1, p_i v1), (2, p_i v2), (3, p_i v3), (4, p_i 2), (5, p_i v5)] [1, 2, 3, 4, 0, 5] rfl ?_
        exact tB_Mo_givesOut_71 K l k25 hk25 v0 v1 v2 v3 2 v5 s16 _ h
set_option maxRecDepth 100000 in
set_option maxHeartbeats 4000000 in
theorem tO_Mo_givesOut_25 (K : p_K) (l : Launch)  : ∀ (n : Nat) (v0 : Nat) (v1 : Int) (v2 : Int) (v3 : Int) (v4 : Int) (v5 : Int) (s0 : p_Hp) (r : (Int × p_Hp)), O_Mo_givesOut_25 n v0 v1 v2 v3 v4 v5 s0 = some r → p_Go K l m_Mo_givesOut 25 [(0, p_r v0), (1, p_i v1), (2, p_i v2), (3, p_i v3), (4, p_i v4), (5, p_i v5)] [] s0 (some (p_i r.1), r.2) := by
  intro n
  induction n with
  | zero => intro v0 v1 v2 v3 v4 v5 s0 r h; cases (show (none : Option (Int × p_Hp)) = some r from h)
  | succ n ih => intro v0 v1 v2 v3 v4 v5 s0 r h; exact tL_Mo_givesOut_25 K l _ ih v0 v1 v2 v3 v4 v5 s0 r h
set_option maxRecDepth 100000 in
set_option maxHeartbeats 4000000 in
theorem tB_Mo_givesOut_20 (K : p_K) (l : Launch)  (v0 : Nat) (v1 : Int) (v2 : Int) (v3 : Int) (w0 : Int) (s0 : p_Hp) (r : (Int × p_Hp)) (h : B_Mo_givesOut_20 v0 v1 v2 v3 w0 s0 = some r) : p_Go K l m_Mo_givesOut 20 [(0, p_r v0), (1, p_i v1), (2, p_i v2), (3, p_i v3)] [p_i w0] s0 (some (p_i r.1), r.2) := by
  unfold B_Mo_givesOut_20 at h
  refine g_istore [(4, p_i w0), (0, p_r v0), (1, p_i v1), (2, p_i v2), (3, p_i v3)] (dk_Mo_givesOut 12 rfl) (by decide) rfl ?_
  refine g_iconst (dk_Mo_givesOut 13 rfl) (by decide) ?_
  refine g_istore [(5, p_i 0), (4, p_i w0), (0, p_r v0), (1, p_i v1), (2, p_i v2), (3, p_i v3)] (dk_Mo_givesOut 14 rfl) (by decide) rfl ?_
  refine g_sub [(0, p_r v0), (1, p_i v1), (2, p_i v2), (3, p_i v3), (4, p_i w0), (5, p_i 0)] [2, 3, 4, 5, 1, 0] rfl ?_
  exact tO_Mo_givesOut_25 K l 3000 v0 v1 v2 v3 w0 0 s0 _ h
set_option maxRecDepth 100000 in
set_option maxHeartbeats 4000000 in
theorem tF_Mo_givesOut (K : p_K) (l : Launch) (v0 : Nat) (v1 : Int) (v2 : Int) (s0 : p_Hp) (r : (Int × p_Hp)) (h : F_Mo_givesOut v0 v1 v2 s0 = some r) : p_Ct K l m_Mo_givesOut [p_r v0, p_i v1, p_i v2] s0 (some (p_i r.1), r.2) := by
  refine p_Ct.of (by decide +kernel) (Nat.le_of_ble_eq_true rfl) ?_
  unfold F_Mo_givesOut at h
  show p_Go K l m_Mo_givesOut 0 [(0, p_r v0), (1, p_i v1), (2, p_i v2)] [] s0 _
  refine g_aload_n (i := 0) (j := 0) (dk_Mo_givesOut 0 rfl) rfl rfl ?_
  refine g_iload_n (i := 1) (j := 1) (dk_Mo_givesOut 1 rfl) rfl rfl ?_
  obtain ⟨c1, h⟩ := p_gdE h
  obtain ⟨r6, s2, q3, h⟩ := p_bdE h
  have t4 := tF_Mo_g K l v0 v1 s0 _ q3
  refine g_callV (a := v0) (ci := 11) (q0 := (RX11, TX11, 90)) (As := [p_i v1]) (rest := []) [p_i r6] mt_Mo_g rfl rfl tw_7_84 ts_45 tw_7_82 ⟨Nat.le_of_ble_eq_true rfl, Nat.le_of_ble_eq_true rfl⟩ rfl (Nat.le_of_ble_eq_true rfl) (dk_Mo_givesOut 2 rfl) rfl c1 rfl t4 ?_
  have hs5 : p_x s0 s2 := t4.1
  show p_Go K l m_Mo_givesOut 5 [(0, p_r v0), (1, p_i v1), (2, p_i v2)] [p_i r6] s2 _
  refine g_istore_n (i := 3) [(3, p_i r6), (0, p_r v0), (1, p_i v1), (2, p_i v2)] (dk_Mo_givesOut 3 rfl) rfl (by decide) rfl ?_
  refine g_aload_n (i := 0) (j := 1) (dk_Mo_givesOut 4 rfl) rfl rfl ?_
  refine g_getR fl_Mo_22 (Or.inr ⟨_, rfl⟩) (dk_Mo_givesOut 5 rfl) (c1.up hs5) ?_
  refine g_iload_n (i := 3) (j := 0) (dk_Mo_givesOut 6 rfl) rfl rfl ?_
  obtain ⟨c7, h⟩ := p_gdE h
  obtain ⟨c8, h⟩ := p_gdE h
  refine g_iaload (dk_Mo_givesOut 7 rfl) c7 c8.1 c8.2 ?_
  refine g_if_ge 19 (dk_Mo_givesOut 8 rfl) (by decide) (fun b9 => ?_) (fun b9 => ?_)
  · have h := p_ifT b9 h
    refine g_iconst (dk_Mo_givesOut 11 rfl) (by decide) ?_
    refine g_sub [(0, p_r v0), (1, p_i v1), (2, p_i v2), (3, p_i r6)] [1, 2, 3, 0] rfl ?_
    exact tB_Mo_givesOut_20 K l v0 v1 v2 r6 0 s2 _ h
  · have h := p_ifF b9 h
    refine g_iconst (dk_Mo_givesOut 9 rfl) (by decide) ?_
    refine g_goto 20 (dk_Mo_givesOut 10 rfl) (by decide) ?_
    refine g_sub [(0, p_r v0), (1, p_i v1), (2, p_i v2), (3, p_i r6)] [1, 2, 3, 0] rfl ?_
    exact tB_Mo_givesOut_20 K l v0 v1 v2 r6 1 s2 _ h
def m_Mo_quotientOf : p_Me := (⟨"SortWorksModel", "quotientOf", "(I)I"⟩, prog_13_method_70_code, 5, (some .int), 3, 69)
theorem mt_Mo_quotientOf : p_Mt m_Mo_quotientOf 1 := ⟨p_mem (p_tb8 (List.mem_of_getElem? (i := 153) rfl)) rfl, tw_1_12, by decide +kernel, by decide +kernel, by decide +kernel⟩
def dt_Mo_quotientOf : List (Nat × Instr × Nat) := [(0, .iload_n 1, 1), (1, .bipush 39, 2), (3, .if_icmp .le 5, 3), (6, .iconst 3, 1), (7, .ireturn, 1), (8, .aload_n 0, 1), (9, .iload_n 1, 1), (10, .invokevirtual 267, 3), (13, .ifCond .eq 5, 3), (16, .iconst 1, 1), (17, .ireturn, 1), (18, .aload_n 0, 1), (19, .iload_n 1, 1), (20, .invokevirtual 257, 3), (23, .istore_n 2, 1), (24, .aload_n 0, 1), (25, .getfield 16, 3), (28, .iload_n 2, 1), (29, .iaload, 1), (30, .invokestatic 342, 3), (33, .ifCond .ne 5, 3), (36, .iconst 2, 1), (37, .ireturn, 1), (38, .iconst 0, 1), (39, .istore_n 3, 1), (40, .iconst 0, 1), (41, .istore 4, 2), (43, .iload 4, 2), (45, .aload_n 0, 1), (46, .getfield 22, 3), (49, .iload_n 2, 1), (50, .iaload, 1), (51, .if_icmp .ge 61, 3), (54, .iload_n 3, 1), (55, .aload_n 0, 1), (56, .iload_n 1, 1), (57, .iload 4, 2), (59, .invokevirtual 388, 3), (62, .ifCond .ne 41, 3), (65, .aload_n 0, 1), (66, .getfield 16, 3), (69, .aload_n 0, 1), (70, .aload_n 0, 1), (71, .getfield 385, 3), (74, .invokevirtual 257, 3), (77, .iaload, 1), (78, .bipush 9, 2), (80, .if_icmp .ne 23, 3), (83, .aload_n 0, 1), (84, .getfield 44, 3), (87, .aload_n 0, 1), (88, .aload_n 0, 1), (89, .getfield 385, 3), (92, .invokevirtual 257, 3), (95, .baload, 1), (96, .ifCond .eq 7, 3), (99, .iconst 1, 1), (100, .goto 4, 3), (103, .iconst 0, 1), (104, .iadd, 1), (105, .istore_n 3, 1), (106, .iinc 4 1, 3), (109, .goto (-66), 3), (112, .iload_n 3, 1), (113, .ifCond .ne 6, 3), (116, .bipush 6, 2), (118, .ireturn, 1), (119, .aload_n 0, 1), (120, .aload_n 0, 1), (121, .iload_n 2, 1), (122, .invokevirtual 282, 3), (125, .iload_n 3, 1), (126, .idiv, 1), (127, .putfield 429, 3), (130, .iconst 0, 1), (131, .ireturn, 1)]
theorem dk_Mo_quotientOf (i : Nat) {pc : Nat} {ins : Instr} {len : Nat} (h : dt_Mo_quotientOf[i]? = some (pc, ins, len)) : decode m_Mo_quotientOf.2.1 pc = .ok (ins, len) := p_dk (b := m_Mo_quotientOf.2.1) (t := dt_Mo_quotientOf) (by decide +kernel) i h
def B_Mo_quotientOf_104 (k43 : Nat → Int → Int → Int → Int → p_Hp → Option (Int × p_Hp)) (v0 : Nat) (v1 : Int) (v2 : Int) (v4 : Int) (w0 : Int) (w1 : Int) (s0 : p_Hp) : Option (Int × p_Hp) :=
  p_bi ((p_w (w1 + w0))) fun x1 =>
  p_bi (p_w (v4 + 1)) fun x2 =>
  k43 v0 v1 v2 x1 x2 s0
def B_Mo_quotientOf_103 (k43 : Nat → Int → Int → Int → Int → p_Hp → Option (Int × p_Hp)) (v0 : Nat) (v1 : Int) (v2 : Int) (v4 : Int) (w0 : Int) (s0 : p_Hp) : Option (Int × p_Hp) :=
  B_Mo_quotientOf_104 k43 v0 v1 v2 v4 0 w0 s0
def L_Mo_quotientOf_43 (k43 : Nat → Int → Int → Int → Int → p_Hp → Option (Int × p_Hp)) (v0 : Nat) (v1 : Int) (v2 : Int) (v3 : Int) (v4 : Int) (s0 : p_Hp) : Option (Int × p_Hp) :=
  p_gd (p_is s0 v0 11) <|
  p_gd (p_is s0 (p_R s0 v0 7) 100) <|
  p_gd ((0 : Int) ≤ v2 ∧ v2 < (p_L s0 (p_R s0 v0 7) : Int)) <|
  if (p_Z s0 (p_R s0 v0 7) (v2 : Int).toNat) ≤ v4 then
    if v3 ≠ 0 then
      p_bd (F_Mo_loadOf v0 v2 s0) fun r10 s6 =>
      p_gd (v3 ≠ 0) <|
      p_bi (p_wZ s6 v0 80 (p_div r10 v3)) fun s12 =>
      some (0, s12)
    else
      some (6, s0)
  else
    p_bd (F_Mo_follow v0 v1 v4 s0) fun r18 s14 =>
    if r18 ≠ 0 then
      B_Mo_quotientOf_103 k43 v0 v1 v2 v4 v3 s14
    else
      p_bd (F_Mo_g v0 (p_Z s14 v0 73) s14) fun r24 s20 =>
      p_gd (p_is s20 (p_R s14 v0 5) 100) <|
      p_gd ((0 : Int) ≤ r24 ∧ r24 < (p_L s20 (p_R s14 v0 5) : Int)) <|
      if (p_Z s20 (p_R s14 v0 5) (r24 : Int).toNat) ≠ 9 then
        B_Mo_quotientOf_103 k43 v0 v1 v2 v4 v3 s20
      else
        p_bd (F_Mo_g v0 (p_Z s20 v0 73) s20) fun r32 s28 =>
        p_gd (p_is s28 (p_R s20 v0 14) 102) <|
        p_gd ((0 : Int) ≤ r32 ∧ r32 < (p_L s28 (p_R s20 v0 14) : Int)) <|
        if (p_Z s28 (p_R s20 v0 14) (r32 : Int).toNat) = 0 then
          B_Mo_quotientOf_103 k43 v0 v1 v2 v4 v3 s28
        else
          B_Mo_quotientOf_104 k43 v0 v1 v2 v4 1 v3 s28
def O_Mo_quotientOf_43  : Nat → Nat → Int → Int → Int → Int → p_Hp → Option (Int × p_Hp)
  | 0 => fun _ _ _ _ _ _ => none
  | n + 1 => L_Mo_quotientOf_43 (O_Mo_quotientOf_43 n)
def F_Mo_quotientOf (v0 : Nat) (v1 : Int) (s0 : p_Hp) : Option (Int × p_Hp) :=
  if v1 ≤ 39 then
    p_gd (p_is s0 v0 11) <|
    p_bd (F_Mo_noGear v0 v1 s0) fun r7 s3 =>
    if r7 = 0 then
      p_bd (F_Mo_g v0 v1 s3) fun r13 s9 =>
      p_gd (p_is s9 (p_R s9 v0 5) 100) <|
      p_gd ((0 : Int) ≤ r13 ∧ r13 < (p_L s9 (p_R s9 v0 5) : Int)) <|
      p_bd (F_Mo_isChute (p_Z s9 (p_R s9 v0 5) (r13 : Int).toNat) s9) fun r20 s16 =>
      if r20 ≠ 0 then
        O_Mo_quotientOf_43 3000 v0 v1 r13 0 0 s16
      else
        some (2, s16)
    else
      some (1, s3)
  else
    some (3, s0)
set_option maxRecDepth 100000 in
set_option maxHeartbeats 4000000 in
theorem tB_Mo_quotientOf_104 (K : p_K) (l : Launch) (k43 : Nat → Int → Int → Int → Int → p_Hp → Option (Int × p_Hp)) (hk43 : ∀ (v0 : Nat) (v1 : Int) (v2 : Int) (v3 : Int) (v4 : Int)  (s0 : p_Hp) (r : (Int × p_Hp)), k43 v0 v1 v2 v3 v4 s0 = some r → p_Go K l m_Mo_quotientOf 43 [(0, p_r v0), (1, p_i v1), (2, p_i v2), (3, p_i v3), (4, p_i v4)] [] s0 (some (p_i r.1), r.2)) (v0 : Nat) (v1 : Int) (v2 : Int) (v4 : Int) (w0 : Int) (w1 : Int) (s0 : p_Hp) (r : (Int × p_Hp)) (h : B_Mo_quotientOf_104 k43 v0 v1 v2 v4 w0 w1 s0 = some r) : p_Go K l m_Mo_quotientOf 104 [(0, p_r v0), (1, p_i v1), (2, p_i v2), (4, p_i v4)] [p_i w0, p_i w1] s0 (some (p_i r.1), r.2) := by
  unfold B_Mo_quotientOf_104 at h
  refine g_iadd (dk_Mo_quotientOf 59 rfl) ?_
  refine g_istore_n (i := 3) [(3, p_i (p_w (w1 + w0))), (0, p_r v0), (1, p_i v1), (2, p_i v2), (4, p_i v4)] (dk_Mo_quotientOf 60 rfl) rfl (by decide) rfl ?_
  refine p_ltG (P := fun q => p_Go K l m_Mo_quotientOf 106 [(3, p_i q), (0, p_r v0), (1, p_i v1), (2, p_i v2), (4, p_i v4)] [] s0 _) ?_ h
  intro x1 h
  refine g_iinc (j := 4) [(4, p_i (p_w (v4 + 1))), (3, p_i x1), (0, p_r v0), (1, p_i v1), (2, p_i v2)] (dk_Mo_quotientOf 61 rfl) rfl (by decide) rfl ?_
  refine p_ltG (P := fun q => p_Go K l m_Mo_quotientOf 109 [(4, p_i q), (3, p_i x1), (0, p_r v0), (1, p_i v1), (2, p_i v2)] [] s0 _) ?_ h
  intro x2 h
  refine g_goto 43 (dk_Mo_quotientOf 62 rfl) (by decide) ?_
  refine g_sub [(0, p_r v0), (1, p_i v1), (2, p_i v2), (3, p_i x1), (4, p_i x2)] [2, 3, 4, 1, 0] rfl ?_
  exact hk43 v0 v1 v2 x1 x2 s0 _ h
set_option maxRecDepth 100000 in
set_option maxHeartbeats 4000000 in
theorem tB_Mo_quotientOf_103 (K : p_K) (l : Launch) (k43 : Nat → Int → Int → Int → Int → p_Hp → Option (Int × p_Hp)) (hk43 : ∀ (v0 : Nat) (v1 : Int) (v2 : Int) (v3 : Int) (v4 : Int)  (s0 : p_Hp) (r : (Int × p_Hp)), k43 v0 v1 v2 v3 v4 s0 = some r → p_Go K l m_Mo_quotientOf 43 [(0, p_r v0), (1, p_i v1), (2, p_i v2), (3, p_i v3), (4, p_i v4)] [] s0 (some (p_i r.1), r.2)) (v0 : Nat) (v1 : Int) (v2 : Int) (v4 : Int) (w0 : Int) (s0 : p_Hp) (r : (Int × p_Hp)) (h : B_Mo_quotientOf_103 k43 v0 v1 v2 v4 w0 s0 = some r) : p_Go K l m_Mo_quotientOf 103 [(0, p_r v0), (1, p_i v1), (2, p_i v2), (4, p_i v4)] [p_i w0] s0 (some (p_i r.1), r.2) := by
  unfold B_Mo_quotientOf_103 at h
  refine g_iconst (dk_Mo_quotientOf 58 rfl) (by decide) ?_
  exact tB_Mo_quotientOf_104 K l k43 hk43 v0 v1 v2 v4 0 w0 s0 _ h
set_option maxRecDepth 100000 in
set_option maxHeartbeats 4000000 in
theorem tL_Mo_quotientOf_43 (K : p_K) (l : Launch) (k43 : Nat → Int → Int → Int → Int → p_Hp → Option (Int × p_Hp)) (hk43 : ∀ (v0 : Nat) (v1 : Int) (v2 : Int) (v3 : Int) (v4 : Int)  (s0 : p_Hp) (r : (Int × p_Hp)), k43 v0 v1 v2 v3 v4 s0 = some r → p_Go K l m_Mo_quotientOf 43 [(0, p_r v0), (1, p_i v1), (2, p_i v2), (3, p_i v3), (4, p_i v4)] [] s0 (some (p_i r.1), r.2)) (v0 : Nat) (v1 : Int) (v2 : Int) (v3 : Int) (v4 : Int) (s0 : p_Hp) (r : (Int × p_Hp)) (h : L_Mo_quotientOf_43 k43 v0 v1 v2 v3 v4 s0 = some r) : p_Go K l m_Mo_quotientOf 43 [(0, p_r v0), (1, p_i v1), (2, p_i v2), (3, p_i v3), (4, p_i v4)] [] s0 (some (p_i r.1), r.2) := by
  unfold L_Mo_quotientOf_43 at h
  refine g_iload (j := 4) (dk_Mo_quotientOf 27 rfl) rfl ?_
  refine g_aload_n (i := 0) (j := 0) (dk_Mo_quotientOf 28 rfl) rfl rfl ?_
  obtain ⟨c1, h⟩ := p_gdE h
  refine g_getR fl_Mo_22 (Or.inr ⟨_, rfl⟩) (dk_Mo_quotientOf 29 rfl) c1 ?_
  refine g_iload_n (i := 2) (j := 2) (dk_Mo_quotientOf 30 rfl) rfl rfl ?_
  obtain ⟨c2, h⟩ := p_gdE h
  obtain ⟨c3, h⟩ := p_gdE h
  refine g_iaload (dk_Mo_quotientOf 31 rfl) c2 c3.1 c3.2 ?_
  refine g_icmp_ge 112 (dk_Mo_quotientOf 32 rfl) (by decide) (fun b4 => ?_) (fun b4 => ?_)
  · have h := p_ifT b4 h
    refine g_iload_n (i := 3) (j := 3) (dk_Mo_quotientOf 63 rfl) rfl rfl ?_
    refine g_if_ne 119 (dk_Mo_quotientOf 64 rfl) (by decide) (fun b5 => ?_) (fun b5 => ?_)
    · have h := p_ifT b5 h
      refine g_aload_n (i := 0) (j := 0) (dk_Mo_quotientOf 67 rfl) rfl rfl ?_
      refine g_aload_n (i := 0) (j := 0) (dk_Mo_quotientOf 68 rfl) rfl rfl ?_
      refine g_iload_n (i := 2) (j := 2) (dk_Mo_quotientOf 69 rfl) rfl rfl ?_
      obtain ⟨r10, s6, q7, h⟩ := p_bdE h
      have t8 := tF_Mo_loadOf K l v0 v2 s0 _ q7
      refine g_callV (a := v0) (ci := 11) (q0 := (RX11, TX11, 90)) (As := [p_i v2]) (rest := [p_r v0]) [p_i r10, p_r v0] mt_Mo_loadOf rfl rfl tw_7_136 ts_50 tw_7_134 ⟨Nat.le_of_ble_eq_true rfl, Nat.le_of_ble_eq_true rfl⟩ rfl (Nat.le_of_ble_eq_true rfl) (dk_Mo_quotientOf 70 rfl) rfl c1 rfl t8 ?_
      have hs9 : p_x s0 s6 := t8.1
      show p_Go K l m_Mo_quotientOf 125 [(0, p_r v0), (1, p_i v1), (2, p_i v2), (3, p_i v3), (4, p_i v4)] [p_i r10, p_r v0] s6 _
      refine g_iload_n (i := 3) (j := 3) (dk_Mo_quotientOf 71 rfl) rfl rfl ?_
      obtain ⟨c11, h⟩ := p_gdE h
      refine g_idiv (dk_Mo_quotientOf 72 rfl) c11 ?_
      refine g_putI fl_Mo_429 (Or.inl rfl) (dk_Mo_quotientOf 73 rfl) (c1.up hs9) ?_
      refine p_ltS (P := fun q => p_Go K l m_Mo_quotientOf 130 [(0, p_r v0), (1, p_i v1), (2, p_i v2), (3, p_i v3), (4, p_i v4)] [] q _) (p_xZ _ _ _ _) ?_ h
      intro s12 hs13 h
      refine g_iconst (dk_Mo_quotientOf 74 rfl) (by decide) ?_
      cases h
      exact g_ret rfl rfl (dk_Mo_quotientOf 75 rfl) (fun os => ⟨_, rfl, p_okh os⟩)
    · have h := p_ifF b5 h
      refine g_bipush (dk_Mo_quotientOf 65 rfl) (by decide +kernel) (by decide) ?_
      cases h
      exact g_ret rfl rfl (dk_Mo_quotientOf 66 rfl) (fun os => ⟨_, rfl, p_okh os⟩)
  · have h := p_ifF b4 h
    refine g_iload_n (i := 3) (j := 3) (dk_Mo_quotientOf 33 rfl) rfl rfl ?_
    refine g_aload_n (i := 0) (j := 0) (dk_Mo_quotientOf 34 rfl) rfl rfl ?_
    refine g_iload_n (i := 1) (j := 1) (dk_Mo_quotientOf 35 rfl) rfl rfl ?_
    refine g_iload (j := 4) (dk_Mo_quotientOf 36 rfl) rfl ?_
    obtain ⟨r18, s14, q15, h⟩ := p_bdE h
    have t16 := tF_Mo_follow K l v0 v1 v4 s0 _ q15
    refine g_callV (a := v0) (ci := 11) (q0 := (RX11, TX11, 90)) (As := [p_i v1, p_i v4]) (rest := [p_i v3]) [p_i r18, p_i v3] mt_Mo_follow rfl rfl tw_8_112 ts_82 tw_8_110 ⟨Nat.le_of_ble_eq_true rfl, Nat.le_of_ble_eq_true rfl⟩ rfl (Nat.le_of_ble_eq_true rfl) (dk_Mo_quotientOf 37 rfl) rfl c1 rfl t16 ?_
    have hs17 : p_x s0 s14 := t16.1
    show p_Go K l m_Mo_quotientOf 62 [(0, p_r v0), (1, p_i v1), (2, p_i v2), (3, p_i v3), (4, p_i v4)] [p_i r18, p_i v3] s14 _
    refine g_if_ne 103 (dk_Mo_quotientOf 38 rfl) (by decide) (fun b19 => ?_) (fun b19 => ?_)
    · have h := p_ifT b19 h
      refine g_sub [(0, p_r v0), (1, p_i v1), (2, p_i v2), (4, p_i v4)] [0, 1, 2, 4] rfl ?_
      exact tB_Mo_quotientOf_103 K l k43 hk43 v0 v1 v2 v4 v3 s14 _ h
    · have h := p_ifF b19 h
      refine g_aload_n (i := 0) (j := 0) (dk_Mo_quotientOf 39 rfl) rfl rfl ?_
      refine g_getR fl_Mo_16 (Or.inr ⟨_, rfl⟩) (dk_Mo_quotientOf 40 rfl) (c1.up hs17) ?_
      refine g_aload_n (i := 0) (j := 0) (dk_Mo_quotientOf 41 rfl) rfl rfl ?_
      refine g_aload_n (i := 0) (j := 0) (dk_Mo_quotientOf 42 rfl) rfl rfl ?_
      refine g_getI fl_Mo_385 (Or.inl rfl) (dk_Mo_quotientOf 43 rfl) (c1.up hs17) ?_
      obtain ⟨r24, s20, q21, h⟩ := p_bdE h
      have t22 := tF_Mo_g K l v0 (p_Z s14 v0 73) s14 _ q21
      refine g_callV (a := v0) (ci := 11) (q0 := (RX11, TX11, 90)) (As := [p_i (p_Z s14 v0 73)]) (rest := [p_r (p_R s14 v0 5), p_i v3]) [p_i r24, p_r (p_R s14 v0 5), p_i v3] mt_Mo_g rfl rfl tw_7_84 ts_45 tw_7_82 ⟨Nat.le_of_ble_eq_true rfl, Nat.le_of_ble_eq_true rfl⟩ rfl (Nat.le_of_ble_eq_true rfl) (dk_Mo_quotientOf 44 rfl) rfl (c1.up hs17) rfl t22 ?_
      have hs23 : p_x s14 s20 := t22.1
      show p_Go K l m_Mo_quotientOf 77 [(0, p_r v0), (1, p_i v1), (2, p_i v2), (3, p_i v3), (4, p_i v4)] [p_i r24, p_r (p_R s14 v0 5), p_i v3] s20 _
      obtain ⟨c25, h⟩ := p_gdE h
      obtain ⟨c26, h⟩ := p_gdE h
      refine g_iaload (dk_Mo_quotientOf 45 rfl) c25 c26.1 c26.2 ?_
      refine g_bipush (dk_Mo_quotientOf 46 rfl) (by decide +kernel) (by decide) ?_
      refine g_icmp_ne 103 (dk_Mo_quotientOf 47 rfl) (by decide) (fun b27 => ?_) (fun b27 => ?_)
      · have h := p_ifT b27 h
        refine g_sub [(0, p_r v0), (1, p_i v1), (2, p_i v2), (4, p_i v4)] [0, 1, 2, 4] rfl ?_
        exact tB_Mo_quotientOf_103 K l k43 hk43 v0 v1 v2 v4 v3 s20 _ h
      · have h := p_ifF b27 h
        refine g_aload_n (i := 0) (j := 0) (dk_Mo_quotientOf 48 rfl) rfl rfl ?_
        refine g_getR fl_Mo_44 (Or.inr ⟨_, rfl⟩) (dk_Mo_quotientOf 49 rfl) (c1.up (hs17.trans hs23)) ?_
        refine g_aload_n (i := 0) (j := 0) (dk_Mo_quotientOf 50 rfl) rfl rfl ?_
        refine g_aload_n (i := 0) (j := 0) (dk_Mo_quotientOf 51 rfl) rfl rfl ?_
        refine g_getI fl_Mo_385 (Or.inl rfl) (dk_Mo_quotientOf 52 rfl) (c1.up (hs17.trans hs23)) ?_
        obtain ⟨r32, s28, q29, h⟩ := p_bdE h
        have t30 := tF_Mo_g K l v0 (p_Z s20 v0 73) s20 _ q29
        refine g_callV (a := v0) (ci := 11) (q0 := (RX11, TX11, 90)) (As := [p_i (p_Z s20 v0 73)]) (rest := [p_r (p_R s20 v0 14), p_i v3]) [p_i r32, p_r (p_R s20 v0 14), p_i v3] mt_Mo_g rfl rfl tw_7_84 ts_45 tw_7_82 ⟨Nat.le_of_ble_eq_true rfl, Nat.le_of_ble_eq_true rfl⟩ rfl (Nat.le_of_ble_eq_true rfl) (dk_Mo_quotientOf 53 rfl) rfl (c1.up (hs17.trans hs23)) rfl t30 ?_
        have hs31 : p_x s20 s28 := t30.1
        show p_Go K l m_Mo_quotientOf 95 [(0, p_r v0), (1, p_i v1), (2, p_i v2), (3, p_i v3), (4, p_i v4)] [p_i r32, p_r (p_R s20 v0 14), p_i v3] s28 _
        obtain ⟨c33, h⟩ := p_gdE h
        obtain ⟨c34, h⟩ := p_gdE h
        refine g_baload (dk_Mo_quotientOf 54 rfl) c33 c34.1 c34.2 ?_
        refine g_if_eq 103 (dk_Mo_quotientOf 55 rfl) (by decide) (fun b35 => ?_) (fun b35 => ?_)
        · have h := p_ifT b35 h
          refine g_sub [(0, p_r v0), (1, p_i v1), (2, p_i v2), (4, p_i v4)] [0, 1, 2, 4] rfl ?_
          exact tB_Mo_quotientOf_103 K l k43 hk43 v0 v1 v2 v4 v3 s28 _ h
        · have h := p_ifF b35 h
          refine g_iconst (dk_Mo_quotientOf 56 rfl) (by decide) ?_
          refine g_goto 104 (dk_Mo_quotientOf 57 rfl) (by decide) ?_
          refine g_sub [(0, p_r v0), (1, p_i v1), (2, p_i v2), (4, p_i v4)] [0, 1, 2, 4] rfl ?_
          exact tB_Mo_quotientOf_104 K l k43 hk43 v0 v1 v2 v4 1 v3 s28 _ h
set_option maxRecDepth 100000 in
set_option maxHeartbeats 4000000 in
theorem tO_Mo_quotientOf_43 (K : p_K) (l : Launch)  : ∀ (n : Nat) (v0 : Nat) (v1 : Int) (v2 : Int) (v3 : Int) (v4 : Int) (s0 : p_Hp) (r : (Int × p_Hp)), O_Mo_quotientOf_43 n v0 v1 v2 v3 v4 s0 = some r → p_Go K l m_Mo_quotientOf 43 [(0, p_r v0), (1, p_i v1), (2, p_i v2), (3, p_i v3), (4, p_i v4)] [] s0 (some (p_i r.1), r.2) := by
  intro n
  induction n with
  | zero => intro v0 v1 v2 v3 v4 s0 r h; cases (show (none : Option (Int × p_Hp)) = some r from h)
  | succ n ih => intro v0 v1 v2 v3 v4 s0 r h; exact tL_Mo_quotientOf_43 K l _ ih v0 v1 v2 v3 v4 s0 r h
set_option maxRecDepth 100000 in
set_option maxHeartbeats 4000000 in
theorem tF_Mo_quotientOf (K : p_K) (l : Launch) (v0 : Nat) (v1 : Int) (s0 : p_Hp) (r : (Int × p_Hp)) (h : F_Mo_quotientOf v0 v1 s0 = some r) : p_Ct K l m_Mo_quotientOf [p_r v0, p_i v1] s0 (some (p_i r.1), r.2) := by
  refine p_Ct.of (by decide +kernel) (Nat.le_of_ble_eq_true rfl) ?_
  unfold F_Mo_quotientOf at h
  show p_Go K l m_Mo_quotientOf 0 [(0, p_r v0), (1, p_i v1)] [] s0 _
  refine g_iload_n (i := 1) (j := 1) (dk_Mo_quotientOf 0 rfl) rfl rfl ?_
  refine g_bipush (dk_Mo_quotientOf 1 rfl) (by decide +kernel) (by decide) ?_
  refine g_icmp_le 8 (dk_Mo_quotientOf 2 rfl) (by decide) (fun b1 => ?_) (fun b1 => ?_)
  · have h := p_ifT b1 h
    refine g_aload_n (i := 0) (j := 0) (dk_Mo_quotientOf 5 rfl) rfl rfl ?_
    refine g_iload_n (i := 1) (j := 1) (dk_Mo_quotientOf 6 rfl) rfl rfl ?_
    obtain ⟨c2, h⟩ := p_gdE h
    obtain ⟨r7, s3, q4, h⟩ := p_bdE h
    have t5 := tF_Mo_noGear K l v0 v1 s0 _ q4
    refine g_callV (a := v0) (ci := 11) (q0 := (RX11, TX11, 90)) (As := [p_i v1]) (rest := []) [p_i r7] mt_Mo_noGear rfl rfl tw_7_106 ts_48 tw_7_104 ⟨Nat.le_of_ble_eq_true rfl, Nat.le_of_ble_eq_true rfl⟩ rfl (Nat.le_of_ble_eq_true rfl) (dk_Mo_quotientOf 7 rfl) rfl c2 rfl t5 ?_
    have hs6 : p_x s0 s3 := t5.1
    show p_Go K l m_Mo_quotientOf 13 [(0, p_r v0), (1, p_i v1)] [p_i r7] s3 _
    refine g_if_eq 18 (dk_Mo_quotientOf 8 rfl) (by decide) (fun b8 => ?_) (fun b8 => ?_)
    · have h := p_ifT b8 h
      refine g_aload_n (i := 0) (j := 0) (dk_Mo_quotientOf 11 rfl) rfl rfl ?_
      refine g_iload_n (i := 1) (j := 1) (dk_Mo_quotientOf 12 rfl) rfl rfl ?_
      obtain ⟨r13, s9, q10, h⟩ := p_bdE h
      have t11 := tF_Mo_g K l v0 v1 s3 _ q10
      refine g_callV (a := v0) (ci := 11) (q0 := (RX11, TX11, 90)) (As := [p_i v1]) (rest := []) [p_i r13] mt_Mo_g rfl rfl tw_7_84 ts_45 tw_7_82 ⟨Nat.le_of_ble_eq_true rfl, Nat.le_of_ble_eq_true rfl⟩ rfl (Nat.le_of_ble_eq_true rfl) (dk_Mo_quotientOf 13 rfl) rfl (c2.up hs6) rfl t11 ?_
      have hs12 : p_x s3 s9 := t11.1
      show p_Go K l m_Mo_quotientOf 23 [(0, p_r v0), (1, p_i v1)] [p_i r13] s9 _
      refine g_istore_n (i := 2) [(2, p_i r13), (0, p_r v0), (1, p_i v1)] (dk_Mo_quotientOf 14 rfl) rfl (by decide) rfl ?_
      refine g_aload_n (i := 0) (j := 1) (dk_Mo_quotientOf 15 rfl) rfl rfl ?_
      refine g_getR fl_Mo_16 (Or.inr ⟨_, rfl⟩) (dk_Mo_quotientOf 16 rfl) (c2.up (hs6.trans hs12)) ?_
      refine g_iload_n (i := 2) (j := 0) (dk_Mo_quotientOf 17 rfl) rfl rfl ?_
      obtain ⟨c14, h⟩ := p_gdE h
      obtain ⟨c15, h⟩ := p_gdE h
      refine g_iaload (dk_Mo_quotientOf 18 rfl) c14 c15.1 c15.2 ?_
      obtain ⟨r20, s16, q17, h⟩ := p_bdE h
      have t18 := tF_Mo_isChute K l (p_Z s9 (p_R s9 v0 5) (r13 : Int).toNat) s9 _ q17
      refine g_callS (av := [p_i (p_Z s9 (p_R s9 v0 5) (r13 : Int).toNat)]) (rest := []) [p_i r20] mt_Mo_isChute tw_7_199 tw_7_198 ⟨Nat.le_of_ble_eq_true rfl, Nat.le_of_ble_eq_true rfl⟩ rfl (Nat.le_of_ble_eq_true rfl) (dk_Mo_quotientOf 19 rfl) rfl rfl t18 ?_
      have hs19 : p_x s9 s16 := t18.1
      show p_Go K l m_Mo_quotientOf 33 [(2, p_i r13), (0, p_r v0), (1, p_i v1)] [p_i r20] s16 _
      refine g_if_ne 38 (dk_Mo_quotientOf 20 rfl) (by decide) (fun b21 => ?_) (fun b21 => ?_)
      · have h := p_ifT b21 h
        refine g_iconst (dk_Mo_quotientOf 23 rfl) (by decide) ?_
        refine g_istore_n (i := 3) [(3, p_i 0), (2, p_i r13), (0, p_r v0), (1, p_i v1)] (dk_Mo_quotientOf 24 rfl) rfl (by decide) rfl ?_
        refine g_iconst (dk_Mo_quotientOf 25 rfl) (by decide) ?_
        refine g_istore [(4, p_i 0), (3, p_i 0), (2, p_i r13), (0, p_r v0), (1, p_i v1)] (dk_Mo_quotientOf 26 rfl) (by decide) rfl ?_
        refine g_sub [(0, p_r v0), (1, p_i v1), (2, p_i r13), (3, p_i 0), (4, p_i 0)] [3, 4, 2, 1, 0] rfl ?_
        exact tO_Mo_quotientOf_43 K l 3000 v0 v1 r13 0 0 s16 _ h
      · have h := p_ifF b21 h
        refine g_iconst (dk_Mo_quotientOf 21 rfl) (by decide) ?_
        cases h
        exact g_ret rfl rfl (dk_Mo_quotientOf 22 rfl) (fun os => ⟨_, rfl, p_okh os⟩)
    · have h := p_ifF b8 h
      refine g_iconst (dk_Mo_quotientOf 9 rfl) (by decide) ?_
      cases h
      exact g_ret rfl rfl (dk_Mo_quotientOf 10 rfl) (fun os => ⟨_, rfl, p_okh os⟩)
  · have h := p_ifF b1 h
    refine g_iconst (dk_Mo_quotientOf 3 rfl) (by decide) ?_
    cases h
    exact g_ret rfl rfl (dk_Mo_quotientOf 4 rfl) (fun os => ⟨_, rfl, p_okh os⟩)
def m_Mo_holds : p_Me := (⟨"SortWorksModel", "holds", "(I)Z"⟩, prog_13_method_71_code, 7, (some .boolean), 4, 93)
theorem mt_Mo_holds : p_Mt m_Mo_holds 1 := ⟨p_mem (p_tb8 (List.mem_of_getElem? (i := 149) rfl)) rfl, tw_1_12, by decide +kernel, by decide +kernel, by decide +kernel⟩
def dt_Mo_holds : List (Nat × Instr × Nat) := [(0, .bipush 12, 2), (2, .aload_n 0, 1), (3, .getfield 227, 3), (6, .imul, 1), (7, .iload_n 1, 1), (8, .iadd, 1), (9, .istore_n 2, 1), (10, .iconst 4, 1), (11, .iload_n 2, 1), (12, .imul, 1), (13, .istore_n 3, 1), (14, .iload_n 3, 1), (15, .iconst 4, 1), (16, .iload_n 2, 1), (17, .imul, 1), (18, .aload_n 0, 1), (19, .getfield 147, 3), (22, .iload_n 2, 1), (23, .iaload, 1), (24, .iadd, 1), (25, .if_icmp .ge 195, 3), (28, .aload_n 0, 1), (29, .getfield 153, 3), (32, .iload_n 3, 1), (33, .iaload, 1), (34, .istore 4, 2), (36, .iload 4, 2), (38, .bipush 68, 2), (40, .if_icmp .ne 10, 3), (43, .aload_n 0, 1), (44, .getfield 420, 3), (47, .goto 40, 3), (50, .iload 4, 2), (52, .bipush 87, 2), (54, .if_icmp .ne 10, 3), (57, .aload_n 0, 1), (58, .getfield 423, 3), (61, .goto 26, 3), (64, .iload 4, 2), (66, .bipush 83, 2), (68, .if_icmp .ne 10, 3), (71, .aload_n 0, 1), (72, .getfield 426, 3), (75, .goto 12, 3), (78, .aload_n 0, 1), (79, .getfield 13, 3), (82, .aload_n 0, 1), (83, .getfield 227, 3), (86, .iaload, 1), (87, .istore 5, 2), (89, .iload 4, 2), (91, .bipush 81, 2), (93, .if_icmp .ne 36, 3), (96, .aload_n 0, 1), (97, .aload_n 0, 1), (98, .getfield 156, 3), (101, .iload_n 3, 1), (102, .iaload, 1), (103, .invokevirtual 432, 3), (106, .istore 6, 2), (108, .iload 6, 2), (110, .ifCond .le 13, 3), (113, .aload_n 0, 1), (114, .iconst 3, 1), (115, .iload 6, 2), (117, .iload_n 1, 1), (118, .invokevirtual 395, 3), (121, .iconst 0, 1), (122, .ireturn, 1), (123, .aload_n 0, 1), (124, .getfield 429, 3), (127, .istore 5, 2), (129, .aload_n 0, 1), (130, .getfield 159, 3), (133, .iload_n 3, 1), (134, .iaload, 1), (135, .bipush 60, 2), (137, .if_icmp .ne 22, 3), (140, .iload 5, 2), (142, .aload_n 0, 1), (143, .getfield 162, 3), (146, .iload_n 3, 1), (147, .iaload, 1), (148, .if_icmp .ge 7, 3), (151, .iconst 1, 1), (152, .goto 53, 3), (155, .iconst 0, 1), (156, .goto 49, 3), (159, .aload_n 0, 1), (160, .getfield 159, 3), (163, .iload_n 3, 1), (164, .iaload, 1), (165, .bipush 61, 2), (167, .if_icmp .ne 22, 3), (170, .iload 5, 2), (172, .aload_n 0, 1), (173, .getfield 162, 3), (176, .iload_n 3, 1), (177, .iaload, 1), (178, .if_icmp .ne 7, 3), (181, .iconst 1, 1), (182, .goto 23, 3), (185, .iconst 0, 1), (186, .goto 19, 3), (189, .iload 5, 2), (191, .aload_n 0, 1), (192, .getfield 162, 3), (195, .iload_n 3, 1), (196, .iaload, 1), (197, .if_icmp .le 7, 3), (200, .iconst 1, 1), (201, .goto 4, 3), (204, .iconst 0, 1), (205, .istore 6, 2), (207, .iload 6, 2), (209, .ifCond .ne 5, 3), (212, .iconst 0, 1), (213, .ireturn, 1), (214, .iinc 3 1, 3), (217, .goto (-203), 3), (220, .iconst 1, 1), (221, .ireturn, 1)]
theorem dk_Mo_holds (i : Nat) {pc : Nat} {ins : Instr} {len : Nat} (h : dt_Mo_holds[i]? = some (pc, ins, len)) : decode m_Mo_holds.2.1 pc = .ok (ins, len) := p_dk (b := m_Mo_holds.2.1) (t := dt_Mo_holds) (by decide +kernel) i h
def B_Mo_holds_205 (k14 : Nat → Int → Int → Int → p_Hp → Option (Int × p_Hp)) (v0 : Nat) (v1 : Int) (v2 : Int) (v3 : Int) (w0 : Int) (s0 : p_Hp) : Option (Int × p_Hp) :=
  if w0 ≠ 0 then
    p_bi (p_w (v3 + 1)) fun x2 =>
    k14 v0 v1 v2 x2 s0
  else
    some (0, s0)
def B_Mo_holds_129 (k14 : Nat → Int → Int → Int → p_Hp → Option (Int × p_Hp)) (v0 : Nat) (v1 : Int) (v2 : Int) (v3 : Int) (v5 : Int) (s0 : p_Hp) : Option (Int × p_Hp) :=
  p_gd (p_is s0 v0 11) <|
  p_gd (p_is s0 (p_R s0 v0 54) 100) <|
  p_gd ((0 : Int) ≤ v3 ∧ v3 < (p_L s0 (p_R s0 v0 54) : Int)) <|
  if (p_Z s0 (p_R s0 v0 54) (v3 : Int).toNat) ≠ 60 then
    p_gd ((0 : Int) ≤ v3 ∧ v3 < (p_L s0 (p_R s0 v0 54) : Int)) <|
    if (p_Z s0 (p_R s0 v0 54) (v3 : Int).toNat) ≠ 61 then
      p_gd (p_is s0 (p_R s0 v0 55) 100) <|
      p_gd ((0 : Int) ≤ v3 ∧ v3 < (p_L s0 (p_R s0 v0 55) : Int)) <|
      if v5 ≤ (p_Z s0 (p_R s0 v0 55) (v3 : Int).toNat) then
        B_Mo_holds_205 k14 v0 v1 v2 v3 0 s0
      else
        B_Mo_holds_205 k14 v0 v1 v2 v3 1 s0
    else
      p_gd (p_is s0 (p_R s0 v0 55) 100) <|
      p_gd ((0 : Int) ≤ v3 ∧ v3 < (p_L s0 (p_R s0 v0 55) : Int)) <|
      if v5 ≠ (p_Z s0 (p_R s0 v0 55) (v3 : Int).toNat) then
        B_Mo_holds_205 k14 v0 v1 v2 v3 0 s0
      else
        B_Mo_holds_205 k14 v0 v1 v2 v3 1 s0
  else
    p_gd (p_is s0 (p_R s0 v0 55) 100) <|
    p_gd ((0 : Int) ≤ v3 ∧ v3 < (p_L s0 (p_R s0 v0 55) : Int)) <|
    if (p_Z s0 (p_R s0 v0 55) (v3 : Int).toNat) ≤ v5 then
      B_Mo_holds_205 k14 v0 v1 v2 v3 0 s0
    else
      B_Mo_holds_205 k14 v0 v1 v2 v3 1 s0
def B_Mo_holds_87 (k14 : Nat → Int → Int → Int → p_Hp → Option (Int × p_Hp)) (v0 : Nat) (v1 : Int) (v2 : Int) (v3 : Int) (v4 : Int) (w0 : Int) (s0 : p_Hp) : Option (Int × p_Hp) :=
  if v4 ≠ 81 then
    B_Mo_holds_129 k14 v0 v1 v2 v3 w0 s0
  else
    p_gd (p_is s0 v0 11) <|
    p_gd (p_is s0 (p_R s0 v0 53) 100) <|
    p_gd ((0 : Int) ≤ v3 ∧ v3 < (p_L s0 (p_R s0 v0 53) : Int)) <|
    p_bd (F_Mo_quotientOf v0 (p_Z s0 (p_R s0 v0 53) (v3 : Int).toNat) s0) fun r9 s5 =>
    if r9 ≤ 0 then
      p_bi ((p_Z s5 v0 80)) fun x11 =>
      B_Mo_holds_129 k14 v0 v1 v2 v3 x11 s5
    else
      p_bv (F_Mo_find v0 3 r9 v1 s5) fun s12 =>
      some (0, s12)
def L_Mo_holds_14 (k14 : Nat → Int → Int → Int → p_Hp → Option (Int × p_Hp)) (v0 : Nat) (v1 : Int) (v2 : Int) (v3 : Int) (s0 : p_Hp) : Option (Int × p_Hp) :=
  p_gd (p_is s0 v0 11) <|
  p_gd (p_is s0 (p_R s0 v0 50) 100) <|
  p_gd ((0 : Int) ≤ v2 ∧ v2 < (p_L s0 (p_R s0 v0 50) : Int)) <|
  if (p_w ((p_w (4 * v2)) + (p_Z s0 (p_R s0 v0 50) (v2 : Int).toNat))) ≤ v3 then
    some (1, s0)
  else
    p_gd (p_is s0 (p_R s0 v0 52) 100) <|
    p_gd ((0 : Int) ≤ v3 ∧ v3 < (p_L s0 (p_R s0 v0 52) : Int)) <|
    p_bi ((p_Z s0 (p_R s0 v0 52) (v3 : Int).toNat)) fun x7 =>
    if x7 ≠ 68 then
      if x7 ≠ 87 then
        if x7 ≠ 83 then
          p_gd (p_is s0 (p_R s0 v0 4) 100) <|
          p_gd ((0 : Int) ≤ (p_Z s0 v0 0) ∧ (p_Z s0 v0 0) < (p_L s0 (p_R s0 v0 4) : Int)) <|
          B_Mo_holds_87 k14 v0 v1 v2 v3 x7 (p_Z s0 (p_R s0 v0 4) ((p_Z s0 v0 0) : Int).toNat) s0
        else
          B_Mo_holds_87 k14 v0 v1 v2 v3 x7 (p_Z s0 v0 77) s0
      else
        B_Mo_holds_87 k14 v0 v1 v2 v3 x7 (p_Z s0 v0 76) s0
    else
      B_Mo_holds_87 k14 v0 v1 v2 v3 x7 (p_Z s0 v0 75) s0
def O_Mo_holds_14  : Nat → Nat → Int → Int → Int → p_Hp → Option (Int × p_Hp)
  | 0 => fun _ _ _ _ _ => none
  | n + 1 => L_Mo_holds_14 (O_Mo_holds_14 n)
def F_Mo_holds (v0 : Nat) (v1 : Int) (s0 : p_Hp) : Option (Int × p_Hp) :=
  p_gd (p_is s0 v0 11) <|
  p_bi ((p_w ((p_w (12 * (p_Z s0 v0 0))) + v1))) fun x2 =>
  p_bi ((p_w (4 * x2))) fun x3 =>
  O_Mo_holds_14 3000 v0 v1 x2 x3 s0
set_option maxRecDepth 100000 in
set_option maxHeartbeats 4000000 in
theorem tB_Mo_holds_205 (K : p_K) (l : Launch) (k14 : Nat → Int → Int → Int → p_Hp → Option (Int × p_Hp)) (hk14 : ∀ (v0 : Nat) (v1 : Int) (v2 : Int) (v3 : Int)  (s0 : p_Hp) (r : (Int × p_Hp)), k14 v0 v1 v2 v3 s0 = some r → p_Go K l m_Mo_holds 14 [(0, p_r v0), (1, p_i v1), (2, p_i v2), (3, p_i v3)] [] s0 (some (p_i r.1), r.2)) (v0 : Nat) (v1 : Int) (v2 : Int) (v3 : Int) (w0 : Int) (s0 : p_Hp) (r : (Int × p_Hp)) (h : B_Mo_holds_205 k14 v0 v1 v2 v3 w0 s0 = some r) : p_Go K l m_Mo_holds 205 [(0, p_r v0), (1, p_i v1), (2, p_i v2), (3, p_i v3)] [p_i w0] s0 (some (p_i r.1), r.2) := by
  unfold B_Mo_holds_205 at h
  refine g_istore [(6, p_i w0), (0, p_r v0), (1, p_i v1), (2, p_i v2), (3, p_i v3)] (dk_Mo_holds 113 rfl) (by decide) rfl ?_
  refine g_iload (j := 0) (dk_Mo_holds 114 rfl) rfl ?_
  refine g_if_ne 214 (dk_Mo_holds 115 rfl) (by decide) (fun b1 => ?_) (fun b1 => ?_)
  · have h := p_ifT b1 h
    refine g_iinc (j := 4) [(3, p_i (p_w (v3 + 1))), (6, p_i w0), (0, p_r v0), (1, p_i v1), (2, p_i v2)] (dk_Mo_holds 118 rfl) rfl (by decide) rfl ?_
    refine p_ltG (P := fun q => p_Go K l m_Mo_holds 217 [(3, p_i q), (6, p_i w0), (0, p_r v0), (1, p_i v1), (2, p_i v2)] [] s0 _) ?_ h
    intro x2 h
    refine g_goto 14 (dk_Mo_holds 119 rfl) (by decide) ?_
    refine g_sub [(0, p_r v0), (1, p_i v1), (2, p_i v2), (3, p_i x2)] [2, 3, 4, 0] rfl ?_
    exact hk14 v0 v1 v2 x2 s0 _ h
  · have h := p_ifF b1 h
    refine g_iconst (dk_Mo_holds 116 rfl) (by decide) ?_
    cases h
    exact g_ret rfl rfl (dk_Mo_holds 117 rfl) (fun _ => ⟨_, rfl, Or.inl rfl⟩)
set_option maxRecDepth 100000 in
set_option maxHeartbeats 4000000 in
theorem tB_Mo_holds_129 (K : p_K) (l : Launch) (k14 : Nat → Int → Int → Int → p_Hp → Option (Int × p_Hp)) (hk14 : ∀ (v0 : Nat) (v1 : Int) (v2 : Int) (v3 : Int)  (s0 : p_Hp) (r : (Int × p_Hp)), k14 v0 v1 v2 v3 s0 = some r → p_Go K l m_Mo_holds 14 [(0, p_r v0), (1, p_i v1), (2, p_i v2), (3, p_i v3)] [] s0 (some (p_i r.1), r.2)) (v0 : Nat) (v1 : Int) (v2 : Int) (v3 : Int) (v5 : Int) (s0 : p_Hp) (r : (Int × p_Hp)) (h : B_Mo_holds_129 k14 v0 v1 v2 v3 v5 s0 = some r) : p_Go K l m_Mo_holds 129 [(0, p_r v0), (1, p_i v1), (2, p_i v2), (3, p_i v3), (5, p_i v5)] [] s0 (some (p_i r.1), r.2) := by
  unfold B_Mo_holds_129 at h
  refine g_aload_n (i := 0) (j := 0) (dk_Mo_holds 72 rfl) rfl rfl ?_
  obtain ⟨c1, h⟩ := p_gdE h
  refine g_getR fl_Mo_159 (Or.inr ⟨_, rfl⟩) (dk_Mo_holds 73 rfl) c1 ?_
  refine g_iload_n (i := 3) (j := 3) (dk_Mo_holds 74 rfl) rfl rfl ?_
  obtain ⟨c2, h⟩ := p_gdE h
  obtain ⟨c3, h⟩ := p_gdE h
  refine g_iaload (dk_Mo_holds 75 rfl) c2 c3.1 c3.2 ?_
  refine g_bipush (dk_Mo_holds 76 rfl) (by decide +kernel) (by decide) ?_
  refine g_icmp_ne 159 (dk_Mo_holds 77 rfl) (by decide) (fun b4 => ?_) (fun b4 => ?_)
  · have h := p_ifT b4 h
    refine g_aload_n (i := 0) (j := 0) (dk_Mo_holds 88 rfl) rfl rfl ?_
    refine g_getR fl_Mo_159 (Or.inr ⟨_, rfl⟩) (dk_Mo_holds 89 rfl) c1 ?_
    refine g_iload_n (i := 3) (j := 3) (dk_Mo_holds 90 rfl) rfl rfl ?_
    obtain ⟨c5, h⟩ := p_gdE h
    refine g_iaload (dk_Mo_holds 91 rfl) c2 c5.1 c5.2 ?_
    refine g_bipush (dk_Mo_holds 92 rfl) (by decide +kernel) (by decide) ?_
    refine g_icmp_ne 189 (dk_Mo_holds 93 rfl) (by decide) (fun b6 => ?_) (fun b6 => ?_)
    · have h := p_ifT b6 h
      refine g_iload (j := 4) (dk_Mo_holds 104 rfl) rfl ?_
      refine g_aload_n (i := 0) (j := 0) (dk_Mo_holds 105 rfl) rfl rfl ?_
      refine g_getR fl_Mo_162 (Or.inr ⟨_, rfl⟩) (dk_Mo_holds 106 rfl) c1 ?_
      refine g_iload_n (i := 3) (j := 3) (dk_Mo_holds 107 rfl) rfl rfl ?_
      obtain ⟨c7, h⟩ := p_gdE h
      obtain ⟨c8, h⟩ := p_gdE h
      refine g_iaload (dk_Mo_holds 108 rfl) c7 c8.1 c8.2 ?_
      refine g_icmp_le 204 (dk_Mo_holds 109 rfl) (by decide) (fun b9 => ?_) (fun b9 => ?_)
      · have h := p_ifT b9 h
        refine g_iconst (dk_Mo_holds 112 rfl) (by decide) ?_
        refine g_sub [(0, p_r v0), (1, p_i v1), (2, p_i v2), (3, p_i v3)] [0, 1, 2, 3] rfl ?_
        exact tB_Mo_holds_205 K l k14 hk14 v0 v1 v2 v3 0 s0 _ h
      · have h := p_ifF b9 h
        refine g_iconst (dk_Mo_holds 110 rfl) (by decide) ?_
        refine g_goto 205 (dk_Mo_holds 111 rfl) (by decide) ?_
        refine g_sub [(0, p_r v0), (1, p_i v1), (2, p_i v2), (3, p_i v3)] [0, 1, 2, 3] rfl ?_
        exact tB_Mo_holds_205 K l k14 hk14 v0 v1 v2 v3 1 s0 _ h
    · have h := p_ifF b6 h
      refine g_iload (j := 4) (dk_Mo_holds 94 rfl) rfl ?_
      refine g_aload_n (i := 0) (j := 0) (dk_Mo_holds 95 rfl) rfl rfl ?_
      refine g_getR fl_Mo_162 (Or.inr ⟨_, rfl⟩) (dk_Mo_holds 96 rfl) c1 ?_
      refine g_iload_n (i := 3) (j := 3) (dk_Mo_holds 97 rfl) rfl rfl ?_
      obtain ⟨c10, h⟩ := p_gdE h
      obtain ⟨c11, h⟩ := p_gdE h
      refine g_iaload (dk_Mo_holds 98 rfl) c10 c11.1 c11.2 ?_
      refine g_icmp_ne 185 (dk_Mo_holds 99 rfl) (by decide) (fun b12 => ?_) (fun b12 => ?_)
      · have h := p_ifT b12 h
        refine g_iconst (dk_Mo_holds 102 rfl) (by decide) ?_
        refine g_goto 205 (dk_Mo_holds 103 rfl) (by decide) ?_
        refine g_sub [(0, p_r v0), (1, p_i v1), (2, p_i v2), (3, p_i v3)] [0, 1, 2, 3] rfl ?_
        exact tB_Mo_holds_205 K l k14 hk14 v0 v1 v2 v3 0 s0 _ h
      · have h := p_ifF b12 h
        refine g_iconst (dk_Mo_holds 100 rfl) (by decide) ?_
        refine g_goto 205 (dk_Mo_holds 101 rfl) (by decide) ?_
        refine g_sub [(0, p_r v0), (1, p_i v1), (2, p_i v2), (3, p_i v3)] [0, 1, 2, 3] rfl ?_
        exact tB_Mo_holds_205 K l k14 hk14 v0 v1 v2 v3 1 s0 _ h
  · have h := p_ifF b4 h
    refine g_iload (j := 4) (dk_Mo_holds 78 rfl) rfl ?_
    refine g_aload_n (i := 0) (j := 0) (dk_Mo_holds 79 rfl) rfl rfl ?_
    refine g_getR fl_Mo_162 (Or.inr ⟨_, rfl⟩) (dk_Mo_holds 80 rfl) c1 ?_
    refine g_iload_n (i := 3) (j := 3) (dk_Mo_holds 81 rfl) rfl rfl ?_
    obtain ⟨c13, h⟩ := p_gdE h
    obtain ⟨c14, h⟩ := p_gdE h
    refine g_iaload (dk_Mo_holds 82 rfl) c13 c14.1 c14.2 ?_
    refine g_icmp_ge 155 (dk_Mo_holds 83 rfl) (by decide) (fun b15 => ?_) (fun b15 => ?_)
    · have h := p_ifT b15 h
      refine g_iconst (dk_Mo_holds 86 rfl) (by decide) ?_
      refine g_goto 205 (dk_Mo_holds 87 rfl) (by decide) ?_
      refine g_sub [(0, p_r v0), (1, p_i v1), (2, p_i v2), (3, p_i v3)] [0, 1, 2, 3] rfl ?_
      exact tB_Mo_holds_205 K l k14 hk14 v0 v1 v2 v3 0 s0 _ h
    · have h := p_ifF b15 h
      refine g_iconst (dk_Mo_holds 84 rfl) (by decide) ?_
      refine g_goto 205 (dk_Mo_holds 85 rfl) (by decide) ?_
      refine g_sub [(0, p_r v0), (1, p_i v1), (2, p_i v2), (3, p_i v3)] [0, 1, 2, 3] rfl ?_
      exact tB_Mo_holds_205 K l k14 hk14 v0 v1 v2 v3 1 s0 _ h
set_option maxRecDepth 100000 in
set_option maxHeartbeats 4000000 in
theorem tB_Mo_holds_87 (K : p_K) (l : Launch) (k14 : Nat → Int → Int → Int → p_Hp → Option (Int × p_Hp)) (hk14 : ∀ (v0 : Nat) (v1 : Int) (v2 : Int) (v3 : Int)  (s0 : p_Hp) (r : (Int × p_Hp)), k14 v0 v1 v2 v3 s0 = some r → p_Go K l m_Mo_holds 14 [(0, p_r v0), (1, p_i v1), (2, p_i v2), (3, p_i v3)] [] s0 (some (p_i r.1), r.2)) (v0 : Nat) (v1 : Int) (v2 : Int) (v3 : Int) (v4 : Int) (w0 : Int) (s0 : p_Hp) (r : (Int × p_Hp)) (h : B_Mo_holds_87 k14 v0 v1 v2 v3 v4 w0 s0 = some r) : p_Go K l m_Mo_holds 87 [(0, p_r v0), (1, p_i v1), (2, p_i v2), (3, p_i v3), (4, p_i v4)] [p_i w0] s0 (some (p_i r.1), r.2) := by
  unfold B_Mo_holds_87 at h
  refine g_istore [(5, p_i w0), (0, p_r v0), (1, p_i v1), (2, p_i v2), (3, p_i v3), (4, p_i v4)] (dk_Mo_holds 49 rfl) (by decide) rfl ?_
  refine g_iload (j := 5) (dk_Mo_holds 50 rfl) rfl ?_
  refine g_bipush (dk_Mo_holds 51 rfl) (by decide +kernel) (by decide) ?_
  refine g_icmp_ne 129 (dk_Mo_holds 52 rfl) (by decide) (fun b1 => ?_) (fun b1 => ?_)
  · have h := p_ifT b1 h
    refine g_sub [(0, p_r v0), (1, p_i v1), (2, p_i v2), (3, p_i v3), (5, p_i w0)] [1, 2, 3, 4, 0] rfl ?_
    exact tB_Mo_holds_129 K l k14 hk14 v0 v1 v2 v3 w0 s0 _ h
  · have h := p_ifF b1 h
    refine g_aload_n (i := 0) (j := 1) (dk_Mo_holds 53 rfl) rfl rfl ?_
    refine g_aload_n (i := 0) (j := 1) (dk_Mo_holds 54 rfl) rfl rfl ?_
    obtain ⟨c2, h⟩ := p_gdE h
    refine g_getR fl_Mo_156 (Or.inr ⟨_, rfl⟩) (dk_Mo_holds 55 rfl) c2 ?_
    refine g_iload_n (i := 3) (j := 4) (dk_Mo_holds 56 rfl) rfl rfl ?_
    obtain ⟨c3, h⟩ := p_gdE h
    obtain ⟨c4, h⟩ := p_gdE h
    refine g_iaload (dk_Mo_holds 57 rfl) c3 c4.1 c4.2 ?_
    obtain ⟨r9, s5, q6, h⟩ := p_bdE h
    have t7 := tF_Mo_quotientOf K l v0 (p_Z s0 (p_R s0 v0 53) (v3 : Int).toNat) s0 _ q6
    refine g_callV (a := v0) (ci := 11) (q0 := (RX11, TX11, 90)) (As := [p_i (p_Z s0 (p_R s0 v0 53) (v3 : Int).toNat)]) (rest := []) [p_i r9] mt_Mo_quotientOf rfl rfl tw_8_152 ts_92 tw_8_150 ⟨Nat.le_of_ble_eq_true rfl, Nat.le_of_ble_eq_true rfl⟩ rfl (Nat.le_of_ble_eq_true rfl) (dk_Mo_holds 58 rfl) rfl c2 rfl t7 ?_
    have hs8 : p_x s0 s5 := t7.1
    show p_Go K l m_Mo_holds 106 [(5, p_i w0), (0, p_r v0), (1, p_i v1), (2, p_i v2), (3, p_i v3), (4, p_i v4)] [p_i r9] s5 _
    refine g_istore [(6, p_i r9), (5, p_i w0), (0, p_r v0), (1, p_i v1), (2, p_i v2), (3, p_i v3), (4, p_i v4)] (dk_Mo_holds 59 rfl) (by decide) rfl ?_
    refine g_iload (j := 0) (dk_Mo_holds 60 rfl) rfl ?_
    refine g_if_le 123 (dk_Mo_holds 61 rfl) (by decide) (fun b10 => ?_) (fun b10 => ?_)
    · have h := p_ifT b10 h
      refine g_aload_n (i := 0) (j := 2) (dk_Mo_holds 69 rfl) rfl rfl ?_
      refine g_getI fl_Mo_429 (Or.inl rfl) (dk_Mo_holds 70 rfl) (c2.up hs8) ?_
      refine g_istore [(5, p_i (p_Z s5 v0 80)), (6, p_i r9), (0, p_r v0), (1, p_i v1), (2, p_i v2), (3, p_i v3), (4, p_i v4)] (dk_Mo_holds 71 rfl) (by decide) rfl ?_
      refine p_ltG (P := fun q => p_Go K l m_Mo_holds 129 [(5, p_i q), (6, p_i r9), (0, p_r v0), (1, p_i v1), (2, p_i v2), (3, p_i v3), (4, p_i v4)] [] s5 _) ?_ h
      intro x11 h
      refine g_sub [(0, p_r v0), (1, p_i v1), (2, p_i v2), (3, p_i v3), (5, p_i x11)] [2, 3, 4, 5, 0] rfl ?_
      exact tB_Mo_holds_129 K l k14 hk14 v0 v1 v2 v3 x11 s5 _ h
    · have h := p_ifF b10 h
      refine g_aload_n (i := 0) (j := 2) (dk_Mo_holds 62 rfl) rfl rfl ?_
      refine g_iconst (dk_Mo_holds 63 rfl) (by decide) ?_
      refine g_iload (j := 0) (dk_Mo_holds 64 rfl) rfl ?_
      refine g_iload_n (i := 1) (j := 3) (dk_Mo_holds 65 rfl) rfl rfl ?_
      obtain ⟨s12, q13, h⟩ := p_bvE h
      have t14 := tF_Mo_find K l v0 3 r9 v1 s5 _ q13
      refine g_callV (a := v0) (ci := 11) (q0 := (RX11, TX11, 90)) (As := [p_i 3, p_i r9, p_i v1]) (rest := []) [] mt_Mo_find rfl rfl tw_8_85 ts_76 tw_8_83 ⟨Nat.le_of_ble_eq_true rfl, Nat.le_of_ble_eq_true rfl⟩ rfl (Nat.le_of_ble_eq_true rfl) (dk_Mo_holds 66 rfl) rfl (c2.up hs8) rfl t14 ?_
      have hs15 : p_x s5 s12 := t14.1
      show p_Go K l m_Mo_holds 121 [(6, p_i r9), (5, p_i w0), (0, p_r v0), (1, p_i v1), (2, p_i v2), (3, p_i v3), (4, p_i v4)] [] s12 _
      refine g_iconst (dk_Mo_holds 67 rfl) (by decide) ?_
      cases h
      exact g_ret rfl rfl (dk_Mo_holds 68 rfl) (fun _ => ⟨_, rfl, Or.inl rfl⟩)
set_option maxRecDepth 100000 in
set_option maxHeartbeats 4000000 in
theorem tL_Mo_holds_14 (K : p_K) (l : Launch) (k14 : Nat → Int → Int → Int → p_Hp → Option (Int × p_Hp)) (hk14 : ∀ (v0 : Nat) (v1 : Int) (v2 : Int) (v3 : Int)  (s0 : p_Hp) (r : (Int × p_Hp)), k14 v0 v1 v2 v3 s0 = some r → p_Go K l m_Mo_holds 14 [(0, p_r v0), (1, p_i v1), (2, p_i v2), (3, p_i v3)] [] s0 (some (p_i r.1), r.2)) (v0 : Nat) (v1 : Int) (v2 : Int) (v3 : Int) (s0 : p_Hp) (r : (Int × p_Hp)) (h : L_Mo_holds_14 k14 v0 v1 v2 v3 s0 = some r) : p_Go K l m_Mo_holds 14 [(0, p_r v0), (1, p_i v1), (2, p_i v2), (3, p_i v3)] [] s0 (some (p_i r.1), r.2) := by
  unfold L_Mo_holds_14 at h
  refine g_iload_n (i := 3) (j := 3) (dk_Mo_holds 11 rfl) rfl rfl ?_
  refine g_iconst (dk_Mo_holds 12 rfl) (by decide) ?_
  refine g_iload_n (i := 2) (j := 2) (dk_Mo_holds 13 rfl) rfl rfl ?_
  refine g_imul (dk_Mo_holds 14 rfl) ?_
  refine g_aload_n (i := 0) (j := 0) (dk_Mo_holds 15 rfl) rfl rfl ?_
  obtain ⟨c1, h⟩ := p_gdE h
  refine g_getR fl_Mo_147 (Or.inr ⟨_, rfl⟩) (dk_Mo_holds 16 rfl) c1 ?_
  refine g_iload_n (i := 2) (j := 2) (dk_Mo_holds 17 rfl) rfl rfl ?_
  obtain ⟨c2, h⟩ := p_gdE h
  obtain ⟨c3, h⟩ := p_gdE h
  refine g_iaload (dk_Mo_holds 18 rfl) c2 c3.1 c3.2 ?_
  refine g_iadd (dk_Mo_holds 19 rfl) ?_
  refine g_icmp_ge 220 (dk_Mo_holds 20 rfl) (by decide) (fun b4 => ?_) (fun b4 => ?_)
  · have h := p_ifT b4 h
    refine g_iconst (dk_Mo_holds 120 rfl) (by decide) ?_
    cases h
    exact g_ret rfl rfl (dk_Mo_holds 121 rfl) (fun _ => ⟨_, rfl, Or.inr rfl⟩)
  · have h := p_ifF b4 h
    refine g_aload_n (i := 0) (j := 0) (dk_Mo_holds 21 rfl) rfl rfl ?_
    refine g_getR fl_Mo_153 (Or.inr ⟨_, rfl⟩) (dk_Mo_holds 22 rfl) c1 ?_
    refine g_iload_n (i := 3) (j := 3) (dk_Mo_holds 23 rfl) rfl rfl ?_
    obtain ⟨c5, h⟩ := p_gdE h
    obtain ⟨c6, h⟩ := p_gdE h
    refine g_iaload (dk_Mo_holds 24 rfl) c5 c6.1 c6.2 ?_
    refine g_istore [(4, p_i (p_Z s0 (p_R s0 v0 52) (v3 : Int).toNat)), (0, p_r v0), (1, p_i v1), (2, p_i v2), (3, p_i v3)] (dk_Mo_holds 25 rfl) (by decide) rfl ?_
    refine p_ltG (P := fun q => p_Go K l m_Mo_holds 36 [(4, p_i q), (0, p_r v0), (1, p_i v1), (2, p_i v2), (3, p_i v3)] [] s0 _) ?_ h
    intro x7 h
    refine g_iload (j := 0) (dk_Mo_holds 26 rfl) rfl ?_
    refine g_bipush (dk_Mo_holds 27 rfl) (by decide +kernel) (by decide) ?_
    refine g_icmp_ne 50 (dk_Mo_holds 28 rfl) (by decide) (fun b8 => ?_) (fun b8 => ?_)
    · have h := p_ifT b8 h
      refine g_iload (j := 0) (dk_Mo_holds 32 rfl) rfl ?_
      refine g_bipush (dk_Mo_holds 33 rfl) (by decide +kernel) (by decide) ?_
      refine g_icmp_ne 64 (dk_Mo_holds 34 rfl) (by decide) (fun b9 => ?_) (fun b9 => ?_)
      · have h := p_ifT b9 h
        refine g_iload (j := 0) (dk_Mo_holds 38 rfl) rfl ?_
        refine g_bipush (dk_Mo_holds 39 rfl) (by decide +kernel) (by decide) ?_
        refine g_icmp_ne 78 (dk_Mo_holds 40 rfl) (by decide) (fun b10 => ?_) (fun b10 => ?_)
        · have h := p_ifT b10 h
          refine g_aload_n (i := 0) (j := 1) (dk_Mo_holds 44 rfl) rfl rfl ?_
          refine g_getR fl_Mo_13 (Or.inr ⟨_, rfl⟩) (dk_Mo_holds 45 rfl) c1 ?_
          refine g_aload_n (i := 0) (j := 1) (dk_Mo_holds 46 rfl) rfl rfl ?_
          refine g_getI fl_Mo_227 (Or.inl rfl) (dk_Mo_holds 47 rfl) c1 ?_
          obtain ⟨c11, h⟩ := p_gdE h
          obtain ⟨c12, h⟩ := p_gdE h
          refine g_iaload (dk_Mo_holds 48 rfl) c11 c12.1 c12.2 ?_
          refine g_sub [(0, p_r v0), (1, p_i v1), (2, p_i v2), (3, p_i v3), (4, p_i x7)] [1, 2, 3, 4, 0] rfl ?_
          exact tB_Mo_holds_87 K l k14 hk14 v0 v1 v2 v3 x7 (p_Z s0 (p_R s0 v0 4) ((p_Z s0 v0 0) : Int).toNat) s0 _ h
        · have h := p_ifF b10 h
          refine g_aload_n (i := 0) (j := 1) (dk_Mo_holds 41 rfl) rfl rfl ?_
          refine g_getI fl_Mo_426 (Or.inl rfl) (dk_Mo_holds 42 rfl) c1 ?_
          refine g_goto 87 (dk_Mo_holds 43 rfl) (by decide) ?_
          refine g_sub [(0, p_r v0), (1, p_i v1), (2, p_i v2), (3, p_i v3), (4, p_i x7)] [1, 2, 3, 4, 0] rfl ?_
          exact tB_Mo_holds_87 K l k14 hk14 v0 v1 v2 v3 x7 (p_Z s0 v0 77) s0 _ h
      · have h := p_ifF b9 h
        refine g_aload_n (i := 0) (j := 1) (dk_Mo_holds 35 rfl) rfl rfl ?_
        refine g_getI fl_Mo_423 (Or.inl rfl) (dk_Mo_holds 36 rfl) c1 ?_
        refine g_goto 87 (dk_Mo_holds 37 rfl) (by decide) ?_
        refine g_sub [(0, p_r v0), (1, p_i v1), (2, p_i v2), (3, p_i v3), (4, p_i x7)] [1, 2, 3, 4, 0] rfl ?_
        exact tB_Mo_holds_87 K l k14 hk14 v0 v1 v2 v3 x7 (p_Z s0 v0 76) s0 _ h
    · have h := p_ifF b8 h
      refine g_aload_n (i := 0) (j := 1) (dk_Mo_holds 29 rfl) rfl rfl ?_
      refine g_getI fl_Mo_420 (Or.inl rfl) (dk_Mo_holds 30 rfl) c1 ?_
      refine g_goto 87 (dk_Mo_holds 31 rfl) (by decide) ?_
      refine g_sub [(0, p_r v0), (1, p_i v1), (2, p_i v2), (3, p_i v3), (4, p_i x7)] [1, 2, 3, 4, 0] rfl ?_
      exact tB_Mo_holds_87 K l k14 hk14 v0 v1 v2 v3 x7 (p_Z s0 v0 75) s0 _ h
set_option maxRecDepth 100000 in
set_option maxHeartbeats 4000000 in
theorem tO_Mo_holds_14 (K : p_K) (l : Launch)  : ∀ (n : Nat) (v0 : Nat) (v1 : Int) (v2 : Int) (v3 : Int) (s0 : p_Hp) (r : (Int × p_Hp)), O_Mo_holds_14 n v0 v1 v2 v3 s0 = some r → p_Go K l m_Mo_holds 14 [(0, p_r v0), (1, p_i v1), (2, p_i v2), (3, p_i v3)] [] s0 (some (p_i r.1), r.2) := by
  intro n
  induction n with
  | zero => intro v0 v1 v2 v3 s0 r h; cases (show (none : Option (Int × p_Hp)) = some r from h)
  | succ n ih => intro v0 v1 v2 v3 s0 r h; exact tL_Mo_holds_14 K l _ ih v0 v1 v2 v3 s0 r h
set_option maxRecDepth 100000 in
set_option maxHeartbeats 4000000 in
theorem tF_Mo_holds (K : p_K) (l : Launch) (v0 : Nat) (v1 : Int) (s0 : p_Hp) (r : (Int × p_Hp)) (h : F_Mo_holds v0 v1 s0 = some r) : p_Ct K l m_Mo_holds [p_r v0, p_i v1] s0 (some (p_i r.1), r.2) := by
  refine p_Ct.of (by decide +kernel) (Nat.le_of_ble_eq_true rfl) ?_
  unfold F_Mo_holds at h
  show p_Go K l m_Mo_holds 0 [(0, p_r v0), (1, p_i v1)] [] s0 _
  refine g_bipush (dk_Mo_holds 0 rfl) (by decide +kernel) (by decide) ?_
  refine g_aload_n (i := 0) (j := 0) (dk_Mo_holds 1 rfl) rfl rfl ?_
  obtain ⟨c1, h⟩ := p_gdE h
  refine g_getI fl_Mo_227 (Or.inl rfl) (dk_Mo_holds 2 rfl) c1 ?_
  refine g_imul (dk_Mo_holds 3 rfl) ?_
  refine g_iload_n (i := 1) (j := 1) (dk_Mo_holds 4 rfl) rfl rfl ?_
  refine g_iadd (dk_Mo_holds 5 rfl) ?_
  refine g_istore_n (i := 2) [(2, p_i (p_w ((p_w (12 * (p_Z s0 v0 0))) + v1))), (0, p_r v0), (1, p_i v1)] (dk_Mo_holds 6 rfl) rfl (by decide) rfl ?_
  refine p_ltG (P := fun q => p_Go K l m_Mo_holds 10 [(2, p_i q), (0, p_r v0), (1, p_i v1)] [] s0 _) ?_ h
  intro x2 h
  refine g_iconst (dk_Mo_holds 7 rfl) (by decide) ?_
  refine g_iload_n (i := 2) (j := 0) (dk_Mo_holds 8 rfl) rfl rfl ?_
  refine g_imul (dk_Mo_holds 9 rfl) ?_
  refine g_istore_n (i := 3) [(3, p_i (p_w (4 * x2))), (2, p_i x2), (0, p_r v0), (1, p_i v1)] (dk_Mo_holds 10 rfl) rfl (by decide) rfl ?_
  refine p_ltG (P := fun q => p_Go K l m_Mo_holds 14 [(3, p_i q), (2, p_i x2), (0, p_r v0), (1, p_i v1)] [] s0 _) ?_ h
  intro x3 h
  refine g_sub [(0, p_r v0), (1, p_i v1), (2, p_i x2), (3, p_i x3)] [2, 3, 1, 0] rfl ?_
  exact tO_Mo_holds_14 K l 3000 v0 v1 x2 x3 s0 _ h
def m_Mo_asked : p_Me := (⟨"SortWorksModel", "asked", "(II)I"⟩, prog_13_method_68_code, 3, (some .int), 0, 0)
theorem mt_Mo_asked : p_Mt m_Mo_asked 2 := ⟨p_mem (p_tb8 (List.mem_of_getElem? (i := 145) rfl)) rfl, tw_1_12, by decide +kernel, by decide +kernel, by decide +kernel⟩
def dt_Mo_asked : List (Nat × Instr × Nat) := [(0, .aload_n 0, 1), (1, .getfield 93, 3), (4, .iload_n 1, 1), (5, .iaload, 1), (6, .ifCond .lt 13, 3), (9, .iload_n 2, 1), (10, .aload_n 0, 1), (11, .getfield 93, 3), (14, .iload_n 1, 1), (15, .iaload, 1), (16, .if_icmp .lt 23, 3), (19, .aload_n 0, 1), (20, .aload_n 0, 1), (21, .getfield 93, 3), (24, .iload_n 1, 1), (25, .iaload, 1), (26, .ifCond .ge 7, 3), (29, .iconst 1, 1), (30, .goto 4, 3), (33, .iconst 3, 1), (34, .putfield 414, 3), (37, .iconst (-1), 1), (38, .ireturn, 1), (39, .aload_n 0, 1), (40, .getfield 96, 3), (43, .bipush 12, 2), (45, .iload_n 1, 1), (46, .imul, 1), (47, .iload_n 2, 1), (48, .iadd, 1), (49, .iaload, 1), (50, .ireturn, 1)]
theorem dk_Mo_asked (i : Nat) {pc : Nat} {ins : Instr} {len : Nat} (h : dt_Mo_asked[i]? = some (pc, ins, len)) : decode m_Mo_asked.2.1 pc = .ok (ins, len) := p_dk (b := m_Mo_asked.2.1) (t := dt_Mo_asked) (by decide +kernel) i h
def B_Mo_asked_19  (v0 : Nat) (v1 : Int) (s0 : p_Hp) : Option (Int × p_Hp) :=
  p_gd (p_is s0 v0 11) <|
  p_gd (p_is s0 (p_R s0 v0 31) 100) <|
  p_gd ((0 : Int) ≤ v1 ∧ v1 < (p_L s0 (p_R s0 v0 31) : Int)) <|
  if 0 ≤ (p_Z s0 (p_R s0 v0 31) (v1 : Int).toNat) then
    p_bi (p_wZ s0 v0 78 3) fun s5 =>
    some ((-1), s5)
  else
    p_bi (p_wZ s0 v0 78 1) fun s7 =>
    some ((-1), s7)
def F_Mo_asked (v0 : Nat) (v1 : Int) (v2 : Int) (s0 : p_Hp) : Option (Int × p_Hp) :=
  p_gd (p_is s0 v0 11) <|
  p_gd (p_is s0 (p_R s0 v0 31) 100) <|
  p_gd ((0 : Int) ≤ v1 ∧ v1 < (p_L s0 (p_R s0 v0 31) : Int)) <|
  if (p_Z s0 (p_R s0 v0 31) (v1 : Int).toNat) < 0 then
    B_Mo_asked_19 v0 v1 s0
  else
    p_gd ((0 : Int) ≤ v1 ∧ v1 < (p_L s0 (p_R s0 v0 31) : Int)) <|
    if v2 < (p_Z s0 (p_R s0 v0 31) (v1 : Int).toNat) then
      p_gd (p_is s0 (p_R s0 v0 32) 100) <|
      p_gd ((0 : Int) ≤ (p_w ((p_w (12 * v1)) + v2)) ∧ (p_w ((p_w (12 * v1)) + v2)) < (p_L s0 (p_R s0 v0 32) : Int)) <|
      some ((p_Z s0 (p_R s0 v0 32) ((p_w ((p_w (12 * v1)) + v2)) : Int).toNat), s0)
    else
      B_Mo_asked_19 v0 v1 s0
set_option maxRecDepth 100000 in
set_option maxHeartbeats 4000000 in
theorem tB_Mo_asked_19 (K : p_K) (l : Launch)  (v0 : Nat) (v1 : Int) (s0 : p_Hp) (r : (Int × p_Hp)) (h : B_Mo_asked_19 v0 v1 s0 = some r) : p_Go K l m_Mo_asked 19 [(0, p_r v0), (1, p_i v1)] [] s0 (some (p_i r.1), r.2) := by
  unfold B_Mo_asked_19 at h
  refine g_aload_n (i := 0) (j := 0) (dk_Mo_asked 11 rfl) rfl rfl ?_
  refine g_aload_n (i := 0) (j := 0) (dk_Mo_asked 12 rfl) rfl rfl ?_
  obtain ⟨c1, h⟩ := p_gdE h
  refine g_getR fl_Mo_93 (Or.inr ⟨_, rfl⟩) (dk_Mo_asked 13 rfl) c1 ?_
  refine g_iload_n (i := 1) (j := 1) (dk_Mo_asked 14 rfl) rfl rfl ?_
  obtain ⟨c2, h⟩ := p_gdE h
  obtain ⟨c3, h⟩ := p_gdE h
  refine g_iaload (dk_Mo_asked 15 rfl) c2 c3.1 c3.2 ?_
  refine g_if_ge 33 (dk_Mo_asked 16 rfl) (by decide) (fun b4 => ?_) (fun b4 => ?_)
  · have h := p_ifT b4 h
    refine g_iconst (dk_Mo_asked 19 rfl) (by decide) ?_
    refine g_putI fl_Mo_414 (Or.inl rfl) (dk_Mo_asked 20 rfl) c1 ?_
    refine p_ltS (P := fun q => p_Go K l m_Mo_asked 37 [(0, p_r v0), (1, p_i v1)] [] q _) (p_xZ _ _ _ _) ?_ h
    intro s5 hs6 h
    refine g_iconst (dk_Mo_asked 21 rfl) (by decide) ?_
    cases h
    exact g_ret rfl rfl (dk_Mo_asked 22 rfl) (fun os => ⟨_, rfl, p_okh os⟩)
  · have h := p_ifF b4 h
    refine g_iconst (dk_Mo_asked 17 rfl) (by decide) ?_
    refine g_goto 34 (dk_Mo_asked 18 rfl) (by decide) ?_
    refine g_putI fl_Mo_414 (Or.inl rfl) (dk_Mo_asked 20 rfl) c1 ?_
    refine p_ltS (P := fun q => p_Go K l m_Mo_asked 37 [(0, p_r v0), (1, p_i v1)] [] q _) (p_xZ _ _ _ _) ?_ h
    intro s7 hs8 h
    refine g_iconst (dk_Mo_asked 21 rfl) (by decide) ?_
    cases h
    exact g_ret rfl rfl (dk_Mo_asked 22 rfl) (fun os => ⟨_, rfl, p_okh os⟩)
set_option maxRecDepth 100000 in
set_option maxHeartbeats 4000000 in
theorem tF_Mo_asked (K : p_K) (l : Launch) (v0 : Nat) (v1 : Int) (v2 : Int) (s0 : p_Hp) (r : (Int × p_Hp)) (h : F_Mo_asked v0 v1 v2 s0 = some r) : p_Ct K l m_Mo_asked [p_r v0, p_i v1, p_i v2] s0 (some (p_i r.1), r.2) := by
  refine p_Ct.of (by decide +kernel) (Nat.le_of_ble_eq_true rfl) ?_
  unfold F_Mo_asked at h
  show p_Go K l m_Mo_asked 0 [(0, p_r v0), (1, p_i v1), (2, p_i v2)] [] s0 _
  refine g_aload_n (i := 0) (j := 0) (dk_Mo_asked 0 rfl) rfl rfl ?_
  obtain ⟨c1, h⟩ := p_gdE h
  refine g_getR fl_Mo_93 (Or.inr ⟨_, rfl⟩) (dk_Mo_asked 1 rfl) c1 ?_
  refine g_iload_n (i := 1) (j := 1) (dk_Mo_asked 2 rfl) rfl rfl ?_
  obtain ⟨c2, h⟩ := p_gdE h
  obtain ⟨c3, h⟩ := p_gdE h
  refine g_iaload (dk_Mo_asked 3 rfl) c2 c3.1 c3.2 ?_
  refine g_if_lt 19 (dk_Mo_asked 4 rfl) (by decide) (fun b4 => ?_) (fun b4 => ?_)
  · have h := p_ifT b4 h
    refine g_sub [(0, p_r v0), (1, p_i v1)] [0, 1] rfl ?_
    exact tB_Mo_asked_19 K l v0 v1 s0 _ h
  · have h := p_ifF b4 h
    refine g_iload_n (i := 2) (j := 2) (dk_Mo_asked 5 rfl) rfl rfl ?_
    refine g_aload_n (i := 0) (j := 0) (dk_Mo_asked 6 rfl) rfl rfl ?_
    refine g_getR fl_Mo_93 (Or.inr ⟨_, rfl⟩) (dk_Mo_asked 7 rfl) c1 ?_
    refine g_iload_n (i := 1) (j := 1) (dk_Mo_asked 8 rfl) rfl rfl ?_
    obtain ⟨c5, h⟩ := p_gdE h
    refine g_iaload (dk_Mo_asked 9 rfl) c2 c5.1 c5.2 ?_
    refine g_icmp_lt 39 (dk_Mo_asked 10 rfl) (by decide) (fun b6 => ?_) (fun b6 => ?_)
    · have h := p_ifT b6 h
      refine g_aload_n (i := 0) (j := 0) (dk_Mo_asked 23 rfl) rfl rfl ?_
      refine g_getR fl_Mo_96 (Or.inr ⟨_, rfl⟩) (dk_Mo_asked 24 rfl) c1 ?_
      refine g_bipush (dk_Mo_asked 25 rfl) (by decide +kernel) (by decide) ?_
      refine g_iload_n (i := 1) (j := 1) (dk_Mo_asked 26 rfl) rfl rfl ?_
      refine g_imul (dk_Mo_asked 27 rfl) ?_
      refine g_iload_n (i := 2) (j := 2) (dk_Mo_asked 28 rfl) rfl rfl ?_
      refine g_iadd (dk_Mo_asked 29 rfl) ?_
      obtain ⟨c7, h⟩ := p_gdE h
      obtain ⟨c8, h⟩ := p_gdE h
      refine g_iaload (dk_Mo_asked 30 rfl) c7 c8.1 c8.2 ?_
      cases h
      exact g_ret rfl rfl (dk_Mo_asked 31 rfl) (fun os => ⟨_, rfl, p_okh os⟩)
    · have h := p_ifF b6 h
      refine g_sub [(0, p_r v0), (1, p_i v1)] [0, 1] rfl ?_
      exact tB_Mo_asked_19 K l v0 v1 s0 _ h
def m_Mo_reads : p_Me := (⟨"SortWorksModel", "reads", "(I)Z"⟩, prog_13_method_69_code, 5, (some .boolean), 1, 22)
theorem mt_Mo_reads : p_Mt m_Mo_reads 1 := ⟨p_mem (p_tb8 (List.mem_of_getElem? (i := 141) rfl)) rfl, tw_1_12, by decide +kernel, by decide +kernel, by decide +kernel⟩
def dt_Mo_reads : List (Nat × Instr × Nat) := [(0, .aload_n 0, 1), (1, .iconst 0, 1), (2, .putfield 414, 3), (5, .aload_n 0, 1), (6, .iload_n 1, 1), (7, .iconst 0, 1), (8, .invokevirtual 417, 3), (11, .istore_n 2, 1), (12, .iload_n 2, 1), (13, .bipush 65, 2), (15, .if_icmp .ne 181, 3), (18, .iconst 1, 1), (19, .istore_n 3, 1), (20, .iload_n 3, 1), (21, .bipush 8, 2), (23, .if_icmp .ge 44, 3), (26, .aload_n 0, 1), (27, .iload_n 1, 1), (28, .iload_n 3, 1), (29, .invokevirtual 417, 3), (32, .istore 4, 2), (34, .iload 4, 2), (36, .bipush 48, 2), (38, .if_icmp .lt 10, 3), (41, .iload 4, 2), (43, .bipush 57, 2), (45, .if_icmp .le 5, 3), (48, .iconst 0, 1), (49, .ireturn, 1), (50, .aload_n 0, 1), (51, .getfield 204, 3), (54, .iload_n 3, 1), (55, .iload 4, 2), (57, .bipush 48, 2), (59, .isub, 1), (60, .iastore, 1), (61, .iinc 3 1, 3), (64, .goto (-44), 3), (67, .aload_n 0, 1), (68, .bipush 10, 2), (70, .aload_n 0, 1), (71, .getfield 204, 3), (74, .iconst 1, 1), (75, .iaload, 1), (76, .imul, 1), (77, .aload_n 0, 1), (78, .getfield 204, 3), (81, .iconst 2, 1), (82, .iaload, 1), (83, .iadd, 1), (84, .putfield 420, 3), (87, .aload_n 0, 1), (88, .bipush 100, 2), (90, .aload_n 0, 1), (91, .getfield 204, 3), (94, .iconst 3, 1), (95, .iaload, 1), (96, .imul, 1), (97, .bipush 10, 2), (99, .aload_n 0, 1), (100, .getfield 204, 3), (103, .iconst 4, 1), (104, .iaload, 1), (105, .imul, 1), (106, .iadd, 1), (107, .aload_n 0, 1), (108, .getfield 204, 3), (111, .iconst 5, 1), (112, .iaload, 1), (113, .iadd, 1), (114, .putfield 423, 3), (117, .aload_n 0, 1), (118, .aload_n 0, 1), (119, .getfield 204, 3), (122, .bipush 6, 2), (124, .iaload, 1), (125, .putfield 426, 3), (128, .iconst 3, 1), (129, .aload_n 0, 1), (130, .getfield 204, 3), (133, .iconst 1, 1), (134, .iaload, 1), (135, .imul, 1), (136, .aload_n 0, 1), (137, .getfield 204, 3), (140, .iconst 2, 1), (141, .iaload, 1), (142, .iadd, 1), (143, .iconst 3, 1), (144, .aload_n 0, 1), (145, .getfield 204, 3), (148, .iconst 3, 1), (149, .iaload, 1), (150, .imul, 1), (151, .iadd, 1), (152, .aload_n 0, 1), (153, .getfield 204, 3), (156, .iconst 4, 1), (157, .iaload, 1), (158, .iadd, 1), (159, .iconst 3, 1), (160, .aload_n 0, 1), (161, .getfield 204, 3), (164, .iconst 5, 1), (165, .iaload, 1), (166, .imul, 1), (167, .iadd, 1), (168, .aload_n 0, 1), (169, .getfield 204, 3), (172, .bipush 6, 2), (174, .iaload, 1), (175, .iadd, 1), (176, .aload_n 0, 1), (177, .getfield 204, 3), (180, .bipush 7, 2), (182, .iaload, 1), (183, .iadd, 1), (184, .bipush 10, 2), (186, .irem, 1), (187, .ifCond .ne 7, 3), (190, .iconst 1, 1), (191, .goto 4, 3), (194, .iconst 0, 1), (195, .ireturn, 1), (196, .iload_n 2, 1), (197, .bipush 66, 2), (199, .if_icmp .eq 5, 3), (202, .iconst 0, 1), (203, .ireturn, 1), (204, .iconst 1, 1), (205, .istore_n 3, 1), (206, .iload_n 3, 1), (207, .bipush 6, 2), (209, .if_icmp .ge 32, 3), (212, .aload_n 0, 1), (213, .getfield 204, 3), (216, .iload_n 3, 1), (217, .aload_n 0, 1), (218, .iload_n 1, 1), (219, .iload_n 3, 1), (220, .invokevirtual 417, 3), (223, .iastore, 1), (224, .aload_n 0, 1), (225, .getfield 204, 3), (228, .iload_n 3, 1), (229, .iaload, 1), (230, .ifCond .ge 5, 3), (233, .iconst 0, 1), (234, .ireturn, 1), (235, .iinc 3 1, 3), (238, .goto (-32), 3), (241, .aload_n 0, 1), (242, .aload_n 0, 1), (243, .getfield 204, 3), (246, .iconst 1, 1), (247, .iaload, 1), (248, .putfield 420, 3), (251, .aload_n 0, 1), (252, .sipush 256, 3), (255, .aload_n 0, 1), (256, .getfield 204, 3), (259, .iconst 2, 1), (260, .iaload, 1), (261, .imul, 1), (262, .aload_n 0, 1), (263, .getfield 204, 3), (266, .iconst 3, 1), (267, .iaload, 1), (268, .iadd, 1), (269, .putfield 423, 3), (272, .aload_n 0, 1), (273, .aload_n 0, 1), (274, .getfield 204, 3), (277, .iconst 4, 1), (278, .iaload, 1), (279, .putfield 426, 3), (282, .aload_n 0, 1), (283, .getfield 204, 3), (286, .iconst 5, 1), (287, .iaload, 1), (288, .bipush 7, 2), (290, .aload_n 0, 1), (291, .getfield 204, 3), (294, .iconst 1, 1), (295, .iaload, 1), (296, .imul, 1), (297, .iconst 5, 1), (298, .aload_n 0, 1), (299, .getfield 204, 3), (302, .iconst 2, 1), (303, .iaload, 1), (304, .imul, 1), (305, .iadd, 1), (306, .iconst 3, 1), (307, .aload_n 0, 1), (308, .getfield 204, 3), (311, .iconst 3, 1), (312, .iaload, 1), (313, .imul, 1), (314, .iadd, 1), (315, .aload_n 0, 1), (316, .getfield 204, 3), (319, .iconst 4, 1), (320, .iaload, 1), (321, .iadd, 1), (322, .bipush 97, 2), (324, .irem, 1), (325, .if_icmp .ne 7, 3), (328, .iconst 1, 1), (329, .goto 4, 3), (332, .iconst 0, 1), (333, .ireturn, 1)]
theorem dk_Mo_reads (i : Nat) {pc : Nat} {ins : Instr} {len : Nat} (h : dt_Mo_reads[i]? = some (pc, ins, len)) : decode m_Mo_reads.2.1 pc = .ok (ins, len) := p_dk (b := m_Mo_reads.2.1) (t := dt_Mo_reads) (by decide +kernel) i h
def L_Mo_reads_20 (k20 : Nat → Int → Int → p_Hp → Option (Int × p_Hp)) (v0 : Nat) (v1 : Int) (v3 : Int) (s0 : p_Hp) : Option (Int × p_Hp) :=
  if 8 ≤ v3 then
    p_gd (p_is s0 v0 11) <|
    p_gd (p_is s0 (p_R s0 v0 79) 100) <|
    p_gd ((0 : Int) ≤ 1 ∧ 1 < (p_L s0 (p_R s0 v0 79) : Int)) <|
    p_gd ((0 : Int) ≤ 2 ∧ 2 < (p_L s0 (p_R s0 v0 79) : Int)) <|
    p_bi (p_wZ s0 v0 75 (p_w ((p_w (10 * (p_Z s0 (p_R s0 v0 79) (1 : Int).toNat))) + (p_Z s0 (p_R s0 v0 79) (2 : Int).toNat)))) fun s6 =>
    p_gd (p_is s6 (p_R s6 v0 79) 100) <|
    p_gd ((0 : Int) ≤ 3 ∧ 3 < (p_L s6 (p_R s6 v0 79) : Int)) <|
    p_gd ((0 : Int) ≤ 4 ∧ 4 < (p_L s6 (p_R s6 v0 79) : Int)) <|
    p_gd ((0 : Int) ≤ 5 ∧ 5 < (p_L s6 (p_R s6 v0 79) : Int)) <|
    p_bi (p_wZ s6 v0 76 (p_w ((p_w ((p_w (100 * (p_Z s6 (p_R s6 v0 79) (3 : Int).toNat))) + (p_w (10 * (p_Z s6 (p_R s6 v0 79) (4 : Int).toNat))))) + (p_Z s6 (p_R s6 v0 79) (5 : Int).toNat)))) fun s12 =>
    p_gd (p_is s12 (p_R s12 v0 79) 100) <|
    p_gd ((0 : Int) ≤ 6 ∧ 6 < (p_L s12 (p_R s12 v0 79) : Int)) <|
    p_bi (p_wZ s12 v0 77 (p_Z s12 (p_R s12 v0 79) (6 : Int).toNat)) fun s16 =>
    p_gd (p_is s16 (p_R s16 v0 79) 100) <|
    p_gd ((0 : Int) ≤ 1 ∧ 1 < (p_L s16 (p_R s16 v0 79) : Int)) <|
    p_gd ((0 : Int) ≤ 2 ∧ 2 < (p_L s16 (p_R s16 v0 79) : Int)) <|
    p_gd ((0 : Int) ≤ 3 ∧ 3 < (p_L s16 (p_R s16 v0 79) : Int)) <|
    p_gd ((0 : Int) ≤ 4 ∧ 4 < (p_L s16 (p_R s16 v0 79) : Int)) <|
    p_gd ((0 : Int) ≤ 5 ∧ 5 < (p_L s16 (p_R s16 v0 79) : Int)) <|
    p_gd ((0 : Int) ≤ 6 ∧ 6 < (p_L s16 (p_R s16 v0 79) : Int)) <|
    p_gd ((0 : Int) ≤ 7 ∧ 7 < (p_L s16 (p_R s16 v0 79) : Int)) <|
    if (p_rem (p_w ((p_w ((p_w ((p_w ((p_w ((p_w ((p_w (3 * (p_Z s16 (p_R s16 v0 79) (1 : Int).toNat))) + (p_Z s16 (p_R s16 v0 79) (2 : Int).toNat))) + (p_w (3 * (p_Z s16 (p_R s16 v0 79) (3 : Int).toNat))))) + (p_Z s16 (p_R s16 v0 79) (4 : Int).toNat))) + (p_w (3 * (p_Z s16 (p_R s16 v0 79) (5 : Int).toNat))))) + (p_Z s16 (p_R s16 v0 79) (6 : Int).toNat))) + (p_Z s16 (p_R s16 v0 79) (7 : Int).toNat))) 10) ≠ 0 then
      some (0, s16)
    else
      some (1, s16)
  else
    p_gd (p_is s0 v0 11) <|
    p_bd (F_Mo_asked v0 v1 v3 s0) fun r32 s28 =>
    if r32 < 48 then
      some (0, s28)
    else
      if r32 ≤ 57 then
        p_gd (p_is s28 (p_R s28 v0 79) 100) <|
        p_gd ((0 : Int) ≤ v3 ∧ v3 < (p_L s28 (p_R s28 v0 79) : Int)) <|
        p_bi (p_wZ s28 (p_R s28 v0 79) (v3 : Int).toNat (p_w (r32 - 48))) fun s37 =>
        p_bi (p_w (v3 + 1)) fun x39 =>
        k20 v0 v1 x39 s37
      else
        some (0, s28)
def O_Mo_reads_20  : Nat → Nat → Int → Int → p_Hp → Option (Int × p_Hp)
  | 0 => fun _ _ _ _ => none
  | n + 1 => L_Mo_reads_20 (O_Mo_reads_20 n)
def L_Mo_reads_206 (k206 : Nat → Int → Int → p_Hp → Option (Int × p_Hp)) (v0 : Nat) (v1 : Int) (v3 : Int) (s0 : p_Hp) : Option (Int × p_Hp) :=
  if 6 ≤ v3 then
    p_gd (p_is s0 v0 11) <|
    p_gd (p_is s0 (p_R s0 v0 79) 100) <|
    p_gd ((0 : Int) ≤ 1 ∧ 1 < (p_L s0 (p_R s0 v0 79) : Int)) <|
    p_bi (p_wZ s0 v0 75 (p_Z s0 (p_R s0 v0 79) (1 : Int).toNat)) fun s5 =>
    p_gd (p_is s5 (p_R s5 v0 79) 100) <|
    p_gd ((0 : Int) ≤ 2 ∧ 2 < (p_L s5 (p_R s5 v0 79) : Int)) <|
    p_gd ((0 : Int) ≤ 3 ∧ 3 < (p_L s5 (p_R s5 v0 79) : Int)) <|
    p_bi (p_wZ s5 v0 76 (p_w ((p_w (256 * (p_Z s5 (p_R s5 v0 79) (2 : Int).toNat))) + (p_Z s5 (p_R s5 v0 79) (3 : Int).toNat)))) fun s10 =>
    p_gd (p_is s10 (p_R s10 v0 79) 100) <|
    p_gd ((0 : Int) ≤ 4 ∧ 4 < (p_L s10 (p_R s10 v0 79) : Int)) <|
    p_bi (p_wZ s10 v0 77 (p_Z s10 (p_R s10 v0 79) (4 : Int).toNat)) fun s14 =>
    p_gd (p_is s14 (p_R s14 v0 79) 100) <|
    p_gd ((0 : Int) ≤ 5 ∧ 5 < (p_L s14 (p_R s14 v0 79) : Int)) <|
    p_gd ((0 : Int) ≤ 1 ∧ 1 < (p_L s14 (p_R s14 v0 79) : Int)) <|
    p_gd ((0 : Int) ≤ 2 ∧ 2 < (p_L s14 (p_R s14 v0 79) : Int)) <|
    p_gd ((0 : Int) ≤ 3 ∧ 3 < (p_L s14 (p_R s14 v0 79) : Int)) <|
    p_gd ((0 : Int) ≤ 4 ∧ 4 < (p_L s14 (p_R s14 v0 79) : Int)) <|
    if (p_Z s14 (p_R s14 v0 79) (5 : Int).toNat) ≠ (p_rem (p_w ((p_w ((p_w ((p_w (7 * (p_Z s14 (p_R s14 v0 79) (1 : Int).toNat))) + (p_w (5 * (p_Z s14 (p_R s14 v0 79) (2 : Int).toNat))))) + (p_w (3 * (p_Z s14 (p_R s14 v0 79) (3 : Int).toNat))))) + (p_Z s14 (p_R s14 v0 79) (4 : Int).toNat))) 97) then
      some (0, s14)
    else
      some (1, s14)
  else
    p_gd (p_is s0 v0 11) <|
    p_bd (F_Mo_asked v0 v1 v3 s0) fun r28 s24 =>
    p_gd (p_is s24 (p_R s0 v0 79) 100) <|
    p_gd ((0 : Int) ≤ v3 ∧ v3 < (p_L s24 (p_R s0 v0 79) : Int)) <|
    p_bi (p_wZ s24 (p_R s0 v0 79) (v3 : Int).toNat r28) fun s31 =>
    p_gd (p_is s31 (p_R s31 v0 79) 100) <|
    p_gd ((0 : Int) ≤ v3 ∧ v3 < (p_L s31 (p_R s31 v0 79) : Int)) <|
    if 0 ≤ (p_Z s31 (p_R s31 v0 79) (v3 : Int).toNat) then
      p_bi (p_w (v3 + 1)) fun x36 =>
      k206 v0 v1 x36 s31
    else
      some (0, s31)
def O_Mo_reads_206  : Nat → Nat → Int → Int → p_Hp → Option (Int × p_Hp)
  | 0 => fun _ _ _ _ => none
  | n + 1 => L_Mo_reads_206 (O_Mo_reads_206 n)
def F_Mo_reads (v0 : Nat) (v1 : Int) (s0 : p_Hp) : Option (Int × p_Hp) :=
  p_gd (p_is s0 v0 11) <|
  p_bi (p_wZ s0 v0 78 0) fun s2 =>
  p_bd (F_Mo_asked v0 v1 0 s2) fun r8 s4 =>
  if r8 ≠ 65 then
    if r8 = 66 then
      O_Mo_reads_206 3000 v0 v1 1 s4
    else
      some (0, s4)
  else
    O_Mo_reads_20 3000 v0 v1 1 s4
set_option maxRecDepth 100000 in
set_option maxHeartbeats 4000000 in
theorem tL_Mo_reads_20 (K : p_K) (l : Launch) (k20 : Nat → Int → Int → p_Hp → Option (Int × p_Hp)) (hk20 : ∀ (v0 : Nat) (v1 : Int) (v3 : Int)  (s0 : p_Hp) (r : (Int × p_Hp)), k20 v0 v1 v3 s0 = some r → p_Go K l m_Mo_reads 20 [(0, p_r v0), (1, p_i v1), (3, p_i v3)] [] s0 (some (p_i r.1), r.2)) (v0 : Nat) (v1 : Int) (v3 : Int) (s0 : p_Hp) (r : (Int × p_Hp)) (h : L_Mo_reads_20 k20 v0 v1 v3 s0 = some r) : p_Go K l m_Mo_reads 20 [(0, p_r v0), (1, p_i v1), (3, p_i v3)] [] s0 (some (p_i r.1), r.2) := by
  unfold L_Mo_reads_20 at h
  refine g_iload_n (i := 3) (j := 2) (dk_Mo_reads 13 rfl) rfl rfl ?_
  refine g_bipush (dk_Mo_reads 14 rfl) (by decide +kernel) (by decide) ?_
  refine g_icmp_ge 67 (dk_Mo_reads 15 rfl) (by decide) (fun b1 => ?_) (fun b1 => ?_)
  · have h := p_ifT b1 h
    refine g_aload_n (i := 0) (j := 0) (dk_Mo_reads 38 rfl) rfl rfl ?_
    refine g_bipush (dk_Mo_reads 39 rfl) (by decide +kernel) (by decide) ?_
    refine g_aload_n (i := 0) (j := 0) (dk_Mo_reads 40 rfl) rfl rfl ?_
    obtain ⟨c2, h⟩ := p_gdE h
    refine g_getR fl_Mo_204 (Or.inr ⟨_, rfl⟩) (dk_Mo_reads 41 rfl) c2 ?_
    refine g_iconst (dk_Mo_reads 42 rfl) (by decide) ?_
    obtain ⟨c3, h⟩ := p_gdE h
    obtain ⟨c4, h⟩ := p_gdE h
    refine g_iaload (dk_Mo_reads 43 rfl) c3 c4.1 c4.2 ?_
    refine g_imul (dk_Mo_reads 44 rfl) ?_
    refine g_aload_n (i := 0) (j := 0) (dk_Mo_reads 45 rfl) rfl rfl ?_
    refine g_getR fl_Mo_204 (Or.inr ⟨_, rfl⟩) (dk_Mo_reads 46 rfl) c2 ?_
    refine g_iconst (dk_Mo_reads 47 rfl) (by decide) ?_
    obtain ⟨c5, h⟩ := p_gdE h
    refine g_iaload (dk_Mo_reads 48 rfl) c3 c5.1 c5.2 ?_
    refine g_iadd (dk_Mo_reads 49 rfl) ?_
    refine g_putI fl_Mo_420 (Or.inl rfl) (dk_Mo_reads 50 rfl) c2 ?_
    refine p_ltS (P := fun q => p_Go K l m_Mo_reads 87 [(0, p_r v0), (1, p_i v1), (3, p_i v3)] [] q _) (p_xZ _ _ _ _) ?_ h
    intro s6 hs7 h
    refine g_aload_n (i := 0) (j := 0) (dk_Mo_reads 51 rfl) rfl rfl ?_
    refine g_bipush (dk_Mo_reads 52 rfl) (by decide +kernel) (by decide) ?_
    refine g_aload_n (i := 0) (j := 0) (dk_Mo_reads 53 rfl) rfl rfl ?_
    refine g_getR fl_Mo_204 (Or.inr ⟨_, rfl⟩) (dk_Mo_reads 54 rfl) (c2.up hs7) ?_
    refine g_iconst (dk_Mo_reads 55 rfl) (by decide) ?_
    obtain ⟨c8, h⟩ := p_gdE h
    obtain ⟨c9, h⟩ := p_gdE h
    refine g_iaload (dk_Mo_reads 56 rfl) c8 c9.1 c9.2 ?_
    refine g_imul (dk_Mo_reads 57 rfl) ?_
    refine g_bipush (dk_Mo_reads 58 rfl) (by decide +kernel) (by decide) ?_
    refine g_aload_n (i := 0) (j := 0) (dk_Mo_reads 59 rfl) rfl rfl ?_
    refine g_getR fl_Mo_204 (Or.inr ⟨_, rfl⟩) (dk_Mo_reads 60 rfl) (c2.up hs7) ?_
    refine g_iconst (dk_Mo_reads 61 rfl) (by decide) ?_
    obtain ⟨c10, h⟩ := p_gdE h
    refine g_iaload (dk_Mo_reads 62 rfl) c8 c10.1 c10.2 ?_
    refine g_imul (dk_Mo_reads 63 rfl) ?_
    refine g_iadd (dk_Mo_reads 64 rfl) ?_
    refine g_aload_n (i := 0) (j := 0) (dk_Mo_reads 65 rfl) rfl rfl ?_
    refine g_getR fl_Mo_204 (Or.inr ⟨_, rfl⟩) (dk_Mo_reads 66 rfl) (c2.up hs7) ?_
    refine g_iconst (dk_Mo_reads 67 rfl) (by decide) ?_
    obtain ⟨c11, h⟩ := p_gdE h
    refine g_iaload (dk_Mo_reads 68 rfl) c8 c11.1 c11.2 ?_
    refine g_iadd (dk_Mo_reads 69 rfl) ?_
    refine g_putI fl_Mo_423 (Or.inl rfl) (dk_Mo_reads 70 rfl) (c2.up hs7) ?_
    refine p_ltS (P := fun q => p_Go K l m_Mo_reads 117 [(0, p_r v0), (1, p_i v1), (3, p_i v3)] [] q _) (p_xZ _ _ _ _) ?_ h
    intro s12 hs13 h
    refine g_aload_n (i := 0) (j := 0) (dk_Mo_reads 71 rfl) rfl rfl ?_
    refine g_aload_n (i := 0) (j := 0) (dk_Mo_reads 72 rfl) rfl rfl ?_
    refine g_getR fl_Mo_204 (Or.inr ⟨_, rfl⟩) (dk_Mo_reads 73 rfl) (c2.up (hs7.trans hs13)) ?_
    refine g_bipush (dk_Mo_reads 74 rfl) (by decide +kernel) (by decide) ?_
    obtain ⟨c14, h⟩ := p_gdE h
    obtain ⟨c15, h⟩ := p_gdE h
    refine g_iaload (dk_Mo_reads 75 rfl) c14 c15.1 c15.2 ?_
    refine g_putI fl_Mo_426 (Or.inl rfl) (dk_Mo_reads 76 rfl) (c2.up (hs7.trans hs13)) ?_
    refine p_ltS (P := fun q => p_Go K l m_Mo_reads 128 [(0, p_r v0), (1, p_i v1), (3, p_i v3)] [] q _) (p_xZ _ _ _ _) ?_ h
    intro s16 hs17 h
    refine g_iconst (dk_Mo_reads 77 rfl) (by decide) ?_
    refine g_aload_n (i := 0) (j := 0) (dk_Mo_reads 78 rfl) rfl rfl ?_
    refine g_getR fl_Mo_204 (Or.inr ⟨_, rfl⟩) (dk_Mo_reads 79 rfl) (c2.up (hs7.trans (hs13.trans hs17))) ?_
    refine g_iconst (dk_Mo_reads 80 rfl) (by decide) ?_
    obtain ⟨c18, h⟩ := p_gdE h
    obtain ⟨c19, h⟩ := p_gdE h
    refine g_iaload (dk_Mo_reads 81 rfl) c18 c19.1 c19.2 ?_
    refine g_imul (dk_Mo_reads 82 rfl) ?_
    refine g_aload_n (i := 0) (j := 0) (dk_Mo_reads 83 rfl) rfl rfl ?_
    refine g_getR fl_Mo_204 (Or.inr ⟨_, rfl⟩) (dk_Mo_reads 84 rfl) (c2.up (hs7.trans (hs13.trans hs17))) ?_
    refine g_iconst (dk_Mo_reads 85 rfl) (by decide) ?_
    obtain ⟨c20, h⟩ := p_gdE h
    refine g_iaload (dk_Mo_reads 86 rfl) c18 c20.1 c20.2 ?_
    refine g_iadd (dk_Mo_reads 87 rfl) ?_
    refine g_iconst (dk_Mo_reads 88 rfl) (by decide) ?_
    refine g_aload_n (i := 0) (j := 0) (dk_Mo_reads 89 rfl) rfl rfl ?_
    refine g_getR fl_Mo_204 (Or.inr ⟨_, rfl⟩) (dk_Mo_reads 90 rfl) (c2.up (hs7.trans (hs13.trans hs17))) ?_
    refine g_iconst (dk_Mo_reads 91 rfl) (by decide) ?_
    obtain ⟨c21, h⟩ := p_gdE h
    refine g_iaload (dk_Mo_reads 92 rfl) c18 c21.1 c21.2 ?_
    refine g_imul (dk_Mo_reads 93 rfl) ?_
    refine g_iadd (dk_Mo_reads 94 rfl) ?_
    refine g_aload_n (i := 0) (j := 0) (dk_Mo_reads 95 rfl) rfl rfl ?_
    refine g_getR fl_Mo_204 (Or.inr ⟨_, rfl⟩) (dk_Mo_reads 96 rfl) (c2.up (hs7.trans (hs13.trans hs17))) ?_
    refine g_iconst (dk_Mo_reads 97 rfl) (by decide) ?_
    obtain ⟨c22, h⟩ := p_gdE h
    refine g_iaload (dk_Mo_reads 98 rfl) c18 c22.1 c22.2 ?_
    refine g_iadd (dk_Mo_reads 99 rfl) ?_
    refine g_iconst (dk_Mo_reads 100 rfl) (by decide) ?_
    refine g_aload_n (i := 0) (j := 0) (dk_Mo_reads 101 rfl) rfl rfl ?_
    refine g_getR fl_Mo_204 (Or.inr ⟨_, rfl⟩) (dk_Mo_reads 102 rfl) (c2.up (hs7.trans (hs13.trans hs17))) ?_
    refine g_iconst (dk_Mo_reads 103 rfl) (by decide) ?_
    obtain ⟨c23, h⟩ := p_gdE h
    refine g_iaload (dk_Mo_reads 104 rfl) c18 c23.1 c23.2 ?_
    refine g_imul (dk_Mo_reads 105 rfl) ?_
    refine g_iadd (dk_Mo_reads 106 rfl) ?_
    refine g_aload_n (i := 0) (j := 0) (dk_Mo_reads 107 rfl) rfl rfl ?_
    refine g_getR fl_Mo_204 (Or.inr ⟨_, rfl⟩) (dk_Mo_reads 108 rfl) (c2.up (hs7.trans (hs13.trans hs17))) ?_
    refine g_bipush (dk_Mo_reads 109 rfl) (by decide +kernel) (by decide) ?_
    obtain ⟨c24, h⟩ := p_gdE h
    refine g_iaload (dk_Mo_reads 110 rfl) c18 c24.1 c24.2 ?_
    refine g_iadd (dk_Mo_reads 111 rfl) ?_
    refine g_aload_n (i := 0) (j := 0) (dk_Mo_reads 112 rfl) rfl rfl ?_
    refine g_getR fl_Mo_204 (Or.inr ⟨_, rfl⟩) (dk_Mo_reads 113 rfl) (c2.up (hs7.trans (hs13.trans hs17))) ?_
    refine g_bipush (dk_Mo_reads 114 rfl) (by decide +kernel) (by decide) ?_
    obtain ⟨c25, h⟩ := p_gdE h
    refine g_iaload (dk_Mo_reads 115 rfl) c18 c25.1 c25.2 ?_
    refine g_iadd (dk_Mo_reads 116 rfl) ?_
    refine g_bipush (dk_Mo_reads 117 rfl) (by decide +kernel) (by decide) ?_
    refine g_irem (dk_Mo_reads 118 rfl) (by decide) ?_
    refine g_if_ne 194 (dk_Mo_reads 119 rfl) (by decide) (fun b26 => ?_) (fun b26 => ?_)
    · have h := p_ifT b26 h
      refine g_iconst (dk_Mo_reads 122 rfl) (by decide) ?_
      cases h
      exact g_ret rfl rfl (dk_Mo_reads 123 rfl) (fun _ => ⟨_, rfl, Or.inl rfl⟩)
    · have h := p_ifF b26 h
      refine g_iconst (dk_Mo_reads 120 rfl) (by decide) ?_
      refine g_goto 195 (dk_Mo_reads 121 rfl) (by decide) ?_
      cases h
      exact g_ret rfl rfl (dk_Mo_reads 123 rfl) (fun _ => ⟨_, rfl, Or.inr rfl⟩)
  · have h := p_ifF b1 h
    refine g_aload_n (i := 0) (j := 0) (dk_Mo_reads 16 rfl) rfl rfl ?_
    refine g_iload_n (i := 1) (j := 1) (dk_Mo_reads 17 rfl) rfl rfl ?_
    refine g_iload_n (i := 3) (j := 2) (dk_Mo_reads 18 rfl) rfl rfl ?_
    obtain ⟨c27, h⟩ := p_gdE h
    obtain ⟨r32, s28, q29, h⟩ := p_bdE h
    have t30 := tF_Mo_asked K l v0 v1 v3 s0 _ q29
    refine g_callV (a := v0) (ci := 11) (q0 := (RX11, TX11, 90)) (As := [p_i v1, p_i v3]) (rest := []) [p_i r32] mt_Mo_asked rfl rfl tw_8_144 ts_90 tw_8_142 ⟨Nat.le_of_ble_eq_true rfl, Nat.le_of_ble_eq_true rfl⟩ rfl (Nat.le_of_ble_eq_true rfl) (dk_Mo_reads 19 rfl) rfl c27 rfl t30 ?_
    have hs31 : p_x s0 s28 := t30.1
    show p_Go K l m_Mo_reads 32 [(0, p_r v0), (1, p_i v1), (3, p_i v3)] [p_i r32] s28 _
    refine g_istore [(4, p_i r32), (0, p_r v0), (1, p_i v1), (3, p_i v3)] (dk_Mo_reads 20 rfl) (by decide) rfl ?_
    refine g_iload (j := 0) (dk_Mo_reads 21 rfl) rfl ?_
    refine g_bipush (dk_Mo_reads 22 rfl) (by decide +kernel) (by decide) ?_
    refine g_icmp_lt 48 (dk_Mo_reads 23 rfl) (by decide) (fun b33 => ?_) (fun b33 => ?_)
    · have h := p_ifT b33 h
      refine g_iconst (dk_Mo_reads 27 rfl) (by decide) ?_
      cases h
      exact g_ret rfl rfl (dk_Mo_reads 28 rfl) (fun _ => ⟨_, rfl, Or.inl rfl⟩)
    · have h := p_ifF b33 h
      refine g_iload (j := 0) (dk_Mo_reads 24 rfl) rfl ?_
      refine g_bipush (dk_Mo_reads 25 rfl) (by decide +kernel) (by decide) ?_
      refine g_icmp_le 50 (dk_Mo_reads 26 rfl) (by decide) (fun b34 => ?_) (fun b34 => ?_)
      · have h := p_ifT b34 h
        refine g_aload_n (i := 0) (j := 1) (dk_Mo_reads 29 rfl) rfl rfl ?_
        refine g_getR fl_Mo_204 (Or.inr ⟨_, rfl⟩) (dk_Mo_reads 30 rfl) (c27.up hs31) ?_
        refine g_iload_n (i := 3) (j := 3) (dk_Mo_reads 31 rfl) rfl rfl ?_
        refine g_iload (j := 0) (dk_Mo_reads 32 rfl) rfl ?_
        refine g_bipush (dk_Mo_reads 33 rfl) (by decide +kernel) (by decide) ?_
        refine g_isub (dk_Mo_reads 34 rfl) ?_
        obtain ⟨c35, h⟩ := p_gdE h
        obtain ⟨c36, h⟩ := p_gdE h
        refine g_iastore (dk_Mo_reads 35 rfl) c35 c36.1 c36.2 ?_
        refine p_ltS (P := fun q => p_Go K l m_Mo_reads 61 [(4, p_i r32), (0, p_r v0), (1, p_i v1), (3, p_i v3)] [] q _) (p_xZ _ _ _ _) ?_ h
        intro s37 hs38 h
        refine g_iinc (j := 3) [(3, p_i (p_w (v3 + 1))), (4, p_i r32), (0, p_r v0), (1, p_i v1)] (dk_Mo_reads 36 rfl) rfl (by decide) rfl ?_
        refine p_ltG (P := fun q => p_Go K l m_Mo_reads 64 [(3, p_i q), (4, p_i r32), (0, p_r v0), (1, p_i v1)] [] s37 _) ?_ h
        intro x39 h
        refine g_goto 20 (dk_Mo_reads 37 rfl) (by decide) ?_
        refine g_sub [(0, p_r v0), (1, p_i v1), (3, p_i x39)] [2, 3, 0] rfl ?_
        exact hk20 v0 v1 x39 s37 _ h
      · have h := p_ifF b34 h
        refine g_iconst (dk_Mo_reads 27 rfl) (by decide) ?_
        cases h
        exact g_ret rfl rfl (dk_Mo_reads 28 rfl) (fun _ => ⟨_, rfl, Or.inl rfl⟩)
set_option maxRecDepth 100000 in
set_option maxHeartbeats 4000000 in
theorem tO_Mo_reads_20 (K : p_K) (l : Launch)  : ∀ (n : Nat) (v0 : Nat) (v1 : Int) (v3 : Int) (s0 : p_Hp) (r : (Int × p_Hp)), O_Mo_reads_20 n v0 v1 v3 s0 = some r → p_Go K l m_Mo_reads 20 [(0, p_r v0), (1, p_i v1), (3, p_i v3)] [] s0 (some (p_i r.1), r.2) := by
  intro n
  induction n with
  | zero => intro v0 v1 v3 s0 r h; cases (show (none : Option (Int × p_Hp)) = some r from h)
  | succ n ih => intro v0 v1 v3 s0 r h; exact tL_Mo_reads_20 K l _ ih v0 v1 v3 s0 r h
set_option maxRecDepth 100000 in
set_option maxHeartbeats 4000000 in
theorem tL_Mo_reads_206 (K : p_K) (l : Launch) (k206 : Nat → Int → Int → p_Hp → Option (Int × p_Hp)) (hk206 : ∀ (v0 : Nat) (v1 : Int) (v3 : Int)  (s0 : p_Hp) (r : (Int × p_Hp)), k206 v0 v1 v3 s0 = some r → p_Go K l m_Mo_reads 206 [(0, p_r v0), (1, p_i v1), (3, p_i v3)] [] s0 (some (p_i r.1), r.2)) (v0 : Nat) (v1 : Int) (v3 : Int) (s0 : p_Hp) (r : (Int × p_Hp)) (h : L_Mo_reads_206 k206 v0 v1 v3 s0 = some r) : p_Go K l m_Mo_reads 206 [(0, p_r v0), (1, p_i v1), (3, p_i v3)] [] s0 (some (p_i r.1), r.2) := by
  unfold L_Mo_reads_206 at h
  refine g_iload_n (i := 3) (j := 2) (dk_Mo_reads 131 rfl) rfl rfl ?_
  refine g_bipush (dk_Mo_reads 132 rfl) (by decide +kernel) (by decide) ?_
  refine g_icmp_ge 241 (dk_Mo_reads 133 rfl) (by decide) (fun b1 => ?_) (fun b1 => ?_)
  · have h := p_ifT b1 h
    refine g_aload_n (i := 0) (j := 0) (dk_Mo_reads 151 rfl) rfl rfl ?_
    refine g_aload_n (i := 0) (j := 0) (dk_Mo_reads 152 rfl) rfl rfl ?_
    obtain ⟨c2, h⟩ := p_gdE h
    refine g_getR fl_Mo_204 (Or.inr ⟨_, rfl⟩) (dk_Mo_reads 153 rfl) c2 ?_
    refine g_iconst (dk_Mo_reads 154 rfl) (by decide) ?_
    obtain ⟨c3, h⟩ := p_gdE h
    obtain ⟨c4, h⟩ := p_gdE h
    refine g_iaload (dk_Mo_reads 155 rfl) c3 c4.1 c4.2 ?_
    refine g_putI fl_Mo_420 (Or.inl rfl) (dk_Mo_reads 156 rfl) c2 ?_
    refine p_ltS (P := fun q => p_Go K l m_Mo_reads 251 [(0, p_r v0), (1, p_i v1), (3, p_i v3)] [] q _) (p_xZ _ _ _ _) ?_ h
    intro s5 hs6 h
    refine g_aload_n (i := 0) (j := 0) (dk_Mo_reads 157 rfl) rfl rfl ?_
    refine g_sipush (dk_Mo_reads 158 rfl) (by decide +kernel) (by decide) ?_
    refine g_aload_n (i := 0) (j := 0) (dk_Mo_reads 159 rfl) rfl rfl ?_
    refine g_getR fl_Mo_204 (Or.inr ⟨_, rfl⟩) (dk_Mo_reads 160 rfl) (c2.up hs6) ?_
    refine g_iconst (dk_Mo_reads 161 rfl) (by decide) ?_
    obtain ⟨c7, h⟩ := p_gdE h
    obtain ⟨c8, h⟩ := p_gdE h
    refine g_iaload (dk_Mo_reads 162 rfl) c7 c8.1 c8.2 ?_
    refine g_imul (dk_Mo_reads 163 rfl) ?_
    refine g_aload_n (i := 0) (j := 0) (dk_Mo_reads 164 rfl) rfl rfl ?_
    refine g_getR fl_Mo_204 (Or.inr ⟨_, rfl⟩) (dk_Mo_reads 165 rfl) (c2.up hs6) ?_
    refine g_iconst (dk_Mo_reads 166 rfl) (by decide) ?_
    obtain ⟨c9, h⟩ := p_gdE h
    refine g_iaload (dk_Mo_reads 167 rfl) c7 c9.1 c9.2 ?_
    refine g_iadd (dk_Mo_reads 168 rfl) ?_
    refine g_putI fl_Mo_423 (Or.inl rfl) (dk_Mo_reads 169 rfl) (c2.up hs6) ?_
    refine p_ltS (P := fun q => p_Go K l m_Mo_reads 272 [(0, p_r v0), (1, p_i v1), (3, p_i v3)] [] q _) (p_xZ _ _ _ _) ?_ h
    intro s10 hs11 h
    refine g_aload_n (i := 0) (j := 0) (dk_Mo_reads 170 rfl) rfl rfl ?_
    refine g_aload_n (i := 0) (j := 0) (dk_Mo_reads 171 rfl) rfl rfl ?_
    refine g_getR fl_Mo_204 (Or.inr ⟨_, rfl⟩) (dk_Mo_reads 172 rfl) (c2.up (hs6.trans hs11)) ?_
    refine g_iconst (dk_Mo_reads 173 rfl) (by decide) ?_
    obtain ⟨c12, h⟩ := p_gdE h
    obtain ⟨c13, h⟩ := p_gdE h
    refine g_iaload (dk_Mo_reads 174 rfl) c12 c13.1 c13.2 ?_
    refine g_putI fl_Mo_426 (Or.inl rfl) (dk_Mo_reads 175 rfl) (c2.up (hs6.trans hs11)) ?_
    refine p_ltS (P := fun q => p_Go K l m_Mo_reads 282 [(0, p_r v0), (1, p_i v1), (3, p_i v3)] [] q _) (p_xZ _ _ _ _) ?_ h
    intro s14 hs15 h
    refine g_aload_n (i := 0) (j := 0) (dk_Mo_reads 176 rfl) rfl rfl ?_
    refine g_getR fl_Mo_204 (Or.inr ⟨_, rfl⟩) (dk_Mo_reads 177 rfl) (c2.up (hs6.trans (hs11.trans hs15))) ?_
    refine g_iconst (dk_Mo_reads 178 rfl) (by decide) ?_
    obtain ⟨c16, h⟩ := p_gdE h
    obtain ⟨c17, h⟩ := p_gdE h
    refine g_iaload (dk_Mo_reads 179 rfl) c16 c17.1 c17.2 ?_
    refine g_bipush (dk_Mo_reads 180 rfl) (by decide +kernel) (by decide) ?_
    refine g_aload_n (i := 0) (j := 0) (dk_Mo_reads 181 rfl) rfl rfl ?_
    refine g_getR fl_Mo_204 (Or.inr ⟨_, rfl⟩) (dk_Mo_reads 182 rfl) (c2.up (hs6.trans (hs11.trans hs15))) ?_
    refine g_iconst (dk_Mo_reads 183 rfl) (by decide) ?_
    obtain ⟨c18, h⟩ := p_gdE h
    refine g_iaload (dk_Mo_reads 184 rfl) c16 c18.1 c18.2 ?_
    refine g_imul (dk_Mo_reads 185 rfl) ?_
    refine g_iconst (dk_Mo_reads 186 rfl) (by decide) ?_
    refine g_aload_n (i := 0) (j := 0) (dk_Mo_reads 187 rfl) rfl rfl ?_
    refine g_getR fl_Mo_204 (Or.inr ⟨_, rfl⟩) (dk_Mo_reads 188 rfl) (c2.up (hs6.trans (hs11.trans hs15))) ?_
    refine g_iconst (dk_Mo_reads 189 rfl) (by decide) ?_
    obtain ⟨c19, h⟩ := p_gdE h
    refine g_iaload (dk_Mo_reads 190 rfl) c16 c19.1 c19.2 ?_
    refine g_imul (dk_Mo_reads 191 rfl) ?_
    refine g_iadd (dk_Mo_reads 192 rfl) ?_
    refine g_iconst (dk_Mo_reads 193 rfl) (by decide) ?_
    refine g_aload_n (i := 0) (j := 0) (dk_Mo_reads 194 rfl) rfl rfl ?_
    refine g_getR fl_Mo_204 (Or.inr ⟨_, rfl⟩) (dk_Mo_reads 195 rfl) (c2.up (hs6.trans (hs11.trans hs15))) ?_
    refine g_iconst (dk_Mo_reads 196 rfl) (by decide) ?_
    obtain ⟨c20, h⟩ := p_gdE h
    refine g_iaload (dk_Mo_reads 197 rfl) c16 c20.1 c20.2 ?_
    refine g_imul (dk_Mo_reads 198 rfl) ?_
    refine g_iadd (dk_Mo_reads 199 rfl) ?_
    refine g_aload_n (i := 0) (j := 0) (dk_Mo_reads 200 rfl) rfl rfl ?_
    refine g_getR fl_Mo_204 (Or.inr ⟨_, rfl⟩) (dk_Mo_reads 201 rfl) (c2.up (hs6.trans (hs11.trans hs15))) ?_
    refine g_iconst (dk_Mo_reads 202 rfl) (by decide) ?_
    obtain ⟨c21, h⟩ := p_gdE h
    refine g_iaload (dk_Mo_reads 203 rfl) c16 c21.1 c21.2 ?_
    refine g_iadd (dk_Mo_reads 204 rfl) ?_
    refine g_bipush (dk_Mo_reads 205 rfl) (by decide +kernel) (by decide) ?_
    refine g_irem (dk_Mo_reads 206 rfl) (by decide) ?_
    refine g_icmp_ne 332 (dk_Mo_reads 207 rfl) (by decide) (fun b22 => ?_) (fun b22 => ?_)
    · have h := p_ifT b22 h
      refine g_iconst (dk_Mo_reads 210 rfl) (by decide) ?_
      cases h
      exact g_ret rfl rfl (dk_Mo_reads 211 rfl) (fun _ => ⟨_, rfl, Or.inl rfl⟩)
    · have h := p_ifF b22 h
      refine g_iconst (dk_Mo_reads 208 rfl) (by decide) ?_
      refine g_goto 333 (dk_Mo_reads 209 rfl) (by decide) ?_
      cases h
      exact g_ret rfl rfl (dk_Mo_reads 211 rfl) (fun _ => ⟨_, rfl, Or.inr rfl⟩)
  · have h := p_ifF b1 h
    refine g_aload_n (i := 0) (j := 0) (dk_Mo_reads 134 rfl) rfl rfl ?_
    obtain ⟨c23, h⟩ := p_gdE h
    refine g_getR fl_Mo_204 (Or.inr ⟨_, rfl⟩) (dk_Mo_reads 135 rfl) c23 ?_
    refine g_iload_n (i := 3) (j := 2) (dk_Mo_reads 136 rfl) rfl rfl ?_
    refine g_aload_n (i := 0) (j := 0) (dk_Mo_reads 137 rfl) rfl rfl ?_
    refine g_iload_n (i := 1) (j := 1) (dk_Mo_reads 138 rfl) rfl rfl ?_
    refine g_iload_n (i := 3) (j := 2) (dk_Mo_reads 139 rfl) rfl rfl ?_
    obtain ⟨r28, s24, q25, h⟩ := p_bdE h
    have t26 := tF_Mo_asked K l v0 v1 v3 s0 _ q25
    refine g_callV (a := v0) (ci := 11) (q0 := (RX11, TX11, 90)) (As := [p_i v1, p_i v3]) (rest := [p_i v3, p_r (p_R s0 v0 79)]) [p_i r28, p_i v3, p_r (p_R s0 v0 79)] mt_Mo_asked rfl rfl tw_8_144 ts_90 tw_8_142 ⟨Nat.le_of_ble_eq_true rfl, Nat.le_of_ble_eq_true rfl⟩ rfl (Nat.le_of_ble_eq_true rfl) (dk_Mo_reads 140 rfl) rfl c23 rfl t26 ?_
    have hs27 : p_x s0 s24 := t26.1
    show p_Go K l m_Mo_reads 223 [(0, p_r v0), (1, p_i v1), (3, p_i v3)] [p_i r28, p_i v3, p_r (p_R s0 v0 79)] s24 _
    obtain ⟨c29, h⟩ := p_gdE h
    obtain ⟨c30, h⟩ := p_gdE h
    refine g_iastore (dk_Mo_reads 141 rfl) c29 c30.1 c30.2 ?_
    refine p_ltS (P := fun q => p_Go K l m_Mo_reads 224 [(0, p_r v0), (1, p_i v1), (3, p_i v3)] [] q _) (p_xZ _ _ _ _) ?_ h
    intro s31 hs32 h
    refine g_aload_n (i := 0) (j := 0) (dk_Mo_reads 142 rfl) rfl rfl ?_
    refine g_getR fl_Mo_204 (Or.inr ⟨_, rfl⟩) (dk_Mo_reads 143 rfl) (c23.up (hs27.trans hs32)) ?_
    refine g_iload_n (i := 3) (j := 2) (dk_Mo_reads 144 rfl) rfl rfl ?_
    obtain ⟨c33, h⟩ := p_gdE h
    obtain ⟨c34, h⟩ := p_gdE h
    refine g_iaload (dk_Mo_reads 145 rfl) c33 c34.1 c34.2 ?_
    refine g_if_ge 235 (dk_Mo_reads 146 rfl) (by decide) (fun b35 => ?_) (fun b35 => ?_)
    · have h := p_ifT b35 h
      refine g_iinc (j := 2) [(3, p_i (p_w (v3 + 1))), (0, p_r v0), (1, p_i v1)] (dk_Mo_reads 149 rfl) rfl (by decide) rfl ?_
      refine p_ltG (P := fun q => p_Go K l m_Mo_reads 238 [(3, p_i q), (0, p_r v0), (1, p_i v1)] [] s31 _) ?_ h
      intro x36 h
      refine g_goto 206 (dk_Mo_reads 150 rfl) (by decide) ?_
      refine g_sub [(0, p_r v0), (1, p_i v1), (3, p_i x36)] [1, 2, 0] rfl ?_
      exact hk206 v0 v1 x36 s31 _ h
    · have h := p_ifF b35 h
      refine g_iconst (dk_Mo_reads 147 rfl) (by decide) ?_
      cases h
      exact g_ret rfl rfl (dk_Mo_reads 148 rfl) (fun _ => ⟨_, rfl, Or.inl rfl⟩)
set_option maxRecDepth 100000 in
set_option maxHeartbeats 4000000 in
theorem tO_Mo_reads_206 (K : p_K) (l : Launch)  : ∀ (n : Nat) (v0 : Nat) (v1 : Int) (v3 : Int) (s0 : p_Hp) (r : (Int × p_Hp)), O_Mo_reads_206 n v0 v1 v3 s0 = some r → p_Go K l m_Mo_reads 206 [(0, p_r v0), (1, p_i v1), (3, p_i v3)] [] s0 (some (p_i r.1), r.2) := by
  intro n
  induction n with
  | zero => intro v0 v1 v3 s0 r h; cases (show (none : Option (Int × p_Hp)) = some r from h)
  | succ n ih => intro v0 v1 v3 s0 r h; exact tL_Mo_reads_206 K l _ ih v0 v1 v3 s0 r h
set_option maxRecDepth 100000 in
set_option maxHeartbeats 4000000 in
theorem tF_Mo_reads (K : p_K) (l : Launch) (v0 : Nat) (v1 : Int) (s0 : p_Hp) (r : (Int × p_Hp)) (h : F_Mo_reads v0 v1 s0 = some r) : p_Ct K l m_Mo_reads [p_r v0, p_i v1] s0 (some (p_i r.1), r.2) := by
  refine p_Ct.of (by decide +kernel) (Nat.le_of_ble_eq_true rfl) ?_
  unfold F_Mo_reads at h
  show p_Go K l m_Mo_reads 0 [(0, p_r v0), (1, p_i v1)] [] s0 _
  refine g_aload_n (i := 0) (j := 0) (dk_Mo_reads 0 rfl) rfl rfl ?_
  refine g_iconst (dk_Mo_reads 1 rfl) (by decide) ?_
  obtain ⟨c1, h⟩ := p_gdE h
  refine g_putI fl_Mo_414 (Or.inl rfl) (dk_Mo_reads 2 rfl) c1 ?_
  refine p_ltS (P := fun q => p_Go K l m_Mo_reads 5 [(0, p_r v0), (1, p_i v1)] [] q _) (p_xZ _ _ _ _) ?_ h
  intro s2 hs3 h
  refine g_aload_n (i := 0) (j := 0) (dk_Mo_reads 3 rfl) rfl rfl ?_
  refine g_iload_n (i := 1) (j := 1) (dk_Mo_reads 4 rfl) rfl rfl ?_
  refine g_iconst (dk_Mo_reads 5 rfl) (by decide) ?_
  obtain ⟨r8, s4, q5, h⟩ := p_bdE h
  have t6 := tF_Mo_asked K l v0 v1 0 s2 _ q5
  refine g_callV (a := v0) (ci := 11) (q0 := (RX11, TX11, 90)) (As := [p_i v1, p_i 0]) (rest := []) [p_i r8] mt_Mo_asked rfl rfl tw_8_144 ts_90 tw_8_142 ⟨Nat.le_of_ble_eq_true rfl, Nat.le_of_ble_eq_true rfl⟩ rfl (Nat.le_of_ble_eq_true rfl) (dk_Mo_reads 6 rfl) rfl (c1.up hs3) rfl t6 ?_
  have hs7 : p_x s2 s4 := t6.1
  show p_Go K l m_Mo_reads 11 [(0, p_r v0), (1, p_i v1)] [p_i r8] s4 _
  refine g_istore_n (i := 2) [(2, p_i r8), (0, p_r v0), (1, p_i v1)] (dk_Mo_reads 7 rfl) rfl (by decide) rfl ?_
  refine g_iload_n (i := 2) (j := 0) (dk_Mo_reads 8 rfl) rfl rfl ?_
  refine g_bipush (dk_Mo_reads 9 rfl) (by decide +kernel) (by decide) ?_
  refine g_icmp_ne 196 (dk_Mo_reads 10 rfl) (by decide) (fun b9 => ?_) (fun b9 => ?_)
  · have h := p_ifT b9 h
    refine g_iload_n (i := 2) (j := 0) (dk_Mo_reads 124 rfl) rfl rfl ?_
    refine g_bipush (dk_Mo_reads 125 rfl) (by decide +kernel) (by decide) ?_
    refine g_icmp_eq 204 (dk_Mo_reads 126 rfl) (by decide) (fun b10 => ?_) (fun b10 => ?_)
    · have h := p_ifT b10 h
      refine g_iconst (dk_Mo_reads 129 rfl) (by decide) ?_
      refine g_istore_n (i := 3) [(3, p_i 1), (2, p_i r8), (0, p_r v0), (1, p_i v1)] (dk_Mo_reads 130 rfl) rfl (by decide) rfl ?_
      refine g_sub [(0, p_r v0), (1, p_i v1), (3, p_i 1)] [2, 3, 0] rfl ?_
      exact tO_Mo_reads_206 K l 3000 v0 v1 1 s4 _ h
    · have h := p_ifF b10 h
      refine g_iconst (dk_Mo_reads 127 rfl) (by decide) ?_
      cases h
      exact g_ret rfl rfl (dk_Mo_reads 128 rfl) (fun _ => ⟨_, rfl, Or.inl rfl⟩)
  · have h := p_ifF b9 h
    refine g_iconst (dk_Mo_reads 11 rfl) (by decide) ?_
    refine g_istore_n (i := 3) [(3, p_i 1), (2, p_i r8), (0, p_r v0), (1, p_i v1)] (dk_Mo_reads 12 rfl) rfl (by decide) rfl ?_
    refine g_sub [(0, p_r v0), (1, p_i v1), (3, p_i 1)] [2, 3, 0] rfl ?_
    exact tO_Mo_reads_20 K l 3000 v0 v1 1 s4 _ h
