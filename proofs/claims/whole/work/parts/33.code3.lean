def m_Step_leaveBy : p_Me := (⟨"SortWorks$Step", "leaveBy", "(IILSortWorks$Parcel;)V"⟩, prog_10_method_24_code, 4, none, 1, 26)
theorem mt_Step_leaveBy : p_Mt m_Step_leaveBy 3 := ⟨p_mem (p_tb5 (List.mem_of_getElem? (i := 38) rfl)) rfl, tw_1_9, by decide +kernel, by decide +kernel, by decide +kernel⟩
def dt_Step_leaveBy : List (Nat × Instr × Nat) := [(0, .aload_n 0, 1), (1, .getfield 28, 3), (4, .aload_n 3, 1), (5, .invokevirtual 338, 3), (8, .aload_n 0, 1), (9, .getfield 28, 3), (12, .getfield 82, 3), (15, .iload_n 1, 1), (16, .aaload, 1), (17, .dup, 1), (18, .getfield 342, 3), (21, .iconst 1, 1), (22, .iadd, 1), (23, .putfield 342, 3), (26, .aload_n 0, 1), (27, .getfield 28, 3), (30, .getfield 82, 3), (33, .iload_n 1, 1), (34, .aaload, 1), (35, .dup, 1), (36, .getfield 345, 3), (39, .iconst 1, 1), (40, .iadd, 1), (41, .putfield 345, 3), (44, .aload_n 0, 1), (45, .getfield 28, 3), (48, .getfield 348, 3), (51, .aload_n 3, 1), (52, .getfield 263, 3), (55, .iload_n 1, 1), (56, .aload_n 0, 1), (57, .getfield 28, 3), (60, .getfield 54, 3), (63, .iload_n 2, 1), (64, .iconst 0, 1), (65, .invokevirtual 102, 3), (68, .aload_n 0, 1), (69, .getfield 29, 3), (72, .aload_n 3, 1), (73, .getfield 263, 3), (76, .aload_n 0, 1), (77, .getfield 18, 3), (80, .getfield 351, 3), (83, .iload_n 1, 1), (84, .invokevirtual 352, 3), (87, .aload_n 3, 1), (88, .iconst 0, 1), (89, .putfield 263, 3), (92, .aload_n 0, 1), (93, .getfield 28, 3), (96, .dup, 1), (97, .getfield 356, 3), (100, .iconst 1, 1), (101, .isub, 1), (102, .putfield 356, 3), (105, .return_, 1)]
theorem dk_Step_leaveBy (i : Nat) {pc : Nat} {ins : Instr} {len : Nat} (h : dt_Step_leaveBy[i]? = some (pc, ins, len)) : decode m_Step_leaveBy.2.1 pc = .ok (ins, len) := p_dk (b := m_Step_leaveBy.2.1) (t := dt_Step_leaveBy) (by decide +kernel) i h
def F_Step_leaveBy (v0 : Nat) (v1 : Int) (v2 : Int) (v3 : Nat) (s0 : p_Hp) : Option p_Hp :=
  p_gd (p_is s0 v0 8) <|
  p_gd (p_is s0 (p_R s0 v0 3) 7) <|
  p_bv (F_State_lift (p_R s0 v0 3) v3 s0) fun s3 =>
  p_gd (p_is s3 (p_R s3 v0 3) 7) <|
  p_gd (p_is s3 (p_R s3 (p_R s3 v0 3) 4) 105) <|
  p_gd ((0 : Int) ≤ v1 ∧ v1 < (p_L s3 (p_R s3 (p_R s3 v0 3) 4) : Int)) <|
  p_gd (p_is s3 (p_R s3 (p_R s3 (p_R s3 v0 3) 4) (v1 : Int).toNat) 0) <|
  p_bi (p_wZ s3 (p_R s3 (p_R s3 (p_R s3 v0 3) 4) (v1 : Int).toNat) 10 (p_w ((p_Z s3 (p_R s3 (p_R s3 (p_R s3 v0 3) 4) (v1 : Int).toNat) 10) + 1))) fun s11 =>
  p_gd (p_is s11 (p_R s11 v0 3) 7) <|
  p_gd (p_is s11 (p_R s11 (p_R s11 v0 3) 4) 105) <|
  p_gd ((0 : Int) ≤ v1 ∧ v1 < (p_L s11 (p_R s11 (p_R s11 v0 3) 4) : Int)) <|
  p_gd (p_is s11 (p_R s11 (p_R s11 (p_R s11 v0 3) 4) (v1 : Int).toNat) 0) <|
  p_bi (p_wZ s11 (p_R s11 (p_R s11 (p_R s11 v0 3) 4) (v1 : Int).toNat) 11 (p_w ((p_Z s11 (p_R s11 (p_R s11 (p_R s11 v0 3) 4) (v1 : Int).toNat) 11) + 1))) fun s17 =>
  p_gd (p_is s17 (p_R s17 v0 3) 7) <|
  p_gd (p_is s17 v3 4) <|
  p_gd (p_is s17 (p_R s17 (p_R s17 v0 3) 8) 2) <|
  p_bv (F_Log_add (p_R s17 (p_R s17 v0 3) 8) (p_Z s17 v3 1) v1 (p_Z s17 (p_R s17 v0 3) 0) v2 0 s17) fun s22 =>
  p_gd (p_is s22 (p_R s22 v0 2) 9) <|
  p_gd (p_is s22 (p_R s22 v0 1) 3) <|
  p_bv (F_Numbers_takeOut (p_R s22 v0 1) (p_Z s22 v3 1) (p_Z s22 (p_R s22 v0 2) 0) v1 s22) fun s28 =>
  p_bi (p_wZ s28 v3 1 0) fun s32 =>
  p_gd (p_is s32 (p_R s32 v0 3) 7) <|
  p_bi (p_wZ s32 (p_R s32 v0 3) 2 (p_w ((p_Z s32 (p_R s32 v0 3) 2) - 1))) fun s35 =>
  some s35
set_option maxRecDepth 100000 in
set_option maxHeartbeats 4000000 in
theorem tF_Step_leaveBy (K : p_K) (l : Launch) (v0 : Nat) (v1 : Int) (v2 : Int) (v3 : Nat) (s0 : p_Hp) (r : p_Hp) (h : F_Step_leaveBy v0 v1 v2 v3 s0 = some r) : p_Ct K l m_Step_leaveBy [p_r v0, p_i v1, p_i v2, p_r v3] s0 (none, r) := by
  refine p_Ct.of (by decide +kernel) (Nat.le_of_ble_eq_true rfl) ?_
  unfold F_Step_leaveBy at h
  show p_Go K l m_Step_leaveBy 0 [(0, p_r v0), (1, p_i v1), (2, p_i v2), (3, p_r v3)] [] s0 _
  refine g_aload_n (i := 0) (j := 0) (dk_Step_leaveBy 0 rfl) rfl rfl ?_
  obtain ⟨c1, h⟩ := p_gdE h
  refine g_getR fl_Step_28 (Or.inl ⟨_, rfl⟩) (dk_Step_leaveBy 1 rfl) c1 ?_
  refine g_aload_n (i := 3) (j := 3) (dk_Step_leaveBy 2 rfl) rfl rfl ?_
  obtain ⟨c2, h⟩ := p_gdE h
  obtain ⟨s3, q4, h⟩ := p_bvE h
  have t5 := tF_State_lift K l (p_R s0 v0 3) v3 s0 _ q4
  refine g_callV (a := (p_R s0 v0 3)) (ci := 7) (q0 := (RX7, TX7, 10)) (As := [p_r v3]) (rest := []) [] mt_State_lift rfl rfl tw_4_88 tw_4_89 tw_5_39 ⟨Nat.le_of_ble_eq_true rfl, Nat.le_of_ble_eq_true rfl⟩ rfl (Nat.le_of_ble_eq_true rfl) (dk_Step_leaveBy 3 rfl) rfl c2 rfl t5 ?_
  have hs6 : p_x s0 s3 := t5.1
  show p_Go K l m_Step_leaveBy 8 [(0, p_r v0), (1, p_i v1), (2, p_i v2), (3, p_r v3)] [] s3 _
  refine g_aload_n (i := 0) (j := 0) (dk_Step_leaveBy 4 rfl) rfl rfl ?_
  refine g_getR fl_Step_28 (Or.inl ⟨_, rfl⟩) (dk_Step_leaveBy 5 rfl) (c1.up hs6) ?_
  obtain ⟨c7, h⟩ := p_gdE h
  refine g_getR fl_Step_82 (Or.inr ⟨_, rfl⟩) (dk_Step_leaveBy 6 rfl) c7 ?_
  refine g_iload_n (i := 1) (j := 1) (dk_Step_leaveBy 7 rfl) rfl rfl ?_
  obtain ⟨c8, h⟩ := p_gdE h
  obtain ⟨c9, h⟩ := p_gdE h
  refine g_aaload (i := 5) rfl (Or.inl ⟨_, rfl⟩) (dk_Step_leaveBy 8 rfl) c8 c9.1 c9.2 ?_
  refine g_dup (dk_Step_leaveBy 9 rfl) rfl ?_
  obtain ⟨c10, h⟩ := p_gdE h
  refine g_getI fl_Step_342 (Or.inl rfl) (dk_Step_leaveBy 10 rfl) c10 ?_
  refine g_iconst (dk_Step_leaveBy 11 rfl) (by decide) ?_
  refine g_iadd (dk_Step_leaveBy 12 rfl) ?_
  refine g_putI fl_Step_342 (Or.inl rfl) (dk_Step_leaveBy 13 rfl) c10 ?_
  refine p_ltS (P := fun q => p_Go K l m_Step_leaveBy 26 [(0, p_r v0), (1, p_i v1), (2, p_i v2), (3, p_r v3)] [] q _) (p_xZ _ _ _ _) ?_ h
  intro s11 hs12 h
  refine g_aload_n (i := 0) (j := 0) (dk_Step_leaveBy 14 rfl) rfl rfl ?_
  refine g_getR fl_Step_28 (Or.inl ⟨_, rfl⟩) (dk_Step_leaveBy 15 rfl) (c1.up (hs6.trans hs12)) ?_
  obtain ⟨c13, h⟩ := p_gdE h
  refine g_getR fl_Step_82 (Or.inr ⟨_, rfl⟩) (dk_Step_leaveBy 16 rfl) c13 ?_
  refine g_iload_n (i := 1) (j := 1) (dk_Step_leaveBy 17 rfl) rfl rfl ?_
  obtain ⟨c14, h⟩ := p_gdE h
  obtain ⟨c15, h⟩ := p_gdE h
  refine g_aaload (i := 5) rfl (Or.inl ⟨_, rfl⟩) (dk_Step_leaveBy 18 rfl) c14 c15.1 c15.2 ?_
  refine g_dup (dk_Step_leaveBy 19 rfl) rfl ?_
  obtain ⟨c16, h⟩ := p_gdE h
  refine g_getI fl_Step_345 (Or.inl rfl) (dk_Step_leaveBy 20 rfl) c16 ?_
  refine g_iconst (dk_Step_leaveBy 21 rfl) (by decide) ?_
  refine g_iadd (dk_Step_leaveBy 22 rfl) ?_
  refine g_putI fl_Step_345 (Or.inl rfl) (dk_Step_leaveBy 23 rfl) c16 ?_
  refine p_ltS (P := fun q => p_Go K l m_Step_leaveBy 44 [(0, p_r v0), (1, p_i v1), (2, p_i v2), (3, p_r v3)] [] q _) (p_xZ _ _ _ _) ?_ h
  intro s17 hs18 h
  refine g_aload_n (i := 0) (j := 0) (dk_Step_leaveBy 24 rfl) rfl rfl ?_
  refine g_getR fl_Step_28 (Or.inl ⟨_, rfl⟩) (dk_Step_leaveBy 25 rfl) (c1.up (hs6.trans (hs12.trans hs18))) ?_
  obtain ⟨c19, h⟩ := p_gdE h
  refine g_getR fl_Step_348 (Or.inl ⟨_, rfl⟩) (dk_Step_leaveBy 26 rfl) c19 ?_
  refine g_aload_n (i := 3) (j := 3) (dk_Step_leaveBy 27 rfl) rfl rfl ?_
  obtain ⟨c20, h⟩ := p_gdE h
  refine g_getI fl_Step_263 (Or.inl rfl) (dk_Step_leaveBy 28 rfl) c20 ?_
  refine g_iload_n (i := 1) (j := 1) (dk_Step_leaveBy 29 rfl) rfl rfl ?_
  refine g_aload_n (i := 0) (j := 0) (dk_Step_leaveBy 30 rfl) rfl rfl ?_
  refine g_getR fl_Step_28 (Or.inl ⟨_, rfl⟩) (dk_Step_leaveBy 31 rfl) (c1.up (hs6.trans (hs12.trans hs18))) ?_
  refine g_getI fl_Step_54 (Or.inl rfl) (dk_Step_leaveBy 32 rfl) c19 ?_
  refine g_iload_n (i := 2) (j := 2) (dk_Step_leaveBy 33 rfl) rfl rfl ?_
  refine g_iconst (dk_Step_leaveBy 34 rfl) (by decide) ?_
  obtain ⟨c21, h⟩ := p_gdE h
  obtain ⟨s22, q23, h⟩ := p_bvE h
  have t24 := tF_Log_add K l (p_R s17 (p_R s17 v0 3) 8) (p_Z s17 v3 1) v1 (p_Z s17 (p_R s17 v0 3) 0) v2 0 s17 _ q23
  refine g_callV (a := (p_R s17 (p_R s17 v0 3) 8)) (ci := 2) (q0 := (RX2, TX2, 6)) (As := [p_i (p_Z s17 v3 1), p_i v1, p_i (p_Z s17 (p_R s17 v0 3) 0), p_i v2, p_i 0]) (rest := []) [] mt_Log_add rfl rfl tw_4_184 tw_4_185 tw_4_183 ⟨Nat.le_of_ble_eq_true rfl, Nat.le_of_ble_eq_true rfl⟩ rfl (Nat.le_of_ble_eq_true rfl) (dk_Step_leaveBy 35 rfl) rfl c21 rfl t24 ?_
  have hs25 : p_x s17 s22 := t24.1
  show p_Go K l m_Step_leaveBy 68 [(0, p_r v0), (1, p_i v1), (2, p_i v2), (3, p_r v3)] [] s22 _
  refine g_aload_n (i := 0) (j := 0) (dk_Step_leaveBy 36 rfl) rfl rfl ?_
  refine g_getR fl_Step_29 (Or.inl ⟨_, rfl⟩) (dk_Step_leaveBy 37 rfl) (c1.up (hs6.trans (hs12.trans (hs18.trans hs25)))) ?_
  refine g_aload_n (i := 3) (j := 3) (dk_Step_leaveBy 38 rfl) rfl rfl ?_
  refine g_getI fl_Step_263 (Or.inl rfl) (dk_Step_leaveBy 39 rfl) (c20.up hs25) ?_
  refine g_aload_n (i := 0) (j := 0) (dk_Step_leaveBy 40 rfl) rfl rfl ?_
  refine g_getR fl_Step_18 (Or.inl ⟨_, rfl⟩) (dk_Step_leaveBy 41 rfl) (c1.up (hs6.trans (hs12.trans (hs18.trans hs25)))) ?_
  obtain ⟨c26, h⟩ := p_gdE h
  refine g_getI fl_Step_351 (Or.inl rfl) (dk_Step_leaveBy 42 rfl) c26 ?_
  refine g_iload_n (i := 1) (j := 1) (dk_Step_leaveBy 43 rfl) rfl rfl ?_
  obtain ⟨c27, h⟩ := p_gdE h
  obtain ⟨s28, q29, h⟩ := p_bvE h
  have t30 := tF_Numbers_takeOut K l (p_R s22 v0 1) (p_Z s22 v3 1) (p_Z s22 (p_R s22 v0 2) 0) v1 s22 _ q29
  refine g_callV (a := (p_R s22 v0 1)) (ci := 3) (q0 := (RX3, TX3, 2)) (As := [p_i (p_Z s22 v3 1), p_i (p_Z s22 (p_R s22 v0 2) 0), p_i v1]) (rest := []) [] mt_Numbers_takeOut rfl rfl tw_5_41 tw_5_42 tw_5_40 ⟨Nat.le_of_ble_eq_true rfl, Nat.le_of_ble_eq_true rfl⟩ rfl (Nat.le_of_ble_eq_true rfl) (dk_Step_leaveBy 44 rfl) rfl c27 rfl t30 ?_
  have hs31 : p_x s22 s28 := t30.1
  show p_Go K l m_Step_leaveBy 87 [(0, p_r v0), (1, p_i v1), (2, p_i v2), (3, p_r v3)] [] s28 _
  refine g_aload_n (i := 3) (j := 3) (dk_Step_leaveBy 45 rfl) rfl rfl ?_
  refine g_iconst (dk_Step_leaveBy 46 rfl) (by decide) ?_
  refine g_putI fl_Step_263 (Or.inl rfl) (dk_Step_leaveBy 47 rfl) (c20.up (hs25.trans hs31)) ?_
  refine p_ltS (P := fun q => p_Go K l m_Step_leaveBy 92 [(0, p_r v0), (1, p_i v1), (2, p_i v2), (3, p_r v3)] [] q _) (p_xZ _ _ _ _) ?_ h
  intro s32 hs33 h
  refine g_aload_n (i := 0) (j := 0) (dk_Step_leaveBy 48 rfl) rfl rfl ?_
  refine g_getR fl_Step_28 (Or.inl ⟨_, rfl⟩) (dk_Step_leaveBy 49 rfl) (c1.up (hs6.trans (hs12.trans (hs18.trans (hs25.trans (hs31.trans hs33)))))) ?_
  refine g_dup (dk_Step_leaveBy 50 rfl) rfl ?_
  obtain ⟨c34, h⟩ := p_gdE h
  refine g_getI fl_Step_356 (Or.inl rfl) (dk_Step_leaveBy 51 rfl) c34 ?_
  refine g_iconst (dk_Step_leaveBy 52 rfl) (by decide) ?_
  refine g_isub (dk_Step_leaveBy 53 rfl) ?_
  refine g_putI fl_Step_356 (Or.inl rfl) (dk_Step_leaveBy 54 rfl) c34 ?_
  refine p_ltS (P := fun q => p_Go K l m_Step_leaveBy 105 [(0, p_r v0), (1, p_i v1), (2, p_i v2), (3, p_r v3)] [] q _) (p_xZ _ _ _ _) ?_ h
  intro s35 hs36 h
  cases h
  exact g_ret rfl rfl (dk_Step_leaveBy 55 rfl) (fun _ => rfl)
def m_Step_giveOut : p_Me := (⟨"SortWorks$Step", "giveOut", "(ILSortWorks$Gear;LSortWorks$Parcel;)Z"⟩, prog_10_method_23_code, 8, (some .boolean), 2, 50)
theorem mt_Step_giveOut : p_Mt m_Step_giveOut 3 := ⟨p_mem (p_tb5 (List.mem_of_getElem? (i := 34) rfl)) rfl, tw_1_9, by decide +kernel, by decide +kernel, by decide +kernel⟩
def dt_Step_giveOut : List (Nat × Instr × Nat) := [(0, .aload_n 2, 1), (1, .getfield 247, 3), (4, .iconst (-1), 1), (5, .if_icmp .ne 7, 3), (8, .iconst 1, 1), (9, .goto 7, 3), (12, .aload_n 2, 1), (13, .getfield 247, 3), (16, .istore 4, 2), (18, .iconst 0, 1), (19, .istore 5, 2), (21, .iload 5, 2), (23, .iload 4, 2), (25, .if_icmp .ge 102, 3), (28, .aload_n 0, 1), (29, .getfield 18, 3), (32, .aload_n 2, 1), (33, .iload 5, 2), (35, .invokevirtual 170, 3), (38, .istore 6, 2), (40, .iload 6, 2), (42, .ifCond .ge 8, 3), (45, .iload 6, 2), (47, .goto 27, 3), (50, .aload_n 0, 1), (51, .getfield 28, 3), (54, .getfield 82, 3), (57, .iload 6, 2), (59, .aaload, 1), (60, .getfield 97, 3), (63, .bipush 9, 2), (65, .if_icmp .eq 8, 3), (68, .bipush (-12), 2), (70, .goto 4, 3), (73, .iconst 0, 1), (74, .istore 7, 2), (76, .iload 7, 2), (78, .ifCond .eq 17, 3), (81, .aload_n 0, 1), (82, .iload_n 1, 1), (83, .iconst 1, 1), (84, .iload 7, 2), (86, .aload_n 3, 1), (87, .getfield 263, 3), (90, .invokevirtual 125, 3), (93, .iconst 0, 1), (94, .ireturn, 1), (95, .aload_n 0, 1), (96, .getfield 28, 3), (99, .getfield 82, 3), (102, .iload 6, 2), (104, .aaload, 1), (105, .getfield 145, 3), (108, .ifCond .eq 13, 3), (111, .aload_n 0, 1), (112, .iload 6, 2), (114, .iload_n 1, 1), (115, .aload_n 3, 1), (116, .invokevirtual 334, 3), (119, .iconst 1, 1), (120, .ireturn, 1), (121, .iinc 5 1, 3), (124, .goto (-103), 3), (127, .iconst 0, 1), (128, .ireturn, 1)]
theorem dk_Step_giveOut (i : Nat) {pc : Nat} {ins : Instr} {len : Nat} (h : dt_Step_giveOut[i]? = some (pc, ins, len)) : decode m_Step_giveOut.2.1 pc = .ok (ins, len) := p_dk (b := m_Step_giveOut.2.1) (t := dt_Step_giveOut) (by decide +kernel) i h
def B_Step_giveOut_74 (k21 : Nat → Int → Nat → Nat → Int → Int → p_Hp → Option (Int × p_Hp)) (v0 : Nat) (v1 : Int) (v2 : Nat) (v3 : Nat) (v4 : Int) (v5 : Int) (v6 : Int) (w0 : Int) (s0 : p_Hp) : Option (Int × p_Hp) :=
  if w0 = 0 then
    p_gd (p_is s0 v0 8) <|
    p_gd (p_is s0 (p_R s0 v0 3) 7) <|
    p_gd (p_is s0 (p_R s0 (p_R s0 v0 3) 4) 105) <|
    p_gd ((0 : Int) ≤ v6 ∧ v6 < (p_L s0 (p_R s0 (p_R s0 v0 3) 4) : Int)) <|
    p_gd (p_is s0 (p_R s0 (p_R s0 (p_R s0 v0 3) 4) (v6 : Int).toNat) 0) <|
    if (p_Z s0 (p_R s0 (p_R s0 (p_R s0 v0 3) 4) (v6 : Int).toNat) 7) = 0 then
      p_bi (p_w (v5 + 1)) fun x8 =>
      k21 v0 v1 v2 v3 v4 x8 s0
    else
      p_bv (F_Step_leaveBy v0 v6 v1 v3 s0) fun s9 =>
      some (1, s9)
  else
    p_gd (p_is s0 v3 4) <|
    p_gd (p_is s0 v0 8) <|
    p_bv (F_Step_addFinding v0 v1 1 w0 (p_Z s0 v3 1) s0) fun s15 =>
    some (0, s15)
def L_Step_giveOut_21 (k21 : Nat → Int → Nat → Nat → Int → Int → p_Hp → Option (Int × p_Hp)) (v0 : Nat) (v1 : Int) (v2 : Nat) (v3 : Nat) (v4 : Int) (v5 : Int) (s0 : p_Hp) : Option (Int × p_Hp) :=
  if v4 ≤ v5 then
    some (0, s0)
  else
    p_gd (p_is s0 v0 8) <|
    p_gd (p_is s0 (p_R s0 v0 2) 9) <|
    p_bd (F_Works_follow (p_R s0 v0 2) v2 v5 s0) fun r8 s4 =>
    if 0 ≤ r8 then
      p_gd (p_is s4 (p_R s4 v0 3) 7) <|
      p_gd (p_is s4 (p_R s4 (p_R s4 v0 3) 4) 105) <|
      p_gd ((0 : Int) ≤ r8 ∧ r8 < (p_L s4 (p_R s4 (p_R s4 v0 3) 4) : Int)) <|
      p_gd (p_is s4 (p_R s4 (p_R s4 (p_R s4 v0 3) 4) (r8 : Int).toNat) 0) <|
      if (p_Z s4 (p_R s4 (p_R s4 (p_R s4 v0 3) 4) (r8 : Int).toNat) 0) = 9 then
        B_Step_giveOut_74 k21 v0 v1 v2 v3 v4 v5 r8 0 s4
      else
        B_Step_giveOut_74 k21 v0 v1 v2 v3 v4 v5 r8 (-12) s4
    else
      B_Step_giveOut_74 k21 v0 v1 v2 v3 v4 v5 r8 r8 s4
def O_Step_giveOut_21  : Nat → Nat → Int → Nat → Nat → Int → Int → p_Hp → Option (Int × p_Hp)
  | 0 => fun _ _ _ _ _ _ _ => none
  | n + 1 => L_Step_giveOut_21 (O_Step_giveOut_21 n)
def B_Step_giveOut_16  (v0 : Nat) (v1 : Int) (v2 : Nat) (v3 : Nat) (w0 : Int) (s0 : p_Hp) : Option (Int × p_Hp) :=
  O_Step_giveOut_21 3000 v0 v1 v2 v3 w0 0 s0
def F_Step_giveOut (v0 : Nat) (v1 : Int) (v2 : Nat) (v3 : Nat) (s0 : p_Hp) : Option (Int × p_Hp) :=
  p_gd (p_is s0 v2 0) <|
  if (p_Z s0 v2 3) ≠ (-1) then
    B_Step_giveOut_16 v0 v1 v2 v3 (p_Z s0 v2 3) s0
  else
    B_Step_giveOut_16 v0 v1 v2 v3 1 s0
set_option maxRecDepth 100000 in
set_option maxHeartbeats 4000000 in
theorem tB_Step_giveOut_74 (K : p_K) (l : Launch) (k21 : Nat → Int → Nat → Nat → Int → Int → p_Hp → Option (Int × p_Hp)) (hk21 : ∀ (v0 : Nat) (v1 : Int) (v2 : Nat) (v3 : Nat) (v4 : Int) (v5 : Int)  (s0 : p_Hp) (r : (Int × p_Hp)), k21 v0 v1 v2 v3 v4 v5 s0 = some r → p_Go K l m_Step_giveOut 21 [(0, p_r v0), (1, p_i v1), (2, p_r v2), (3, p_r v3), (4, p_i v4), (5, p_i v5)] [] s0 (some (p_i r.1), r.2)) (v0 : Nat) (v1 : Int) (v2 : Nat) (v3 : Nat) (v4 : Int) (v5 : Int) (v6 : Int) (w0 : Int) (s0 : p_Hp) (r : (Int × p_Hp)) (h : B_Step_giveOut_74 k21 v0 v1 v2 v3 v4 v5 v6 w0 s0 = some r) : p_Go K l m_Step_giveOut 74 [(0, p_r v0), (1, p_i v1), (2, p_r v2), (3, p_r v3), (4, p_i v4), (5, p_i v5), (6, p_i v6)] [p_i w0] s0 (some (p_i r.1), r.2) := by
  unfold B_Step_giveOut_74 at h
  refine g_istore [(7, p_i w0), (0, p_r v0), (1, p_i v1), (2, p_r v2), (3, p_r v3), (4, p_i v4), (5, p_i v5), (6, p_i v6)] (dk_Step_giveOut 35 rfl) (by decide) rfl ?_
  refine g_iload (j := 0) (dk_Step_giveOut 36 rfl) rfl ?_
  refine g_if_eq 95 (dk_Step_giveOut 37 rfl) (by decide) (fun b1 => ?_) (fun b1 => ?_)
  · have h := p_ifT b1 h
    refine g_aload_n (i := 0) (j := 1) (dk_Step_giveOut 47 rfl) rfl rfl ?_
    obtain ⟨c2, h⟩ := p_gdE h
    refine g_getR fl_Step_28 (Or.inl ⟨_, rfl⟩) (dk_Step_giveOut 48 rfl) c2 ?_
    obtain ⟨c3, h⟩ := p_gdE h
    refine g_getR fl_Step_82 (Or.inr ⟨_, rfl⟩) (dk_Step_giveOut 49 rfl) c3 ?_
    refine g_iload (j := 7) (dk_Step_giveOut 50 rfl) rfl ?_
    obtain ⟨c4, h⟩ := p_gdE h
    obtain ⟨c5, h⟩ := p_gdE h
    refine g_aaload (i := 5) rfl (Or.inl ⟨_, rfl⟩) (dk_Step_giveOut 51 rfl) c4 c5.1 c5.2 ?_
    obtain ⟨c6, h⟩ := p_gdE h
    refine g_getI fl_Step_145 (Or.inr rfl) (dk_Step_giveOut 52 rfl) c6 ?_
    refine g_if_eq 121 (dk_Step_giveOut 53 rfl) (by decide) (fun b7 => ?_) (fun b7 => ?_)
    · have h := p_ifT b7 h
      refine g_iinc (j := 6) [(5, p_i (p_w (v5 + 1))), (7, p_i w0), (0, p_r v0), (1, p_i v1), (2, p_r v2), (3, p_r v3), (4, p_i v4), (6, p_i v6)] (dk_Step_giveOut 61 rfl) rfl (by decide) rfl ?_
      refine p_ltG (P := fun q => p_Go K l m_Step_giveOut 124 [(5, p_i q), (7, p_i w0), (0, p_r v0), (1, p_i v1), (2, p_r v2), (3, p_r v3), (4, p_i v4), (6, p_i v6)] [] s0 _) ?_ h
      intro x8 h
      refine g_goto 21 (dk_Step_giveOut 62 rfl) (by decide) ?_
      refine g_sub [(0, p_r v0), (1, p_i v1), (2, p_r v2), (3, p_r v3), (4, p_i v4), (5, p_i x8)] [2, 3, 4, 5, 6, 0] rfl ?_
      exact hk21 v0 v1 v2 v3 v4 x8 s0 _ h
    · have h := p_ifF b7 h
      refine g_aload_n (i := 0) (j := 1) (dk_Step_giveOut 54 rfl) rfl rfl ?_
      refine g_iload (j := 7) (dk_Step_giveOut 55 rfl) rfl ?_
      refine g_iload_n (i := 1) (j := 2) (dk_Step_giveOut 56 rfl) rfl rfl ?_
      refine g_aload_n (i := 3) (j := 4) (dk_Step_giveOut 57 rfl) rfl rfl ?_
      obtain ⟨s9, q10, h⟩ := p_bvE h
      have t11 := tF_Step_leaveBy K l v0 v6 v1 v3 s0 _ q10
      refine g_callV (a := v0) (ci := 8) (q0 := (RX8, TX8, 5)) (As := [p_i v6, p_i v1, p_r v3]) (rest := []) [] mt_Step_leaveBy rfl rfl tw_5_37 ts_32 tw_5_35 ⟨Nat.le_of_ble_eq_true rfl, Nat.le_of_ble_eq_true rfl⟩ rfl (Nat.le_of_ble_eq_true rfl) (dk_Step_giveOut 58 rfl) rfl c2 rfl t11 ?_
      have hs12 : p_x s0 s9 := t11.1
      show p_Go K l m_Step_giveOut 119 [(7, p_i w0), (0, p_r v0), (1, p_i v1), (2, p_r v2), (3, p_r v3), (4, p_i v4), (5, p_i v5), (6, p_i v6)] [] s9 _
      refine g_iconst (dk_Step_giveOut 59 rfl) (by decide) ?_
      cases h
      exact g_ret rfl rfl (dk_Step_giveOut 60 rfl) (fun _ => ⟨_, rfl, Or.inr rfl⟩)
  · have h := p_ifF b1 h
    refine g_aload_n (i := 0) (j := 1) (dk_Step_giveOut 38 rfl) rfl rfl ?_
    refine g_iload_n (i := 1) (j := 2) (dk_Step_giveOut 39 rfl) rfl rfl ?_
    refine g_iconst (dk_Step_giveOut 40 rfl) (by decide) ?_
    refine g_iload (j := 0) (dk_Step_giveOut 41 rfl) rfl ?_
    refine g_aload_n (i := 3) (j := 4) (dk_Step_giveOut 42 rfl) rfl rfl ?_
    obtain ⟨c13, h⟩ := p_gdE h
    refine g_getI fl_Step_263 (Or.inl rfl) (dk_Step_giveOut 43 rfl) c13 ?_
    obtain ⟨c14, h⟩ := p_gdE h
    obtain ⟨s15, q16, h⟩ := p_bvE h
    have t17 := tF_Step_addFinding K l v0 v1 1 w0 (p_Z s0 v3 1) s0 _ q16
    refine g_callV (a := v0) (ci := 8) (q0 := (RX8, TX8, 5)) (As := [p_i v1, p_i 1, p_i w0, p_i (p_Z s0 v3 1)]) (rest := []) [] mt_Step_addFinding rfl rfl tw_4_181 ts_16 tw_4_179 ⟨Nat.le_of_ble_eq_true rfl, Nat.le_of_ble_eq_true rfl⟩ rfl (Nat.le_of_ble_eq_true rfl) (dk_Step_giveOut 44 rfl) rfl c14 rfl t17 ?_
    have hs18 : p_x s0 s15 := t17.1
    show p_Go K l m_Step_giveOut 93 [(7, p_i w0), (0, p_r v0), (1, p_i v1), (2, p_r v2), (3, p_r v3), (4, p_i v4), (5, p_i v5), (6, p_i v6)] [] s15 _
    refine g_iconst (dk_Step_giveOut 45 rfl) (by decide) ?_
    cases h
    exact g_ret rfl rfl (dk_Step_giveOut 46 rfl) (fun _ => ⟨_, rfl, Or.inl rfl⟩)
set_option maxRecDepth 100000 in
set_option maxHeartbeats 4000000 in
theorem tL_Step_giveOut_21 (K : p_K) (l : Launch) (k21 : Nat → Int → Nat → Nat → Int → Int → p_Hp → Option (Int × p_Hp)) (hk21 : ∀ (v0 : Nat) (v1 : Int) (v2 : Nat) (v3 : Nat) (v4 : Int) (v5 : Int)  (s0 : p_Hp) (r : (Int × p_Hp)), k21 v0 v1 v2 v3 v4 v5 s0 = some r → p_Go K l m_Step_giveOut 21 [(0, p_r v0), (1, p_i v1), (2, p_r v2), (3, p_r v3), (4, p_i v4), (5, p_i v5)] [] s0 (some (p_i r.1), r.2)) (v0 : Nat) (v1 : Int) (v2 : Nat) (v3 : Nat) (v4 : Int) (v5 : Int) (s0 : p_Hp) (r : (Int × p_Hp)) (h : L_Step_giveOut_21 k21 v0 v1 v2 v3 v4 v5 s0 = some r) : p_Go K l m_Step_giveOut 21 [(0, p_r v0), (1, p_i v1), (2, p_r v2), (3, p_r v3), (4, p_i v4), (5, p_i v5)] [] s0 (some (p_i r.1), r.2) := by
  unfold L_Step_giveOut_21 at h
  refine g_iload (j := 5) (dk_Step_giveOut 11 rfl) rfl ?_
  refine g_iload (j := 4) (dk_Step_giveOut 12 rfl) rfl ?_
  refine g_icmp_ge 127 (dk_Step_giveOut 13 rfl) (by decide) (fun b1 => ?_) (fun b1 => ?_)
  · have h := p_ifT b1 h
    refine g_iconst (dk_Step_giveOut 63 rfl) (by decide) ?_
    cases h
    exact g_ret rfl rfl (dk_Step_giveOut 64 rfl) (fun _ => ⟨_, rfl, Or.inl rfl⟩)
  · have h := p_ifF b1 h
    refine g_aload_n (i := 0) (j := 0) (dk_Step_giveOut 14 rfl) rfl rfl ?_
    obtain ⟨c2, h⟩ := p_gdE h
    refine g_getR fl_Step_18 (Or.inl ⟨_, rfl⟩) (dk_Step_giveOut 15 rfl) c2 ?_
    refine g_aload_n (i := 2) (j := 2) (dk_Step_giveOut 16 rfl) rfl rfl ?_
    refine g_iload (j := 5) (dk_Step_giveOut 17 rfl) rfl ?_
    obtain ⟨c3, h⟩ := p_gdE h
    obtain ⟨r8, s4, q5, h⟩ := p_bdE h
    have t6 := tF_Works_follow K l (p_R s0 v0 2) v2 v5 s0 _ q5
    refine g_callV (a := (p_R s0 v0 2)) (ci := 9) (q0 := (RX9, TX9, 15)) (As := [p_r v2, p_i v5]) (rest := []) [p_i r8] mt_Works_follow rfl rfl tw_4_213 tw_4_214 tw_4_212 ⟨Nat.le_of_ble_eq_true rfl, Nat.le_of_ble_eq_true rfl⟩ rfl (Nat.le_of_ble_eq_true rfl) (dk_Step_giveOut 18 rfl) rfl c3 rfl t6 ?_
    have hs7 : p_x s0 s4 := t6.1
    show p_Go K l m_Step_giveOut 38 [(0, p_r v0), (1, p_i v1), (2, p_r v2), (3, p_r v3), (4, p_i v4), (5, p_i v5)] [p_i r8] s4 _
    refine g_istore [(6, p_i r8), (0, p_r v0), (1, p_i v1), (2, p_r v2), (3, p_r v3), (4, p_i v4), (5, p_i v5)] (dk_Step_giveOut 19 rfl) (by decide) rfl ?_
    refine g_iload (j := 0) (dk_Step_giveOut 20 rfl) rfl ?_
    refine g_if_ge 50 (dk_Step_giveOut 21 rfl) (by decide) (fun b9 => ?_) (fun b9 => ?_)
    · have h := p_ifT b9 h
      refine g_aload_n (i := 0) (j := 1) (dk_Step_giveOut 24 rfl) rfl rfl ?_
      refine g_getR fl_Step_28 (Or.inl ⟨_, rfl⟩) (dk_Step_giveOut 25 rfl) (c2.up hs7) ?_
      obtain ⟨c10, h⟩ := p_gdE h
      refine g_getR fl_Step_82 (Or.inr ⟨_, rfl⟩) (dk_Step_giveOut 26 rfl) c10 ?_
      refine g_iload (j := 0) (dk_Step_giveOut 27 rfl) rfl ?_
      obtain ⟨c11, h⟩ := p_gdE h
      obtain ⟨c12, h⟩ := p_gdE h
      refine g_aaload (i := 5) rfl (Or.inl ⟨_, rfl⟩) (dk_Step_giveOut 28 rfl) c11 c12.1 c12.2 ?_
      obtain ⟨c13, h⟩ := p_gdE h
      refine g_getI fl_Step_97 (Or.inl rfl) (dk_Step_giveOut 29 rfl) c13 ?_
      refine g_bipush (dk_Step_giveOut 30 rfl) (by decide +kernel) (by decide) ?_
      refine g_icmp_eq 73 (dk_Step_giveOut 31 rfl) (by decide) (fun b14 => ?_) (fun b14 => ?_)
      · have h := p_ifT b14 h
        refine g_iconst (dk_Step_giveOut 34 rfl) (by decide) ?_
        refine g_sub [(0, p_r v0), (1, p_i v1), (2, p_r v2), (3, p_r v3), (4, p_i v4), (5, p_i v5), (6, p_i r8)] [1, 2, 3, 4, 5, 6, 0] rfl ?_
        exact tB_Step_giveOut_74 K l k21 hk21 v0 v1 v2 v3 v4 v5 r8 0 s4 _ h
      · have h := p_ifF b14 h
        refine g_bipush (dk_Step_giveOut 32 rfl) (by decide +kernel) (by decide) ?_
        refine g_goto 74 (dk_Step_giveOut 33 rfl) (by decide) ?_
        refine g_sub [(0, p_r v0), (1, p_i v1), (2, p_r v2), (3, p_r v3), (4, p_i v4), (5, p_i v5), (6, p_i r8)] [1, 2, 3, 4, 5, 6, 0] rfl ?_
        exact tB_Step_giveOut_74 K l k21 hk21 v0 v1 v2 v3 v4 v5 r8 (-12) s4 _ h
    · have h := p_ifF b9 h
      refine g_iload (j := 0) (dk_Step_giveOut 22 rfl) rfl ?_
      refine g_goto 74 (dk_Step_giveOut 23 rfl) (by decide) ?_
      refine g_sub [(0, p_r v0), (1, p_i v1), (2, p_r v2), (3, p_r v3), (4, p_i v4), (5, p_i v5), (6, p_i r8)] [1, 2, 3, 4, 5, 6, 0] rfl ?_
      exact tB_Step_giveOut_74 K l k21 hk21 v0 v1 v2 v3 v4 v5 r8 r8 s4 _ h
set_option maxRecDepth 100000 in
set_option maxHeartbeats 4000000 in
theorem tO_Step_giveOut_21 (K : p_K) (l : Launch)  : ∀ (n : Nat) (v0 : Nat) (v1 : Int) (v2 : Nat) (v3 : Nat) (v4 : Int) (v5 : Int) (s0 : p_Hp) (r : (Int × p_Hp)), O_Step_giveOut_21 n v0 v1 v2 v3 v4 v5 s0 = some r → p_Go K l m_Step_giveOut 21 [(0, p_r v0), (1, p_i v1), (2, p_r v2), (3, p_r v3), (4, p_i v4), (5, p_i v5)] [] s0 (some (p_i r.1), r.2) := by
  intro n
  induction n with
  | zero => intro v0 v1 v2 v3 v4 v5 s0 r h; cases (show (none : Option (Int × p_Hp)) = some r from h)
  | succ n ih => intro v0 v1 v2 v3 v4 v5 s0 r h; exact tL_Step_giveOut_21 K l _ ih v0 v1 v2 v3 v4 v5 s0 r h
set_option maxRecDepth 100000 in
set_option maxHeartbeats 4000000 in
theorem tB_Step_giveOut_16 (K : p_K) (l : Launch)  (v0 : Nat) (v1 : Int) (v2 : Nat) (v3 : Nat) (w0 : Int) (s0 : p_Hp) (r : (Int × p_Hp)) (h : B_Step_giveOut_16 v0 v1 v2 v3 w0 s0 = some r) : p_Go K l m_Step_giveOut 16 [(0, p_r v0), (1, p_i v1), (2, p_r v2), (3, p_r v3)] [p_i w0] s0 (some (p_i r.1), r.2) := by
  unfold B_Step_giveOut_16 at h
  refine g_istore [(4, p_i w0), (0, p_r v0), (1, p_i v1), (2, p_r v2), (3, p_r v3)] (dk_Step_giveOut 8 rfl) (by decide) rfl ?_
  refine g_iconst (dk_Step_giveOut 9 rfl) (by decide) ?_
  refine g_istore [(5, p_i 0), (4, p_i w0), (0, p_r v0), (1, p_i v1), (2, p_r v2), (3, p_r v3)] (dk_Step_giveOut 10 rfl) (by decide) rfl ?_
  refine g_sub [(0, p_r v0), (1, p_i v1), (2, p_r v2), (3, p_r v3), (4, p_i w0), (5, p_i 0)] [2, 3, 4, 5, 1, 0] rfl ?_
  exact tO_Step_giveOut_21 K l 3000 v0 v1 v2 v3 w0 0 s0 _ h
set_option maxRecDepth 100000 in
set_option maxHeartbeats 4000000 in
theorem tF_Step_giveOut (K : p_K) (l : Launch) (v0 : Nat) (v1 : Int) (v2 : Nat) (v3 : Nat) (s0 : p_Hp) (r : (Int × p_Hp)) (h : F_Step_giveOut v0 v1 v2 v3 s0 = some r) : p_Ct K l m_Step_giveOut [p_r v0, p_i v1, p_r v2, p_r v3] s0 (some (p_i r.1), r.2) := by
  refine p_Ct.of (by decide +kernel) (Nat.le_of_ble_eq_true rfl) ?_
  unfold F_Step_giveOut at h
  show p_Go K l m_Step_giveOut 0 [(0, p_r v0), (1, p_i v1), (2, p_r v2), (3, p_r v3)] [] s0 _
  refine g_aload_n (i := 2) (j := 2) (dk_Step_giveOut 0 rfl) rfl rfl ?_
  obtain ⟨c1, h⟩ := p_gdE h
  refine g_getI fl_Step_247 (Or.inl rfl) (dk_Step_giveOut 1 rfl) c1 ?_
  refine g_iconst (dk_Step_giveOut 2 rfl) (by decide) ?_
  refine g_icmp_ne 12 (dk_Step_giveOut 3 rfl) (by decide) (fun b2 => ?_) (fun b2 => ?_)
  · have h := p_ifT b2 h
    refine g_aload_n (i := 2) (j := 2) (dk_Step_giveOut 6 rfl) rfl rfl ?_
    refine g_getI fl_Step_247 (Or.inl rfl) (dk_Step_giveOut 7 rfl) c1 ?_
    exact tB_Step_giveOut_16 K l v0 v1 v2 v3 (p_Z s0 v2 3) s0 _ h
  · have h := p_ifF b2 h
    refine g_iconst (dk_Step_giveOut 4 rfl) (by decide) ?_
    refine g_goto 16 (dk_Step_giveOut 5 rfl) (by decide) ?_
    exact tB_Step_giveOut_16 K l v0 v1 v2 v3 1 s0 _ h
def m_Step_passOn : p_Me := (⟨"SortWorks$Step", "passOn", "(ILSortWorks$Gear;Z)V"⟩, prog_10_method_22_code, 7, none, 4, 92)
theorem mt_Step_passOn : p_Mt m_Step_passOn 3 := ⟨p_mem (p_tb5 (List.mem_of_getElem? (i := 30) rfl)) rfl, tw_1_9, by decide +kernel, by decide +kernel, by decide +kernel⟩
def dt_Step_passOn : List (Nat × Instr × Nat) := [(0, .aload_n 0, 1), (1, .getfield 28, 3), (4, .aload_n 2, 1), (5, .invokevirtual 181, 3), (8, .astore 4, 2), (10, .aload 4, 2), (12, .ifnull 11, 3), (15, .aload 4, 2), (17, .getfield 64, 3), (20, .ifCond .eq 9, 3), (23, .aload_n 2, 1), (24, .iconst 0, 1), (25, .putfield 228, 3), (28, .return_, 1), (29, .iload_n 3, 1), (30, .ifCond .eq 14, 3), (33, .aload_n 2, 1), (34, .invokevirtual 185, 3), (37, .ifCond .ne 7, 3), (40, .iconst 1, 1), (41, .goto 4, 3), (44, .iconst 0, 1), (45, .istore 5, 2), (47, .iload 5, 2), (49, .ifCond .eq 41, 3), (52, .aload_n 2, 1), (53, .getfield 97, 3), (56, .bipush 7, 2), (58, .if_icmp .ne 17, 3), (61, .aload_n 0, 1), (62, .iload_n 1, 1), (63, .aload_n 2, 1), (64, .aload 4, 2), (66, .invokevirtual 327, 3), (69, .ifCond .eq 21, 3), (72, .goto 14, 3), (75, .aload_n 0, 1), (76, .iload_n 1, 1), (77, .aload_n 2, 1), (78, .aload 4, 2), (80, .invokevirtual 331, 3), (83, .ifCond .eq 7, 3), (86, .iconst 1, 1), (87, .goto 4, 3), (90, .iconst 0, 1), (91, .istore 6, 2), (93, .aload_n 2, 1), (94, .iload 6, 2), (96, .ifCond .eq 7, 3), (99, .iconst 0, 1), (100, .goto 9, 3), (103, .aload_n 2, 1), (104, .getfield 228, 3), (107, .iconst 1, 1), (108, .iadd, 1), (109, .putfield 228, 3), (112, .iload 6, 2), (114, .ifCond .eq 22, 3), (117, .aload_n 2, 1), (118, .getfield 97, 3), (121, .bipush 8, 2), (123, .if_icmp .ne 13, 3), (126, .aload_n 2, 1), (127, .dup, 1), (128, .getfield 158, 3), (131, .iconst 1, 1), (132, .isub, 1), (133, .putfield 158, 3), (136, .return_, 1)]
theorem dk_Step_passOn (i : Nat) {pc : Nat} {ins : Instr} {len : Nat} (h : dt_Step_passOn[i]? = some (pc, ins, len)) : decode m_Step_passOn.2.1 pc = .ok (ins, len) := p_dk (b := m_Step_passOn.2.1) (t := dt_Step_passOn) (by decide +kernel) i h
def B_Step_passOn_109  (v2 : Nat) (v6 : Int) (w0 : Int) (w1 : Nat) (s0 : p_Hp) : Option p_Hp :=
  p_gd (p_is s0 w1 0) <|
  p_bi (p_wZ s0 w1 8 w0) fun s2 =>
  if v6 = 0 then
    some s2
  else
    p_gd (p_is s2 v2 0) <|
    if (p_Z s2 v2 0) ≠ 8 then
      some s2
    else
      p_bi (p_wZ s2 v2 14 (p_w ((p_Z s2 v2 14) - 1))) fun s7 =>
      some s7
def B_Step_passOn_91  (v2 : Nat) (w0 : Int) (s0 : p_Hp) : Option p_Hp :=
  if w0 = 0 then
    p_gd (p_is s0 v2 0) <|
    B_Step_passOn_109 v2 w0 (p_w ((p_Z s0 v2 8) + 1)) v2 s0
  else
    B_Step_passOn_109 v2 w0 0 v2 s0
def B_Step_passOn_86  (v2 : Nat) (s0 : p_Hp) : Option p_Hp :=
  B_Step_passOn_91 v2 1 s0
def B_Step_passOn_90  (v2 : Nat) (s0 : p_Hp) : Option p_Hp :=
  B_Step_passOn_91 v2 0 s0
def B_Step_passOn_45  (v0 : Nat) (v1 : Int) (v2 : Nat) (v4 : Nat) (w0 : Int) (s0 : p_Hp) : Option p_Hp :=
  if w0 = 0 then
    B_Step_passOn_90 v2 s0
  else
    p_gd (p_is s0 v2 0) <|
    if (p_Z s0 v2 0) ≠ 7 then
      p_gd (p_is s0 v0 8) <|
      p_bd (F_Step_giveOn v0 v1 v2 v4 s0) fun r9 s5 =>
      if r9 = 0 then
        B_Step_passOn_90 v2 s5
      else
        B_Step_passOn_86 v2 s5
    else
      p_gd (p_is s0 v0 8) <|
      p_bd (F_Step_giveOut v0 v1 v2 v4 s0) fun r16 s12 =>
      if r16 = 0 then
        B_Step_passOn_90 v2 s12
      else
        B_Step_passOn_86 v2 s12
def B_Step_passOn_44  (v0 : Nat) (v1 : Int) (v2 : Nat) (v4 : Nat) (s0 : p_Hp) : Option p_Hp :=
  B_Step_passOn_45 v0 v1 v2 v4 0 s0
def F_Step_passOn (v0 : Nat) (v1 : Int) (v2 : Nat) (v3 : Int) (s0 : p_Hp) : Option p_Hp :=
  p_gd (p_is s0 v0 8) <|
  p_gd (p_is s0 (p_R s0 v0 3) 7) <|
  p_bd (F_State_inLastSlot (p_R s0 v0 3) v2 s0) fun r7 s3 =>
  if r7 = 0 then
    p_gd (p_is s3 v2 0) <|
    p_bi (p_wZ s3 v2 8 0) fun s10 =>
    some s10
  else
    p_gd (p_is s3 r7 4) <|
    if (p_Z s3 r7 8) = 0 then
      if v3 = 0 then
        B_Step_passOn_44 v0 v1 v2 r7 s3
      else
        p_gd (p_is s3 v2 0) <|
        p_bd (F_Gear_isHeld v2 s3) fun r20 s16 =>
        if r20 ≠ 0 then
          B_Step_passOn_44 v0 v1 v2 r7 s16
        else
          B_Step_passOn_45 v0 v1 v2 r7 1 s16
    else
      p_gd (p_is s3 v2 0) <|
      p_bi (p_wZ s3 v2 8 0) fun s23 =>
      some s23
set_option maxRecDepth 100000 in
set_option maxHeartbeats 4000000 in
theorem tB_Step_passOn_109 (K : p_K) (l : Launch)  (v2 : Nat) (v6 : Int) (w0 : Int) (w1 : Nat) (s0 : p_Hp) (r : p_Hp) (h : B_Step_passOn_109 v2 v6 w0 w1 s0 = some r) : p_Go K l m_Step_passOn 109 [(2, p_r v2), (6, p_i v6)] [p_i w0, p_r w1] s0 (none, r) := by
  unfold B_Step_passOn_109 at h
  obtain ⟨c1, h⟩ := p_gdE h
  refine g_putI fl_Step_228 (Or.inl rfl) (dk_Step_passOn 55 rfl) c1 ?_
  refine p_ltS (P := fun q => p_Go K l m_Step_passOn 112 [(2, p_r v2), (6, p_i v6)] [] q _) (p_xZ _ _ _ _) ?_ h
  intro s2 hs3 h
  refine g_iload (j := 1) (dk_Step_passOn 56 rfl) rfl ?_
  refine g_if_eq 136 (dk_Step_passOn 57 rfl) (by decide) (fun b4 => ?_) (fun b4 => ?_)
  · have h := p_ifT b4 h
    cases h
    exact g_ret rfl rfl (dk_Step_passOn 68 rfl) (fun _ => rfl)
  · have h := p_ifF b4 h
    refine g_aload_n (i := 2) (j := 0) (dk_Step_passOn 58 rfl) rfl rfl ?_
    obtain ⟨c5, h⟩ := p_gdE h
    refine g_getI fl_Step_97 (Or.inl rfl) (dk_Step_passOn 59 rfl) c5 ?_
    refine g_bipush (dk_Step_passOn 60 rfl) (by decide +kernel) (by decide) ?_
    refine g_icmp_ne 136 (dk_Step_passOn 61 rfl) (by decide) (fun b6 => ?_) (fun b6 => ?_)
    · have h := p_ifT b6 h
      cases h
      exact g_ret rfl rfl (dk_Step_passOn 68 rfl) (fun _ => rfl)
    · have h := p_ifF b6 h
      refine g_aload_n (i := 2) (j := 0) (dk_Step_passOn 62 rfl) rfl rfl ?_
      refine g_dup (dk_Step_passOn 63 rfl) rfl ?_
      refine g_getI fl_Step_158 (Or.inl rfl) (dk_Step_passOn 64 rfl) c5 ?_
      refine g_iconst (dk_Step_passOn 65 rfl) (by decide) ?_
      refine g_isub (dk_Step_passOn 66 rfl) ?_
      refine g_putI fl_Step_158 (Or.inl rfl) (dk_Step_passOn 67 rfl) c5 ?_
      refine p_ltS (P := fun q => p_Go K l m_Step_passOn 136 [(2, p_r v2), (6, p_i v6)] [] q _) (p_xZ _ _ _ _) ?_ h
      intro s7 hs8 h
      cases h
      exact g_ret rfl rfl (dk_Step_passOn 68 rfl) (fun _ => rfl)
set_option maxRecDepth 100000 in
set_option maxHeartbeats 4000000 in
theorem tB_Step_passOn_91 (K : p_K) (l : Launch)  (v2 : Nat) (w0 : Int) (s0 : p_Hp) (r : p_Hp) (h : B_Step_passOn_91 v2 w0 s0 = some r) : p_Go K l m_Step_passOn 91 [(2, p_r v2)] [p_i w0] s0 (none, r) := by
  unfold B_Step_passOn_91 at h
  refine g_istore [(6, p_i w0), (2, p_r v2)] (dk_Step_passOn 45 rfl) (by decide) rfl ?_
  refine g_aload_n (i := 2) (j := 1) (dk_Step_passOn 46 rfl) rfl rfl ?_
  refine g_iload (j := 0) (dk_Step_passOn 47 rfl) rfl ?_
  refine g_if_eq 103 (dk_Step_passOn 48 rfl) (by decide) (fun b1 => ?_) (fun b1 => ?_)
  · have h := p_ifT b1 h
    refine g_aload_n (i := 2) (j := 1) (dk_Step_passOn 51 rfl) rfl rfl ?_
    obtain ⟨c2, h⟩ := p_gdE h
    refine g_getI fl_Step_228 (Or.inl rfl) (dk_Step_passOn 52 rfl) c2 ?_
    refine g_iconst (dk_Step_passOn 53 rfl) (by decide) ?_
    refine g_iadd (dk_Step_passOn 54 rfl) ?_
    refine g_sub [(2, p_r v2), (6, p_i w0)] [1, 0] rfl ?_
    exact tB_Step_passOn_109 K l v2 w0 (p_w ((p_Z s0 v2 8) + 1)) v2 s0 _ h
  · have h := p_ifF b1 h
    refine g_iconst (dk_Step_passOn 49 rfl) (by decide) ?_
    refine g_goto 109 (dk_Step_passOn 50 rfl) (by decide) ?_
    refine g_sub [(2, p_r v2), (6, p_i w0)] [1, 0] rfl ?_
    exact tB_Step_passOn_109 K l v2 w0 0 v2 s0 _ h
set_option maxRecDepth 100000 in
set_option maxHeartbeats 4000000 in
theorem tB_Step_passOn_86 (K : p_K) (l : Launch)  (v2 : Nat) (s0 : p_Hp) (r : p_Hp) (h : B_Step_passOn_86 v2 s0 = some r) : p_Go K l m_Step_passOn 86 [(2, p_r v2)] [] s0 (none, r) := by
  unfold B_Step_passOn_86 at h
  refine g_iconst (dk_Step_passOn 42 rfl) (by decide) ?_
  refine g_goto 91 (dk_Step_passOn 43 rfl) (by decide) ?_
  exact tB_Step_passOn_91 K l v2 1 s0 _ h
set_option maxRecDepth 100000 in
set_option maxHeartbeats 4000000 in
theorem tB_Step_passOn_90 (K : p_K) (l : Launch)  (v2 : Nat) (s0 : p_Hp) (r : p_Hp) (h : B_Step_passOn_90 v2 s0 = some r) : p_Go K l m_Step_passOn 90 [(2, p_r v2)] [] s0 (none, r) := by
  unfold B_Step_passOn_90 at h
  refine g_iconst (dk_Step_passOn 44 rfl) (by decide) ?_
  exact tB_Step_passOn_91 K l v2 0 s0 _ h
set_option maxRecDepth 100000 in
set_option maxHeartbeats 4000000 in
theorem tB_Step_passOn_45 (K : p_K) (l : Launch)  (v0 : Nat) (v1 : Int) (v2 : Nat) (v4 : Nat) (w0 : Int) (s0 : p_Hp) (r : p_Hp) (h : B_Step_passOn_45 v0 v1 v2 v4 w0 s0 = some r) : p_Go K l m_Step_passOn 45 [(0, p_r v0), (1, p_i v1), (2, p_r v2), (4, p_r v4)] [p_i w0] s0 (none, r) := by
  unfold B_Step_passOn_45 at h
  refine g_istore [(5, p_i w0), (0, p_r v0), (1, p_i v1), (2, p_r v2), (4, p_r v4)] (dk_Step_passOn 22 rfl) (by decide) rfl ?_
  refine g_iload (j := 0) (dk_Step_passOn 23 rfl) rfl ?_
  refine g_if_eq 90 (dk_Step_passOn 24 rfl) (by decide) (fun b1 => ?_) (fun b1 => ?_)
  · have h := p_ifT b1 h
    refine g_sub [(2, p_r v2)] [3] rfl ?_
    exact tB_Step_passOn_90 K l v2 s0 _ h
  · have h := p_ifF b1 h
    refine g_aload_n (i := 2) (j := 3) (dk_Step_passOn 25 rfl) rfl rfl ?_
    obtain ⟨c2, h⟩ := p_gdE h
    refine g_getI fl_Step_97 (Or.inl rfl) (dk_Step_passOn 26 rfl) c2 ?_
    refine g_bipush (dk_Step_passOn 27 rfl) (by decide +kernel) (by decide) ?_
    refine g_icmp_ne 75 (dk_Step_passOn 28 rfl) (by decide) (fun b3 => ?_) (fun b3 => ?_)
    · have h := p_ifT b3 h
      refine g_aload_n (i := 0) (j := 1) (dk_Step_passOn 36 rfl) rfl rfl ?_
      refine g_iload_n (i := 1) (j := 2) (dk_Step_passOn 37 rfl) rfl rfl ?_
      refine g_aload_n (i := 2) (j := 3) (dk_Step_passOn 38 rfl) rfl rfl ?_
      refine g_aload (j := 4) (dk_Step_passOn 39 rfl) rfl ?_
      obtain ⟨c4, h⟩ := p_gdE h
      obtain ⟨r9, s5, q6, h⟩ := p_bdE h
      have t7 := tF_Step_giveOn K l v0 v1 v2 v4 s0 _ q6
      refine g_callV (a := v0) (ci := 8) (q0 := (RX8, TX8, 5)) (As := [p_i v1, p_r v2, p_r v4]) (rest := []) [p_i r9] mt_Step_giveOn rfl rfl tw_5_46 ts_33 tw_5_44 ⟨Nat.le_of_ble_eq_true rfl, Nat.le_of_ble_eq_true rfl⟩ rfl (Nat.le_of_ble_eq_true rfl) (dk_Step_passOn 40 rfl) rfl c4 rfl t7 ?_
      have hs8 : p_x s0 s5 := t7.1
      show p_Go K l m_Step_passOn 83 [(5, p_i w0), (0, p_r v0), (1, p_i v1), (2, p_r v2), (4, p_r v4)] [p_i r9] s5 _
      refine g_if_eq 90 (dk_Step_passOn 41 rfl) (by decide) (fun b10 => ?_) (fun b10 => ?_)
      · have h := p_ifT b10 h
        refine g_sub [(2, p_r v2)] [3] rfl ?_
        exact tB_Step_passOn_90 K l v2 s5 _ h
      · have h := p_ifF b10 h
        refine g_sub [(2, p_r v2)] [3] rfl ?_
        exact tB_Step_passOn_86 K l v2 s5 _ h
    · have h := p_ifF b3 h
      refine g_aload_n (i := 0) (j := 1) (dk_Step_passOn 29 rfl) rfl rfl ?_
      refine g_iload_n (i := 1) (j := 2) (dk_Step_passOn 30 rfl) rfl rfl ?_
      refine g_aload_n (i := 2) (j := 3) (dk_Step_passOn 31 rfl) rfl rfl ?_
      refine g_aload (j := 4) (dk_Step_passOn 32 rfl) rfl ?_
      obtain ⟨c11, h⟩ := p_gdE h
      obtain ⟨r16, s12, q13, h⟩ := p_bdE h
      have t14 := tF_Step_giveOut K l v0 v1 v2 v4 s0 _ q13
      refine g_callV (a := v0) (ci := 8) (q0 := (RX8, TX8, 5)) (As := [p_i v1, p_r v2, p_r v4]) (rest := []) [p_i r16] mt_Step_giveOut rfl rfl tw_5_33 ts_31 tw_5_31 ⟨Nat.le_of_ble_eq_true rfl, Nat.le_of_ble_eq_true rfl⟩ rfl (Nat.le_of_ble_eq_true rfl) (dk_Step_passOn 33 rfl) rfl c11 rfl t14 ?_
      have hs15 : p_x s0 s12 := t14.1
      show p_Go K l m_Step_passOn 69 [(5, p_i w0), (0, p_r v0), (1, p_i v1), (2, p_r v2), (4, p_r v4)] [p_i r16] s12 _
      refine g_if_eq 90 (dk_Step_passOn 34 rfl) (by decide) (fun b17 => ?_) (fun b17 => ?_)
      · have h := p_ifT b17 h
        refine g_sub [(2, p_r v2)] [3] rfl ?_
        exact tB_Step_passOn_90 K l v2 s12 _ h
      · have h := p_ifF b17 h
        refine g_goto 86 (dk_Step_passOn 35 rfl) (by decide) ?_
        refine g_sub [(2, p_r v2)] [3] rfl ?_
        exact tB_Step_passOn_86 K l v2 s12 _ h
set_option maxRecDepth 100000 in
set_option maxHeartbeats 4000000 in
theorem tB_Step_passOn_44 (K : p_K) (l : Launch)  (v0 : Nat) (v1 : Int) (v2 : Nat) (v4 : Nat) (s0 : p_Hp) (r : p_Hp) (h : B_Step_passOn_44 v0 v1 v2 v4 s0 = some r) : p_Go K l m_Step_passOn 44 [(0, p_r v0), (1, p_i v1), (2, p_r v2), (4, p_r v4)] [] s0 (none, r) := by
  unfold B_Step_passOn_44 at h
  refine g_iconst (dk_Step_passOn 21 rfl) (by decide) ?_
  exact tB_Step_passOn_45 K l v0 v1 v2 v4 0 s0 _ h
set_option maxRecDepth 100000 in
set_option maxHeartbeats 4000000 in
theorem tF_Step_passOn (K : p_K) (l : Launch) (v0 : Nat) (v1 : Int) (v2 : Nat) (v3 : Int) (s0 : p_Hp) (r : p_Hp) (h : F_Step_passOn v0 v1 v2 v3 s0 = some r) : p_Ct K l m_Step_passOn [p_r v0, p_i v1, p_r v2, p_i v3] s0 (none, r) := by
  refine p_Ct.of (by decide +kernel) (Nat.le_of_ble_eq_true rfl) ?_
  unfold F_Step_passOn at h
  show p_Go K l m_Step_passOn 0 [(0, p_r v0), (1, p_i v1), (2, p_r v2), (3, p_i v3)] [] s0 _
  refine g_aload_n (i := 0) (j := 0) (dk_Step_passOn 0 rfl) rfl rfl ?_
  obtain ⟨c1, h⟩ := p_gdE h
  refine g_getR fl_Step_28 (Or.inl ⟨_, rfl⟩) (dk_Step_passOn 1 rfl) c1 ?_
  refine g_aload_n (i := 2) (j := 2) (dk_Step_passOn 2 rfl) rfl rfl ?_
  obtain ⟨c2, h⟩ := p_gdE h
  obtain ⟨r7, s3, q4, h⟩ := p_bdE h
  have t5 := tF_State_inLastSlot K l (p_R s0 v0 3) v2 s0 _ q4
  refine g_callV (a := (p_R s0 v0 3)) (ci := 7) (q0 := (RX7, TX7, 10)) (As := [p_r v2]) (rest := []) [p_r r7] mt_State_inLastSlot rfl rfl tw_4_66 tw_4_67 tw_4_202 ⟨Nat.le_of_ble_eq_true rfl, Nat.le_of_ble_eq_true rfl⟩ rfl (Nat.le_of_ble_eq_true rfl) (dk_Step_passOn 3 rfl) rfl c2 rfl t5 ?_
  have hs6 : p_x s0 s3 := t5.1
  show p_Go K l m_Step_passOn 8 [(0, p_r v0), (1, p_i v1), (2, p_r v2), (3, p_i v3)] [p_r r7] s3 _
  refine g_astore [(4, p_r r7), (0, p_r v0), (1, p_i v1), (2, p_r v2), (3, p_i v3)] (dk_Step_passOn 4 rfl) (by decide) rfl ?_
  refine g_aload (j := 0) (dk_Step_passOn 5 rfl) rfl ?_
  refine g_ifnull 23 (dk_Step_passOn 6 rfl) (by decide) (fun b8 => ?_) (fun b8 => ?_)
  · have h := p_ifT b8 h
    refine g_aload_n (i := 2) (j := 3) (dk_Step_passOn 10 rfl) rfl rfl ?_
    refine g_iconst (dk_Step_passOn 11 rfl) (by decide) ?_
    obtain ⟨c9, h⟩ := p_gdE h
    refine g_putI fl_Step_228 (Or.inl rfl) (dk_Step_passOn 12 rfl) c9 ?_
    refine p_ltS (P := fun q => p_Go K l m_Step_passOn 28 [(4, p_r r7), (0, p_r v0), (1, p_i v1), (2, p_r v2), (3, p_i v3)] [] q _) (p_xZ _ _ _ _) ?_ h
    intro s10 hs11 h
    cases h
    exact g_ret rfl rfl (dk_Step_passOn 13 rfl) (fun _ => rfl)
  · have h := p_ifF b8 h
    refine g_aload (j := 0) (dk_Step_passOn 7 rfl) rfl ?_
    obtain ⟨c12, h⟩ := p_gdE h
    refine g_getI fl_Step_64 (Or.inr rfl) (dk_Step_passOn 8 rfl) c12 ?_
    refine g_if_eq 29 (dk_Step_passOn 9 rfl) (by decide) (fun b13 => ?_) (fun b13 => ?_)
    · have h := p_ifT b13 h
      refine g_iload_n (i := 3) (j := 4) (dk_Step_passOn 14 rfl) rfl rfl ?_
      refine g_if_eq 44 (dk_Step_passOn 15 rfl) (by decide) (fun b14 => ?_) (fun b14 => ?_)
      · have h := p_ifT b14 h
        refine g_sub [(0, p_r v0), (1, p_i v1), (2, p_r v2), (4, p_r r7)] [1, 2, 3, 0] rfl ?_
        exact tB_Step_passOn_44 K l v0 v1 v2 r7 s3 _ h
      · have h := p_ifF b14 h
        refine g_aload_n (i := 2) (j := 3) (dk_Step_passOn 16 rfl) rfl rfl ?_
        obtain ⟨c15, h⟩ := p_gdE h
        obtain ⟨r20, s16, q17, h⟩ := p_bdE h
        have t18 := tF_Gear_isHeld K l v2 s3 _ q17
        refine g_callV (a := v2) (ci := 0) (q0 := (RX0, TX0, 20)) (As := []) (rest := []) [p_i r20] mt_Gear_isHeld rfl rfl tw_4_204 tw_4_205 tw_4_203 ⟨Nat.le_of_ble_eq_true rfl, Nat.le_of_ble_eq_true rfl⟩ rfl (Nat.le_of_ble_eq_true rfl) (dk_Step_passOn 17 rfl) rfl c15 rfl t18 ?_
        have hs19 : p_x s3 s16 := t18.1
        show p_Go K l m_Step_passOn 37 [(4, p_r r7), (0, p_r v0), (1, p_i v1), (2, p_r v2), (3, p_i v3)] [p_i r20] s16 _
        refine g_if_ne 44 (dk_Step_passOn 18 rfl) (by decide) (fun b21 => ?_) (fun b21 => ?_)
        · have h := p_ifT b21 h
          refine g_sub [(0, p_r v0), (1, p_i v1), (2, p_r v2), (4, p_r r7)] [1, 2, 3, 0] rfl ?_
          exact tB_Step_passOn_44 K l v0 v1 v2 r7 s16 _ h
        · have h := p_ifF b21 h
          refine g_iconst (dk_Step_passOn 19 rfl) (by decide) ?_
          refine g_goto 45 (dk_Step_passOn 20 rfl) (by decide) ?_
          refine g_sub [(0, p_r v0), (1, p_i v1), (2, p_r v2), (4, p_r r7)] [1, 2, 3, 0] rfl ?_
          exact tB_Step_passOn_45 K l v0 v1 v2 r7 1 s16 _ h
    · have h := p_ifF b13 h
      refine g_aload_n (i := 2) (j := 3) (dk_Step_passOn 10 rfl) rfl rfl ?_
      refine g_iconst (dk_Step_passOn 11 rfl) (by decide) ?_
      obtain ⟨c22, h⟩ := p_gdE h
      refine g_putI fl_Step_228 (Or.inl rfl) (dk_Step_passOn 12 rfl) c22 ?_
      refine p_ltS (P := fun q => p_Go K l m_Step_passOn 28 [(4, p_r r7), (0, p_r v0), (1, p_i v1), (2, p_r v2), (3, p_i v3)] [] q _) (p_xZ _ _ _ _) ?_ h
      intro s23 hs24 h
      cases h
      exact g_ret rfl rfl (dk_Step_passOn 13 rfl) (fun _ => rfl)
def m_Reading_readFormA : p_Me := (⟨"SortWorks$Reading", "readFormA", "(LSortWorks$Parcel;)I"⟩, prog_7_method_3_code, 3, (some .int), 0, 0)
theorem mt_Reading_readFormA : p_Mt m_Reading_readFormA 1 := ⟨p_mem (p_tb5 (List.mem_of_getElem? (i := 2) rfl)) rfl, tw_1_10, by decide +kernel, by decide +kernel, by decide +kernel⟩
def dt_Reading_readFormA : List (Nat × Instr × Nat) := [(0, .iconst 1, 1), (1, .istore_n 2, 1), (2, .iload_n 2, 1), (3, .bipush 8, 2), (5, .if_icmp .ge 62, 3), (8, .iload_n 2, 1), (9, .aload_n 1, 1), (10, .getfield 15, 3), (13, .if_icmp .lt 6, 3), (16, .bipush (-13), 2), (18, .ireturn, 1), (19, .aload_n 0, 1), (20, .getfield 9, 3), (23, .iload_n 2, 1), (24, .aload_n 1, 1), (25, .getfield 21, 3), (28, .iload_n 2, 1), (29, .iaload, 1), (30, .bipush 48, 2), (32, .isub, 1), (33, .iastore, 1), (34, .aload_n 0, 1), (35, .getfield 9, 3), (38, .iload_n 2, 1), (39, .iaload, 1), (40, .ifCond .lt 14, 3), (43, .aload_n 0, 1), (44, .getfield 9, 3), (47, .iload_n 2, 1), (48, .iaload, 1), (49, .bipush 9, 2), (51, .if_icmp .le 10, 3), (54, .aload_n 0, 1), (55, .iconst 1, 1), (56, .putfield 31, 3), (59, .iconst 0, 1), (60, .ireturn, 1), (61, .iinc 2 1, 3), (64, .goto (-62), 3), (67, .iconst 3, 1), (68, .aload_n 0, 1), (69, .getfield 9, 3), (72, .iconst 1, 1), (73, .iaload, 1), (74, .aload_n 0, 1), (75, .getfield 9, 3), (78, .iconst 3, 1), (79, .iaload, 1), (80, .iadd, 1), (81, .aload_n 0, 1), (82, .getfield 9, 3), (85, .iconst 5, 1), (86, .iaload, 1), (87, .iadd, 1), (88, .imul, 1), (89, .aload_n 0, 1), (90, .getfield 9, 3), (93, .iconst 2, 1), (94, .iaload, 1), (95, .iadd, 1), (96, .aload_n 0, 1), (97, .getfield 9, 3), (100, .iconst 4, 1), (101, .iaload, 1), (102, .iadd, 1), (103, .aload_n 0, 1), (104, .getfield 9, 3), (107, .bipush 6, 2), (109, .iaload, 1), (110, .iadd, 1), (111, .istore_n 2, 1), (112, .aload_n 0, 1), (113, .iload_n 2, 1), (114, .aload_n 0, 1), (115, .getfield 9, 3), (118, .bipush 7, 2), (120, .iaload, 1), (121, .iadd, 1), (122, .bipush 10, 2), (124, .irem, 1), (125, .ifCond .eq 7, 3), (128, .iconst 1, 1), (129, .goto 4, 3), (132, .iconst 0, 1), (133, .putfield 31, 3), (136, .aload_n 0, 1), (137, .bipush 10, 2), (139, .aload_n 0, 1), (140, .getfield 9, 3), (143, .iconst 1, 1), (144, .iaload, 1), (145, .imul, 1), (146, .aload_n 0, 1), (147, .getfield 9, 3), (150, .iconst 2, 1), (151, .iaload, 1), (152, .iadd, 1), (153, .putfield 35, 3), (156, .aload_n 0, 1), (157, .bipush 100, 2), (159, .aload_n 0, 1), (160, .getfield 9, 3), (163, .iconst 3, 1), (164, .iaload, 1), (165, .imul, 1), (166, .bipush 10, 2), (168, .aload_n 0, 1), (169, .getfield 9, 3), (172, .iconst 4, 1), (173, .iaload, 1), (174, .imul, 1), (175, .iadd, 1), (176, .aload_n 0, 1), (177, .getfield 9, 3), (180, .iconst 5, 1), (181, .iaload, 1), (182, .iadd, 1), (183, .putfield 38, 3), (186, .aload_n 0, 1), (187, .aload_n 0, 1), (188, .getfield 9, 3), (191, .bipush 6, 2), (193, .iaload, 1), (194, .putfield 41, 3), (197, .iconst 0, 1), (198, .ireturn, 1)]
theorem dk_Reading_readFormA (i : Nat) {pc : Nat} {ins : Instr} {len : Nat} (h : dt_Reading_readFormA[i]? = some (pc, ins, len)) : decode m_Reading_readFormA.2.1 pc = .ok (ins, len) := p_dk (b := m_Reading_readFormA.2.1) (t := dt_Reading_readFormA) (by decide +kernel) i h
def B_Reading_readFormA_54  (v0 : Nat) (s0 : p_Hp) : Option (Int × p_Hp) :=
  p_gd (p_is s0 v0 5) <|
  p_bi (p_wZ s0 v0 0 1) fun s2 =>
  some (0, s2)
def B_Reading_readFormA_133  (v0 : Nat) (w0 : Int) (w1 : Nat) (s0 : p_Hp) : Option (Int × p_Hp) :=
  p_gd (p_is s0 w1 5) <|
  p_gd (w0 = 0 ∨ w0 = 1) <|
  p_bi (p_wZ s0 w1 0 w0) fun s3 =>
  p_gd (p_is s3 v0 5) <|
  p_gd (p_is s3 (p_R s3 v0 4) 100) <|
  p_gd ((0 : Int) ≤ 1 ∧ 1 < (p_L s3 (p_R s3 v0 4) : Int)) <|
  p_gd ((0 : Int) ≤ 2 ∧ 2 < (p_L s3 (p_R s3 v0 4) : Int)) <|
  p_bi (p_wZ s3 v0 1 (p_w ((p_w (10 * (p_Z s3 (p_R s3 v0 4) (1 : Int).toNat))) + (p_Z s3 (p_R s3 v0 4) (2 : Int).toNat)))) fun s9 =>
  p_gd (p_is s9 (p_R s9 v0 4) 100) <|
  p_gd ((0 : Int) ≤ 3 ∧ 3 < (p_L s9 (p_R s9 v0 4) : Int)) <|
  p_gd ((0 : Int) ≤ 4 ∧ 4 < (p_L s9 (p_R s9 v0 4) : Int)) <|
  p_gd ((0 : Int) ≤ 5 ∧ 5 < (p_L s9 (p_R s9 v0 4) : Int)) <|
  p_bi (p_wZ s9 v0 2 (p_w ((p_w ((p_w (100 * (p_Z s9 (p_R s9 v0 4) (3 : Int).toNat))) + (p_w (10 * (p_Z s9 (p_R s9 v0 4) (4 : Int).toNat))))) + (p_Z s9 (p_R s9 v0 4) (5 : Int).toNat)))) fun s15 =>
  p_gd (p_is s15 (p_R s15 v0 4) 100) <|
  p_gd ((0 : Int) ≤ 6 ∧ 6 < (p_L s15 (p_R s15 v0 4) : Int)) <|
  p_bi (p_wZ s15 v0 3 (p_Z s15 (p_R s15 v0 4) (6 : Int).toNat)) fun s19 =>
  some (0, s19)
def L_Reading_readFormA_2 (k2 : Nat → Nat → Int → p_Hp → Option (Int × p_Hp)) (v0 : Nat) (v1 : Nat) (v2 : Int) (s0 : p_Hp) : Option (Int × p_Hp) :=
  if 8 ≤ v2 then
    p_gd (p_is s0 v0 5) <|
    p_gd (p_is s0 (p_R s0 v0 4) 100) <|
    p_gd ((0 : Int) ≤ 1 ∧ 1 < (p_L s0 (p_R s0 v0 4) : Int)) <|
    p_gd ((0 : Int) ≤ 3 ∧ 3 < (p_L s0 (p_R s0 v0 4) : Int)) <|
    p_gd ((0 : Int) ≤ 5 ∧ 5 < (p_L s0 (p_R s0 v0 4) : Int)) <|
    p_gd ((0 : Int) ≤ 2 ∧ 2 < (p_L s0 (p_R s0 v0 4) : Int)) <|
    p_gd ((0 : Int) ≤ 4 ∧ 4 < (p_L s0 (p_R s0 v0 4) : Int)) <|
    p_gd ((0 : Int) ≤ 6 ∧ 6 < (p_L s0 (p_R s0 v0 4) : Int)) <|
    p_bi ((p_w ((p_w ((p_w ((p_w (3 * (p_w ((p_w ((p_Z s0 (p_R s0 v0 4) (1 : Int).toNat) + (p_Z s0 (p_R s0 v0 4) (3 : Int).toNat))) + (p_Z s0 (p_R s0 v0 4) (5 : Int).toNat))))) + (p_Z s0 (p_R s0 v0 4) (2 : Int).toNat))) + (p_Z s0 (p_R s0 v0 4) (4 : Int).toNat))) + (p_Z s0 (p_R s0 v0 4) (6 : Int).toNat)))) fun x10 =>
    p_gd ((0 : Int) ≤ 7 ∧ 7 < (p_L s0 (p_R s0 v0 4) : Int)) <|
    if (p_rem (p_w (x10 + (p_Z s0 (p_R s0 v0 4) (7 : Int).toNat))) 10) = 0 then
      B_Reading_readFormA_133 v0 0 v0 s0
    else
      B_Reading_readFormA_133 v0 1 v0 s0
  else
    p_gd (p_is s0 v1 4) <|
    if v2 < (p_Z s0 v1 11) then
      p_gd (p_is s0 v0 5) <|
      p_gd (p_is s0 (p_R s0 v1 12) 100) <|
      p_gd ((0 : Int) ≤ v2 ∧ v2 < (p_L s0 (p_R s0 v1 12) : Int)) <|
      p_gd (p_is s0 (p_R s0 v0 4) 100) <|
      p_gd ((0 : Int) ≤ v2 ∧ v2 < (p_L s0 (p_R s0 v0 4) : Int)) <|
      p_bi (p_wZ s0 (p_R s0 v0 4) (v2 : Int).toNat (p_w ((p_Z s0 (p_R s0 v1 12) (v2 : Int).toNat) - 48))) fun s20 =>
      p_gd (p_is s20 (p_R s20 v0 4) 100) <|
      p_gd ((0 : Int) ≤ v2 ∧ v2 < (p_L s20 (p_R s20 v0 4) : Int)) <|
      if (p_Z s20 (p_R s20 v0 4) (v2 : Int).toNat) < 0 then
        B_Reading_readFormA_54 v0 s20
      else
        p_gd ((0 : Int) ≤ v2 ∧ v2 < (p_L s20 (p_R s20 v0 4) : Int)) <|
        if (p_Z s20 (p_R s20 v0 4) (v2 : Int).toNat) ≤ 9 then
          p_bi (p_w (v2 + 1)) fun x27 =>
          k2 v0 v1 x27 s20
        else
          B_Reading_readFormA_54 v0 s20
    else
      some ((-13), s0)
def O_Reading_readFormA_2  : Nat → Nat → Nat → Int → p_Hp → Option (Int × p_Hp)
  | 0 => fun _ _ _ _ => none
  | n + 1 => L_Reading_readFormA_2 (O_Reading_readFormA_2 n)
def F_Reading_readFormA (v0 : Nat) (v1 : Nat) (s0 : p_Hp) : Option (Int × p_Hp) :=
  O_Reading_readFormA_2 3000 v0 v1 1 s0
set_option maxRecDepth 100000 in
set_option maxHeartbeats 4000000 in
theorem tB_Reading_readFormA_54 (K : p_K) (l : Launch)  (v0 : Nat) (s0 : p_Hp) (r : (Int × p_Hp)) (h : B_Reading_readFormA_54 v0 s0 = some r) : p_Go K l m_Reading_readFormA 54 [(0, p_r v0)] [] s0 (some (p_i r.1), r.2) := by
  unfold B_Reading_readFormA_54 at h
  refine g_aload_n (i := 0) (j := 0) (dk_Reading_readFormA 32 rfl) rfl rfl ?_
  refine g_iconst (dk_Reading_readFormA 33 rfl) (by decide) ?_
  obtain ⟨c1, h⟩ := p_gdE h
  refine g_putB fl_Reading_31 (Or.inl rfl) (dk_Reading_readFormA 34 rfl) c1 (Or.inr rfl) ?_
  refine p_ltS (P := fun q => p_Go K l m_Reading_readFormA 59 [(0, p_r v0)] [] q _) (p_xZ _ _ _ _) ?_ h
  intro s2 hs3 h
  refine g_iconst (dk_Reading_readFormA 35 rfl) (by decide) ?_
  cases h
  exact g_ret rfl rfl (dk_Reading_readFormA 36 rfl) (fun os => ⟨_, rfl, p_okh os⟩)
set_option maxRecDepth 100000 in
set_option maxHeartbeats 4000000 in
theorem tB_Reading_readFormA_133 (K : p_K) (l : Launch)  (v0 : Nat) (w0 : Int) (w1 : Nat) (s0 : p_Hp) (r : (Int × p_Hp)) (h : B_Reading_readFormA_133 v0 w0 w1 s0 = some r) : p_Go K l m_Reading_readFormA 133 [(0, p_r v0)] [p_i w0, p_r w1] s0 (some (p_i r.1), r.2) := by
  unfold B_Reading_readFormA_133 at h
  obtain ⟨c1, h⟩ := p_gdE h
  obtain ⟨c2, h⟩ := p_gdE h
  refine g_putB fl_Reading_31 (Or.inl rfl) (dk_Reading_readFormA 84 rfl) c1 c2 ?_
  refine p_ltS (P := fun q => p_Go K l m_Reading_readFormA 136 [(0, p_r v0)] [] q _) (p_xZ _ _ _ _) ?_ h
  intro s3 hs4 h
  refine g_aload_n (i := 0) (j := 0) (dk_Reading_readFormA 85 rfl) rfl rfl ?_
  refine g_bipush (dk_Reading_readFormA 86 rfl) (by decide +kernel) (by decide) ?_
  refine g_aload_n (i := 0) (j := 0) (dk_Reading_readFormA 87 rfl) rfl rfl ?_
  obtain ⟨c5, h⟩ := p_gdE h
  refine g_getR fl_Reading_9 (Or.inr ⟨_, rfl⟩) (dk_Reading_readFormA 88 rfl) c5 ?_
  refine g_iconst (dk_Reading_readFormA 89 rfl) (by decide) ?_
  obtain ⟨c6, h⟩ := p_gdE h
  obtain ⟨c7, h⟩ := p_gdE h
  refine g_iaload (dk_Reading_readFormA 90 rfl) c6 c7.1 c7.2 ?_
  refine g_imul (dk_Reading_readFormA 91 rfl) ?_
  refine g_aload_n (i := 0) (j := 0) (dk_Reading_readFormA 92 rfl) rfl rfl ?_
  refine g_getR fl_Reading_9 (Or.inr ⟨_, rfl⟩) (dk_Reading_readFormA 93 rfl) c5 ?_
  refine g_iconst (dk_Reading_readFormA 94 rfl) (by decide) ?_
  obtain ⟨c8, h⟩ := p_gdE h
  refine g_iaload (dk_Reading_readFormA 95 rfl) c6 c8.1 c8.2 ?_
  refine g_iadd (dk_Reading_readFormA 96 rfl) ?_
  refine g_putI fl_Reading_35 (Or.inl rfl) (dk_Reading_readFormA 97 rfl) c5 ?_
  refine p_ltS (P := fun q => p_Go K l m_Reading_readFormA 156 [(0, p_r v0)] [] q _) (p_xZ _ _ _ _) ?_ h
  intro s9 hs10 h
  refine g_aload_n (i := 0) (j := 0) (dk_Reading_readFormA 98 rfl) rfl rfl ?_
  refine g_bipush (dk_Reading_readFormA 99 rfl) (by decide +kernel) (by decide) ?_
  refine g_aload_n (i := 0) (j := 0) (dk_Reading_readFormA 100 rfl) rfl rfl ?_
  refine g_getR fl_Reading_9 (Or.inr ⟨_, rfl⟩) (dk_Reading_readFormA 101 rfl) (c5.up hs10) ?_
  refine g_iconst (dk_Reading_readFormA 102 rfl) (by decide) ?_
  obtain ⟨c11, h⟩ := p_gdE h
  obtain ⟨c12, h⟩ := p_gdE h
  refine g_iaload (dk_Reading_readFormA 103 rfl) c11 c12.1 c12.2 ?_
  refine g_imul (dk_Reading_readFormA 104 rfl) ?_
  refine g_bipush (dk_Reading_readFormA 105 rfl) (by decide +kernel) (by decide) ?_
  refine g_aload_n (i := 0) (j := 0) (dk_Reading_readFormA 106 rfl) rfl rfl ?_
  refine g_getR fl_Reading_9 (Or.inr ⟨_, rfl⟩) (dk_Reading_readFormA 107 rfl) (c5.up hs10) ?_
  refine g_iconst (dk_Reading_readFormA 108 rfl) (by decide) ?_
  obtain ⟨c13, h⟩ := p_gdE h
  refine g_iaload (dk_Reading_readFormA 109 rfl) c11 c13.1 c13.2 ?_
  refine g_imul (dk_Reading_readFormA 110 rfl) ?_
  refine g_iadd (dk_Reading_readFormA 111 rfl) ?_
  refine g_aload_n (i := 0) (j := 0) (dk_Reading_readFormA 112 rfl) rfl rfl ?_
  refine g_getR fl_Reading_9 (Or.inr ⟨_, rfl⟩) (dk_Reading_readFormA 113 rfl) (c5.up hs10) ?_
  refine g_iconst (dk_Reading_readFormA 114 rfl) (by decide) ?_
  obtain ⟨c14, h⟩ := p_gdE h
  refine g_iaload (dk_Reading_readFormA 115 rfl) c11 c14.1 c14.2 ?_
  refine g_iadd (dk_Reading_readFormA 116 rfl) ?_
  refine g_putI fl_Reading_38 (Or.inl rfl) (dk_Reading_readFormA 117 rfl) (c5.up hs10) ?_
  refine p_ltS (P := fun q => p_Go K l m_Reading_readFormA 186 [(0, p_r v0)] [] q _) (p_xZ _ _ _ _) ?_ h
  intro s15 hs16 h
  refine g_aload_n (i := 0) (j := 0) (dk_Reading_readFormA 118 rfl) rfl rfl ?_
  refine g_aload_n (i := 0) (j := 0) (dk_Reading_readFormA 119 rfl) rfl rfl ?_
  refine g_getR fl_Reading_9 (Or.inr ⟨_, rfl⟩) (dk_Reading_readFormA 120 rfl) (c5.up (hs10.trans hs16)) ?_
  refine g_bipush (dk_Reading_readFormA 121 rfl) (by decide +kernel) (by decide) ?_
  obtain ⟨c17, h⟩ := p_gdE h
  obtain ⟨c18, h⟩ := p_gdE h
  refine g_iaload (dk_Reading_readFormA 122 rfl) c17 c18.1 c18.2 ?_
  refine g_putI fl_Reading_41 (Or.inl rfl) (dk_Reading_readFormA 123 rfl) (c5.up (hs10.trans hs16)) ?_
  refine p_ltS (P := fun q => p_Go K l m_Reading_readFormA 197 [(0, p_r v0)] [] q _) (p_xZ _ _ _ _) ?_ h
  intro s19 hs20 h
  refine g_iconst (dk_Reading_readFormA 124 rfl) (by decide) ?_
  cases h
  exact g_ret rfl rfl (dk_Reading_readFormA 125 rfl) (fun os => ⟨_, rfl, p_okh os⟩)
set_option maxRecDepth 100000 in
set_option maxHeartbeats 4000000 in
theorem tL_Reading_readFormA_2 (K : p_K) (l : Launch) (k2 : Nat → Nat → Int → p_Hp → Option (Int × p_Hp)) (hk2 : ∀ (v0 : Nat) (v1 : Nat) (v2 : Int)  (s0 : p_Hp) (r : (Int × p_Hp)), k2 v0 v1 v2 s0 = some r → p_Go K l m_Reading_readFormA 2 [(0, p_r v0), (1, p_r v1), (2, p_i v2)] [] s0 (some (p_i r.1), r.2)) (v0 : Nat) (v1 : Nat) (v2 : Int) (s0 : p_Hp) (r : (Int × p_Hp)) (h : L_Reading_readFormA_2 k2 v0 v1 v2 s0 = some r) : p_Go K l m_Reading_readFormA 2 [(0, p_r v0), (1, p_r v1), (2, p_i v2)] [] s0 (some (p_i r.1), r.2) := by
  unfold L_Reading_readFormA_2 at h
  refine g_iload_n (i := 2) (j := 2) (dk_Reading_readFormA 2 rfl) rfl rfl ?_
  refine g_bipush (dk_Reading_readFormA 3 rfl) (by decide +kernel) (by decide) ?_
  refine g_icmp_ge 67 (dk_Reading_readFormA 4 rfl) (by decide) (fun b1 => ?_) (fun b1 => ?_)
  · have h := p_ifT b1 h
    refine g_iconst (dk_Reading_readFormA 39 rfl) (by decide) ?_
    refine g_aload_n (i := 0) (j := 0) (dk_Reading_readFormA 40 rfl) rfl rfl ?_
    obtain ⟨c2, h⟩ := p_gdE h
    refine g_getR fl_Reading_9 (Or.inr ⟨_, rfl⟩) (dk_Reading_readFormA 41 rfl) c2 ?_
    refine g_iconst (dk_Reading_readFormA 42 rfl) (by decide) ?_
    obtain ⟨c3, h⟩ := p_gdE h
    obtain ⟨c4, h⟩ := p_gdE h
    refine g_iaload (dk_Reading_readFormA 43 rfl) c3 c4.1 c4.2 ?_
    refine g_aload_n (i := 0) (j := 0) (dk_Reading_readFormA 44 rfl) rfl rfl ?_
    refine g_getR fl_Reading_9 (Or.inr ⟨_, rfl⟩) (dk_Reading_readFormA 45 rfl) c2 ?_
    refine g_iconst (dk_Reading_readFormA 46 rfl) (by decide) ?_
    obtain ⟨c5, h⟩ := p_gdE h
    refine g_iaload (dk_Reading_readFormA 47 rfl) c3 c5.1 c5.2 ?_
    refine g_iadd (dk_Reading_readFormA 48 rfl) ?_
    refine g_aload_n (i := 0) (j := 0) (dk_Reading_readFormA 49 rfl) rfl rfl ?_
    refine g_getR fl_Reading_9 (Or.inr ⟨_, rfl⟩) (dk_Reading_readFormA 50 rfl) c2 ?_
    refine g_iconst (dk_Reading_readFormA 51 rfl) (by decide) ?_
    obtain ⟨c6, h⟩ := p_gdE h
    refine g_iaload (dk_Reading_readFormA 52 rfl) c3 c6.1 c6.2 ?_
    refine g_iadd (dk_Reading_readFormA 53 rfl) ?_
    refine g_imul (dk_Reading_readFormA 54 rfl) ?_
    refine g_aload_n (i := 0) (j := 0) (dk_Reading_readFormA 55 rfl) rfl rfl ?_
    refine g_getR fl_Reading_9 (Or.inr ⟨_, rfl⟩) (dk_Reading_readFormA 56 rfl) c2 ?_
    refine g_iconst (dk_Reading_readFormA 57 rfl) (by decide) ?_
    obtain ⟨c7, h⟩ := p_gdE h
    refine g_iaload (dk_Reading_readFormA 58 rfl) c3 c7.1 c7.2 ?_
    refine g_iadd (dk_Reading_readFormA 59 rfl) ?_
    refine g_aload_n (i := 0) (j := 0) (dk_Reading_readFormA 60 rfl) rfl rfl ?_
    refine g_getR fl_Reading_9 (Or.inr ⟨_, rfl⟩) (dk_Reading_readFormA 61 rfl) c2 ?_
    refine g_iconst (dk_Reading_readFormA 62 rfl) (by decide) ?_
    obtain ⟨c8, h⟩ := p_gdE h
    refine g_iaload (dk_Reading_readFormA 63 rfl) c3 c8.1 c8.2 ?_
    refine g_iadd (dk_Reading_readFormA 64 rfl) ?_
    refine g_aload_n (i := 0) (j := 0) (dk_Reading_readFormA 65 rfl) rfl rfl ?_
    refine g_getR fl_Reading_9 (Or.inr ⟨_, rfl⟩) (dk_Reading_readFormA 66 rfl) c2 ?_
    refine g_bipush (dk_Reading_readFormA 67 rfl) (by decide +kernel) (by decide) ?_
    obtain ⟨c9, h⟩ := p_gdE h
    refine g_iaload (dk_Reading_readFormA 68 rfl) c3 c9.1 c9.2 ?_
    refine g_iadd (dk_Reading_readFormA 69 rfl) ?_
    refine g_istore_n (i := 2) [(2, p_i (p_w ((p_w ((p_w ((p_w (3 * (p_w ((p_w ((p_Z s0 (p_R s0 v0 4) (1 : Int).toNat) + (p_Z s0 (p_R s0 v0 4) (3 : Int).toNat))) + (p_Z s0 (p_R s0 v0 4) (5 : Int).toNat))))) + (p_Z s0 (p_R s0 v0 4) (2 : Int).toNat))) + (p_Z s0 (p_R s0 v0 4) (4 : Int).toNat))) + (p_Z s0 (p_R s0 v0 4) (6 : Int).toNat)))), (0, p_r v0), (1, p_r v1)] (dk_Reading_readFormA 70 rfl) rfl (by decide) rfl ?_
    refine p_ltG (P := fun q => p_Go K l m_Reading_readFormA 112 [(2, p_i q), (0, p_r v0), (1, p_r v1)] [] s0 _) ?_ h
    intro x10 h
    refine g_aload_n (i := 0) (j := 1) (dk_Reading_readFormA 71 rfl) rfl rfl ?_
    refine g_iload_n (i := 2) (j := 0) (dk_Reading_readFormA 72 rfl) rfl rfl ?_
    refine g_aload_n (i := 0) (j := 1) (dk_Reading_readFormA 73 rfl) rfl rfl ?_
    refine g_getR fl_Reading_9 (Or.inr ⟨_, rfl⟩) (dk_Reading_readFormA 74 rfl) c2 ?_
    refine g_bipush (dk_Reading_readFormA 75 rfl) (by decide +kernel) (by decide) ?_
    obtain ⟨c11, h⟩ := p_gdE h
    refine g_iaload (dk_Reading_readFormA 76 rfl) c3 c11.1 c11.2 ?_
    refine g_iadd (dk_Reading_readFormA 77 rfl) ?_
    refine g_bipush (dk_Reading_readFormA 78 rfl) (by decide +kernel) (by decide) ?_
    refine g_irem (dk_Reading_readFormA 79 rfl) (by decide) ?_
    refine g_if_eq 132 (dk_Reading_readFormA 80 rfl) (by decide) (fun b12 => ?_) (fun b12 => ?_)
    · have h := p_ifT b12 h
      refine g_iconst (dk_Reading_readFormA 83 rfl) (by decide) ?_
      refine g_sub [(0, p_r v0)] [1] rfl ?_
      exact tB_Reading_readFormA_133 K l v0 0 v0 s0 _ h
    · have h := p_ifF b12 h
      refine g_iconst (dk_Reading_readFormA 81 rfl) (by decide) ?_
      refine g_goto 133 (dk_Reading_readFormA 82 rfl) (by decide) ?_
      refine g_sub [(0, p_r v0)] [1] rfl ?_
      exact tB_Reading_readFormA_133 K l v0 1 v0 s0 _ h
  · have h := p_ifF b1 h
    refine g_iload_n (i := 2) (j := 2) (dk_Reading_readFormA 5 rfl) rfl rfl ?_
    refine g_aload_n (i := 1) (j := 1) (dk_Reading_readFormA 6 rfl) rfl rfl ?_
    obtain ⟨c13, h⟩ := p_gdE h
    refine g_getI fl_Reading_15 (Or.inl rfl) (dk_Reading_readFormA 7 rfl) c13 ?_
    refine g_icmp_lt 19 (dk_Reading_readFormA 8 rfl) (by decide) (fun b14 => ?_) (fun b14 => ?_)
    · have h := p_ifT b14 h
      refine g_aload_n (i := 0) (j := 0) (dk_Reading_readFormA 11 rfl) rfl rfl ?_
      obtain ⟨c15, h⟩ := p_gdE h
      refine g_getR fl_Reading_9 (Or.inr ⟨_, rfl⟩) (dk_Reading_readFormA 12 rfl) c15 ?_
      refine g_iload_n (i := 2) (j := 2) (dk_Reading_readFormA 13 rfl) rfl rfl ?_
      refine g_aload_n (i := 1) (j := 1) (dk_Reading_readFormA 14 rfl) rfl rfl ?_
      refine g_getR fl_Reading_21 (Or.inr ⟨_, rfl⟩) (dk_Reading_readFormA 15 rfl) c13 ?_
      refine g_iload_n (i := 2) (j := 2) (dk_Reading_readFormA 16 rfl) rfl rfl ?_
      obtain ⟨c16, h⟩ := p_gdE h
      obtain ⟨c17, h⟩ := p_gdE h
      refine g_iaload (dk_Reading_readFormA 17 rfl) c16 c17.1 c17.2 ?_
      refine g_bipush (dk_Reading_readFormA 18 rfl) (by decide +kernel) (by decide) ?_
      refine g_isub (dk_Reading_readFormA 19 rfl) ?_
      obtain ⟨c18, h⟩ := p_gdE h
      obtain ⟨c19, h⟩ := p_gdE h
      refine g_iastore (dk_Reading_readFormA 20 rfl) c18 c19.1 c19.2 ?_
      refine p_ltS (P := fun q => p_Go K l m_Reading_readFormA 34 [(0, p_r v0), (1, p_r v1), (2, p_i v2)] [] q _) (p_xZ _ _ _ _) ?_ h
      intro s20 hs21 h
      refine g_aload_n (i := 0) (j := 0) (dk_Reading_readFormA 21 rfl) rfl rfl ?_
      refine g_getR fl_Reading_9 (Or.inr ⟨_, rfl⟩) (dk_Reading_readFormA 22 rfl) (c15.up hs21) ?_
      refine g_iload_n (i := 2) (j := 2) (dk_Reading_readFormA 23 rfl) rfl rfl ?_
      obtain ⟨c22, h⟩ := p_gdE h
      obtain ⟨c23, h⟩ := p_gdE h
      refine g_iaload (dk_Reading_readFormA 24 rfl) c22 c23.1 c23.2 ?_
      refine g_if_lt 54 (dk_Reading_readFormA 25 rfl) (by decide) (fun b24 => ?_) (fun b24 => ?_)
      · have h := p_ifT b24 h
        refine g_sub [(0, p_r v0)] [0] rfl ?_
        exact tB_Reading_readFormA_54 K l v0 s20 _ h
      · have h := p_ifF b24 h
        refine g_aload_n (i := 0) (j := 0) (dk_Reading_readFormA 26 rfl) rfl rfl ?_
        refine g_getR fl_Reading_9 (Or.inr ⟨_, rfl⟩) (dk_Reading_readFormA 27 rfl) (c15.up hs21) ?_
        refine g_iload_n (i := 2) (j := 2) (dk_Reading_readFormA 28 rfl) rfl rfl ?_
        obtain ⟨c25, h⟩ := p_gdE h
        refine g_iaload (dk_Reading_readFormA 29 rfl) c22 c25.1 c25.2 ?_
        refine g_bipush (dk_Reading_readFormA 30 rfl) (by decide +kernel) (by decide) ?_
        refine g_icmp_le 61 (dk_Reading_readFormA 31 rfl) (by decide) (fun b26 => ?_) (fun b26 => ?_)
        · have h := p_ifT b26 h
          refine g_iinc (j := 2) [(2, p_i (p_w (v2 + 1))), (0, p_r v0), (1, p_r v1)] (dk_Reading_readFormA 37 rfl) rfl (by decide) rfl ?_
          refine p_ltG (P := fun q => p_Go K l m_Reading_readFormA 64 [(2, p_i q), (0, p_r v0), (1, p_r v1)] [] s20 _) ?_ h
          intro x27 h
          refine g_goto 2 (dk_Reading_readFormA 38 rfl) (by decide) ?_
          refine g_sub [(0, p_r v0), (1, p_r v1), (2, p_i x27)] [1, 2, 0] rfl ?_
          exact hk2 v0 v1 x27 s20 _ h
        · have h := p_ifF b26 h
          refine g_sub [(0, p_r v0)] [0] rfl ?_
          exact tB_Reading_readFormA_54 K l v0 s20 _ h
    · have h := p_ifF b14 h
      refine g_bipush (dk_Reading_readFormA 9 rfl) (by decide +kernel) (by decide) ?_
      cases h
      exact g_ret rfl rfl (dk_Reading_readFormA 10 rfl) (fun os => ⟨_, rfl, p_okh os⟩)
set_option maxRecDepth 100000 in
set_option maxHeartbeats 4000000 in
theorem tO_Reading_readFormA_2 (K : p_K) (l : Launch)  : ∀ (n : Nat) (v0 : Nat) (v1 : Nat) (v2 : Int) (s0 : p_Hp) (r : (Int × p_Hp)), O_Reading_readFormA_2 n v0 v1 v2 s0 = some r → p_Go K l m_Reading_readFormA 2 [(0, p_r v0), (1, p_r v1), (2, p_i v2)] [] s0 (some (p_i r.1), r.2) := by
  intro n
  induction n with
  | zero => intro v0 v1 v2 s0 r h; cases (show (none : Option (Int × p_Hp)) = some r from h)
  | succ n ih => intro v0 v1 v2 s0 r h; exact tL_Reading_readFormA_2 K l _ ih v0 v1 v2 s0 r h
set_option maxRecDepth 100000 in
set_option maxHeartbeats 4000000 in
theorem tF_Reading_readFormA (K : p_K) (l : Launch) (v0 : Nat) (v1 : Nat) (s0 : p_Hp) (r : (Int × p_Hp)) (h : F_Reading_readFormA v0 v1 s0 = some r) : p_Ct K l m_Reading_readFormA [p_r v0, p_r v1] s0 (some (p_i r.1), r.2) := by
  refine p_Ct.of (by decide +kernel) (Nat.le_of_ble_eq_true rfl) ?_
  unfold F_Reading_readFormA at h
  show p_Go K l m_Reading_readFormA 0 [(0, p_r v0), (1, p_r v1)] [] s0 _
  refine g_iconst (dk_Reading_readFormA 0 rfl) (by decide) ?_
  refine g_istore_n (i := 2) [(2, p_i 1), (0, p_r v0), (1, p_r v1)] (dk_Reading_readFormA 1 rfl) rfl (by decide) rfl ?_
  refine g_sub [(0, p_r v0), (1, p_r v1), (2, p_i 1)] [1, 2, 0] rfl ?_
  exact tO_Reading_readFormA_2 K l 3000 v0 v1 1 s0 _ h
def m_Reading_readFormB : p_Me := (⟨"SortWorks$Reading", "readFormB", "(LSortWorks$Parcel;)I"⟩, prog_7_method_4_code, 2, (some .int), 0, 0)
theorem mt_Reading_readFormB : p_Mt m_Reading_readFormB 1 := ⟨p_mem (p_tb5 (List.mem_of_getElem? (i := 6) rfl)) rfl, tw_1_10, by decide +kernel, by decide +kernel, by decide +kernel⟩
def dt_Reading_readFormB : List (Nat × Instr × Nat) := [(0, .aload_n 1, 1), (1, .getfield 15, 3), (4, .bipush 6, 2), (6, .if_icmp .ge 6, 3), (9, .bipush (-13), 2), (11, .ireturn, 1), (12, .aload_n 0, 1), (13, .aload_n 1, 1), (14, .getfield 21, 3), (17, .iconst 1, 1), (18, .iaload, 1), (19, .putfield 35, 3), (22, .aload_n 0, 1), (23, .sipush 256, 3), (26, .aload_n 1, 1), (27, .getfield 21, 3), (30, .iconst 2, 1), (31, .iaload, 1), (32, .imul, 1), (33, .aload_n 1, 1), (34, .getfield 21, 3), (37, .iconst 3, 1), (38, .iaload, 1), (39, .iadd, 1), (40, .putfield 38, 3), (43, .aload_n 0, 1), (44, .aload_n 1, 1), (45, .getfield 21, 3), (48, .iconst 4, 1), (49, .iaload, 1), (50, .putfield 41, 3), (53, .aload_n 0, 1), (54, .aload_n 1, 1), (55, .getfield 21, 3), (58, .iconst 5, 1), (59, .iaload, 1), (60, .bipush 7, 2), (62, .aload_n 0, 1), (63, .getfield 35, 3), (66, .imul, 1), (67, .iconst 5, 1), (68, .aload_n 1, 1), (69, .getfield 21, 3), (72, .iconst 2, 1), (73, .iaload, 1), (74, .imul, 1), (75, .iadd, 1), (76, .iconst 3, 1), (77, .aload_n 1, 1), (78, .getfield 21, 3), (81, .iconst 3, 1), (82, .iaload, 1), (83, .imul, 1), (84, .iadd, 1), (85, .aload_n 0, 1), (86, .getfield 41, 3), (89, .iadd, 1), (90, .bipush 97, 2), (92, .irem, 1), (93, .if_icmp .eq 7, 3), (96, .iconst 1, 1), (97, .goto 4, 3), (100, .iconst 0, 1), (101, .putfield 31, 3), (104, .iconst 0, 1), (105, .ireturn, 1)]
theorem dk_Reading_readFormB (i : Nat) {pc : Nat} {ins : Instr} {len : Nat} (h : dt_Reading_readFormB[i]? = some (pc, ins, len)) : decode m_Reading_readFormB.2.1 pc = .ok (ins, len) := p_dk (b := m_Reading_readFormB.2.1) (t := dt_Reading_readFormB) (by decide +kernel) i h
def F_Reading_readFormB (v0 : Nat) (v1 : Nat) (s0 : p_Hp) : Option (Int × p_Hp) :=
  p_gd (p_is s0 v1 4) <|
  if 6 ≤ (p_Z s0 v1 11) then
    p_gd (p_is s0 (p_R s0 v1 12) 100) <|
    p_gd ((0 : Int) ≤ 1 ∧ 1 < (p_L s0 (p_R s0 v1 12) : Int)) <|
    p_gd (p_is s0 v0 5) <|
    p_bi (p_wZ s0 v0 1 (p_Z s0 (p_R s0 v1 12) (1 : Int).toNat)) fun s6 =>
    p_gd (p_is s6 (p_R s6 v1 12) 100) <|
    p_gd ((0 : Int) ≤ 2 ∧ 2 < (p_L s6 (p_R s6 v1 12) : Int)) <|
    p_gd ((0 : Int) ≤ 3 ∧ 3 < (p_L s6 (p_R s6 v1 12) : Int)) <|
    p_bi (p_wZ s6 v0 2 (p_w ((p_w (256 * (p_Z s6 (p_R s6 v1 12) (2 : Int).toNat))) + (p_Z s6 (p_R s6 v1 12) (3 : Int).toNat)))) fun s11 =>
    p_gd (p_is s11 (p_R s11 v1 12) 100) <|
    p_gd ((0 : Int) ≤ 4 ∧ 4 < (p_L s11 (p_R s11 v1 12) : Int)) <|
    p_bi (p_wZ s11 v0 3 (p_Z s11 (p_R s11 v1 12) (4 : Int).toNat)) fun s15 =>
    p_gd (p_is s15 (p_R s15 v1 12) 100) <|
    p_gd ((0 : Int) ≤ 5 ∧ 5 < (p_L s15 (p_R s15 v1 12) : Int)) <|
    p_gd ((0 : Int) ≤ 2 ∧ 2 < (p_L s15 (p_R s15 v1 12) : Int)) <|
    p_gd ((0 : Int) ≤ 3 ∧ 3 < (p_L s15 (p_R s15 v1 12) : Int)) <|
    if (p_Z s15 (p_R s15 v1 12) (5 : Int).toNat) = (p_rem (p_w ((p_w ((p_w ((p_w (7 * (p_Z s15 v0 1))) + (p_w (5 * (p_Z s15 (p_R s15 v1 12) (2 : Int).toNat))))) + (p_w (3 * (p_Z s15 (p_R s15 v1 12) (3 : Int).toNat))))) + (p_Z s15 v0 3))) 97) then
      p_bi (p_wZ s15 v0 0 0) fun s22 =>
      some (0, s22)
    else
      p_bi (p_wZ s15 v0 0 1) fun s24 =>
      some (0, s24)
  else
    some ((-13), s0)
set_option maxRecDepth 100000 in
set_option maxHeartbeats 4000000 in
theorem tF_Reading_readFormB (K : p_K) (l : Launch) (v0 : Nat) (v1 : Nat) (s0 : p_Hp) (r : (Int × p_Hp)) (h : F_Reading_readFormB v0 v1 s0 = some r) : p_Ct K l m_Reading_readFormB [p_r v0, p_r v1] s0 (some (p_i r.1), r.2) := by
  refine p_Ct.of (by decide +kernel) (Nat.le_of_ble_eq_true rfl) ?_
  unfold F_Reading_readFormB at h
  show p_Go K l m_Reading_readFormB 0 [(0, p_r v0), (1, p_r v1)] [] s0 _
  refine g_aload_n (i := 1) (j := 1) (dk_Reading_readFormB 0 rfl) rfl rfl ?_
  obtain ⟨c1, h⟩ := p_gdE h
  refine g_getI fl_Reading_15 (Or.inl rfl) (dk_Reading_readFormB 1 rfl) c1 ?_
  refine g_bipush (dk_Reading_readFormB 2 rfl) (by decide +kernel) (by decide) ?_
  refine g_icmp_ge 12 (dk_Reading_readFormB 3 rfl) (by decide) (fun b2 => ?_) (fun b2 => ?_)
  · have h := p_ifT b2 h
    refine g_aload_n (i := 0) (j := 0) (dk_Reading_readFormB 6 rfl) rfl rfl ?_
    refine g_aload_n (i := 1) (j := 1) (dk_Reading_readFormB 7 rfl) rfl rfl ?_
    refine g_getR fl_Reading_21 (Or.inr ⟨_, rfl⟩) (dk_Reading_readFormB 8 rfl) c1 ?_
    refine g_iconst (dk_Reading_readFormB 9 rfl) (by decide) ?_
    obtain ⟨c3, h⟩ := p_gdE h
    obtain ⟨c4, h⟩ := p_gdE h
    refine g_iaload (dk_Reading_readFormB 10 rfl) c3 c4.1 c4.2 ?_
    obtain ⟨c5, h⟩ := p_gdE h
    refine g_putI fl_Reading_35 (Or.inl rfl) (dk_Reading_readFormB 11 rfl) c5 ?_
    refine p_ltS (P := fun q => p_Go K l m_Reading_readFormB 22 [(0, p_r v0), (1, p_r v1)] [] q _) (p_xZ _ _ _ _) ?_ h
    intro s6 hs7 h
    refine g_aload_n (i := 0) (j := 0) (dk_Reading_readFormB 12 rfl) rfl rfl ?_
    refine g_sipush (dk_Reading_readFormB 13 rfl) (by decide +kernel) (by decide) ?_
    refine g_aload_n (i := 1) (j := 1) (dk_Reading_readFormB 14 rfl) rfl rfl ?_
    refine g_getR fl_Reading_21 (Or.inr ⟨_, rfl⟩) (dk_Reading_readFormB 15 rfl) (c1.up hs7) ?_
    refine g_iconst (dk_Reading_readFormB 16 rfl) (by decide) ?_
    obtain ⟨c8, h⟩ := p_gdE h
    obtain ⟨c9, h⟩ := p_gdE h
    refine g_iaload (dk_Reading_readFormB 17 rfl) c8 c9.1 c9.2 ?_
    refine g_imul (dk_Reading_readFormB 18 rfl) ?_
    refine g_aload_n (i := 1) (j := 1) (dk_Reading_readFormB 19 rfl) rfl rfl ?_
    refine g_getR fl_Reading_21 (Or.inr ⟨_, rfl⟩) (dk_Reading_readFormB 20 rfl) (c1.up hs7) ?_
    refine g_iconst (dk_Reading_readFormB 21 rfl) (by decide) ?_
    obtain ⟨c10, h⟩ := p_gdE h
    refine g_iaload (dk_Reading_readFormB 22 rfl) c8 c10.1 c10.2 ?_
    refine g_iadd (dk_Reading_readFormB 23 rfl) ?_
    refine g_putI fl_Reading_38 (Or.inl rfl) (dk_Reading_readFormB 24 rfl) (c5.up hs7) ?_
    refine p_ltS (P := fun q => p_Go K l m_Reading_readFormB 43 [(0, p_r v0), (1, p_r v1)] [] q _) (p_xZ _ _ _ _) ?_ h
    intro s11 hs12 h
    refine g_aload_n (i := 0) (j := 0) (dk_Reading_readFormB 25 rfl) rfl rfl ?_
    refine g_aload_n (i := 1) (j := 1) (dk_Reading_readFormB 26 rfl) rfl rfl ?_
    refine g_getR fl_Reading_21 (Or.inr ⟨_, rfl⟩) (dk_Reading_readFormB 27 rfl) (c1.up (hs7.trans hs12)) ?_
    refine g_iconst (dk_Reading_readFormB 28 rfl) (by decide) ?_
    obtain ⟨c13, h⟩ := p_gdE h
    obtain ⟨c14, h⟩ := p_gdE h
    refine g_iaload (dk_Reading_readFormB 29 rfl) c13 c14.1 c14.2 ?_
    refine g_putI fl_Reading_41 (Or.inl rfl) (dk_Reading_readFormB 30 rfl) (c5.up (hs7.trans hs12)) ?_
    refine p_ltS (P := fun q => p_Go K l m_Reading_readFormB 53 [(0, p_r v0), (1, p_r v1)] [] q _) (p_xZ _ _ _ _) ?_ h
    intro s15 hs16 h
    refine g_aload_n (i := 0) (j := 0) (dk_Reading_readFormB 31 rfl) rfl rfl ?_
    refine g_aload_n (i := 1) (j := 1) (dk_Reading_readFormB 32 rfl) rfl rfl ?_
    refine g_getR fl_Reading_21 (Or.inr ⟨_, rfl⟩) (dk_Reading_readFormB 33 rfl) (c1.up (hs7.trans (hs12.trans hs16))) ?_
    refine g_iconst (dk_Reading_readFormB 34 rfl) (by decide) ?_
    obtain ⟨c17, h⟩ := p_gdE h
    obtain ⟨c18, h⟩ := p_gdE h
    refine g_iaload (dk_Reading_readFormB 35 rfl) c17 c18.1 c18.2 ?_
    refine g_bipush (dk_Reading_readFormB 36 rfl) (by decide +kernel) (by decide) ?_
    refine g_aload_n (i := 0) (j := 0) (dk_Reading_readFormB 37 rfl) rfl rfl ?_
    refine g_getI fl_Reading_35 (Or.inl rfl) (dk_Reading_readFormB 38 rfl) (c5.up (hs7.trans (hs12.trans hs16))) ?_
    refine g_imul (dk_Reading_readFormB 39 rfl) ?_
    refine g_iconst (dk_Reading_readFormB 40 rfl) (by decide) ?_
    refine g_aload_n (i := 1) (j := 1) (dk_Reading_readFormB 41 rfl) rfl rfl ?_
    refine g_getR fl_Reading_21 (Or.inr ⟨_, rfl⟩) (dk_Reading_readFormB 42 rfl) (c1.up (hs7.trans (hs12.trans hs16))) ?_
    refine g_iconst (dk_Reading_readFormB 43 rfl) (by decide) ?_
    obtain ⟨c19, h⟩ := p_gdE h
    refine g_iaload (dk_Reading_readFormB 44 rfl) c17 c19.1 c19.2 ?_
    refine g_imul (dk_Reading_readFormB 45 rfl) ?_
    refine g_iadd (dk_Reading_readFormB 46 rfl) ?_
    refine g_iconst (dk_Reading_readFormB 47 rfl) (by decide) ?_
    refine g_aload_n (i := 1) (j := 1) (dk_Reading_readFormB 48 rfl) rfl rfl ?_
    refine g_getR fl_Reading_21 (Or.inr ⟨_, rfl⟩) (dk_Reading_readFormB 49 rfl) (c1.up (hs7.trans (hs12.trans hs16))) ?_
    refine g_iconst (dk_Reading_readFormB 50 rfl) (by decide) ?_
    obtain ⟨c20, h⟩ := p_gdE h
    refine g_iaload (dk_Reading_readFormB 51 rfl) c17 c20.1 c20.2 ?_
    refine g_imul (dk_Reading_readFormB 52 rfl) ?_
    refine g_iadd (dk_Reading_readFormB 53 rfl) ?_
    refine g_aload_n (i := 0) (j := 0) (dk_Reading_readFormB 54 rfl) rfl rfl ?_
    refine g_getI fl_Reading_41 (Or.inl rfl) (dk_Reading_readFormB 55 rfl) (c5.up (hs7.trans (hs12.trans hs16))) ?_
    refine g_iadd (dk_Reading_readFormB 56 rfl) ?_
    refine g_bipush (dk_Reading_readFormB 57 rfl) (by decide +kernel) (by decide) ?_
    refine g_irem (dk_Reading_readFormB 58 rfl) (by decide) ?_
    refine g_icmp_eq 100 (dk_Reading_readFormB 59 rfl) (by decide) (fun b21 => ?_) (fun b21 => ?_)
    · have h := p_ifT b21 h
      refine g_iconst (dk_Reading_readFormB 62 rfl) (by decide) ?_
      refine g_putB fl_Reading_31 (Or.inl rfl) (dk_Reading_readFormB 63 rfl) (c5.up (hs7.trans (hs12.trans hs16))) (Or.inl rfl) ?_
      refine p_ltS (P := fun q => p_Go K l m_Reading_readFormB 104 [(0, p_r v0), (1, p_r v1)] [] q _) (p_xZ _ _ _ _) ?_ h
      intro s22 hs23 h
      refine g_iconst (dk_Reading_readFormB 64 rfl) (by decide) ?_
      cases h
      exact g_ret rfl rfl (dk_Reading_readFormB 65 rfl) (fun os => ⟨_, rfl, p_okh os⟩)
    · have h := p_ifF b21 h
      refine g_iconst (dk_Reading_readFormB 60 rfl) (by decide) ?_
      refine g_goto 101 (dk_Reading_readFormB 61 rfl) (by decide) ?_
      refine g_putB fl_Reading_31 (Or.inl rfl) (dk_Reading_readFormB 63 rfl) (c5.up (hs7.trans (hs12.trans hs16))) (Or.inr rfl) ?_
      refine p_ltS (P := fun q => p_Go K l m_Reading_readFormB 104 [(0, p_r v0), (1, p_r v1)] [] q _) (p_xZ _ _ _ _) ?_ h
      intro s24 hs25 h
      refine g_iconst (dk_Reading_readFormB 64 rfl) (by decide) ?_
      cases h
      exact g_ret rfl rfl (dk_Reading_readFormB 65 rfl) (fun os => ⟨_, rfl, p_okh os⟩)
  · have h := p_ifF b2 h
    refine g_bipush (dk_Reading_readFormB 4 rfl) (by decide +kernel) (by decide) ?_
    cases h
    exact g_ret rfl rfl (dk_Reading_readFormB 5 rfl) (fun os => ⟨_, rfl, p_okh os⟩)
def m_Reading_read : p_Me := (⟨"SortWorks$Reading", "read", "(LSortWorks$Parcel;)I"⟩, prog_7_method_2_code, 2, (some .int), 1, 22)
theorem mt_Reading_read : p_Mt m_Reading_read 1 := ⟨p_mem (p_tb4 (List.mem_of_getElem? (i := 238) rfl)) rfl, tw_1_10, by decide +kernel, by decide +kernel, by decide +kernel⟩
def dt_Reading_read : List (Nat × Instr × Nat) := [(0, .aload_n 1, 1), (1, .getfield 15, 3), (4, .iconst (-1), 1), (5, .if_icmp .ne 6, 3), (8, .bipush (-11), 2), (10, .ireturn, 1), (11, .aload_n 1, 1), (12, .getfield 15, 3), (15, .ifCond .ne 6, 3), (18, .bipush (-13), 2), (20, .ireturn, 1), (21, .aload_n 1, 1), (22, .getfield 21, 3), (25, .iconst 0, 1), (26, .iaload, 1), (27, .bipush 65, 2), (29, .if_icmp .ne 9, 3), (32, .aload_n 0, 1), (33, .aload_n 1, 1), (34, .invokevirtual 24, 3), (37, .ireturn, 1), (38, .aload_n 1, 1), (39, .getfield 21, 3), (42, .iconst 0, 1), (43, .iaload, 1), (44, .bipush 66, 2), (46, .if_icmp .ne 9, 3), (49, .aload_n 0, 1), (50, .aload_n 1, 1), (51, .invokevirtual 28, 3), (54, .ireturn, 1), (55, .aload_n 0, 1), (56, .iconst 1, 1), (57, .putfield 31, 3), (60, .iconst 0, 1), (61, .ireturn, 1)]
theorem dk_Reading_read (i : Nat) {pc : Nat} {ins : Instr} {len : Nat} (h : dt_Reading_read[i]? = some (pc, ins, len)) : decode m_Reading_read.2.1 pc = .ok (ins, len) := p_dk (b := m_Reading_read.2.1) (t := dt_Reading_read) (by decide +kernel) i h
def F_Reading_read (v0 : Nat) (v1 : Nat) (s0 : p_Hp) : Option (Int × p_Hp) :=
  p_gd (p_is s0 v1 4) <|
  if (p_Z s0 v1 11) ≠ (-1) then
    if (p_Z s0 v1 11) ≠ 0 then
      p_gd (p_is s0 (p_R s0 v1 12) 100) <|
      p_gd ((0 : Int) ≤ 0 ∧ 0 < (p_L s0 (p_R s0 v1 12) : Int)) <|
      if (p_Z s0 (p_R s0 v1 12) (0 : Int).toNat) ≠ 65 then
        p_gd ((0 : Int) ≤ 0 ∧ 0 < (p_L s0 (p_R s0 v1 12) : Int)) <|
        if (p_Z s0 (p_R s0 v1 12) (0 : Int).toNat) ≠ 66 then
          p_gd (p_is s0 v0 5) <|
          p_bi (p_wZ s0 v0 0 1) fun s10 =>
          some (0, s10)
        else
          p_gd (p_is s0 v0 5) <|
          p_bd (F_Reading_readFormB v0 v1 s0) fun r17 s13 =>
          some (r17, s13)
      else
        p_gd (p_is s0 v0 5) <|
        p_bd (F_Reading_readFormA v0 v1 s0) fun r23 s19 =>
        some (r23, s19)
    else
      some ((-13), s0)
  else
    some ((-11), s0)
set_option maxRecDepth 100000 in
set_option maxHeartbeats 4000000 in
theorem tF_Reading_read (K : p_K) (l : Launch) (v0 : Nat) (v1 : Nat) (s0 : p_Hp) (r : (Int × p_Hp)) (h : F_Reading_read v0 v1 s0 = some r) : p_Ct K l m_Reading_read [p_r v0, p_r v1] s0 (some (p_i r.1), r.2) := by
  refine p_Ct.of (by decide +kernel) (Nat.le_of_ble_eq_true rfl) ?_
  unfold F_Reading_read at h
  show p_Go K l m_Reading_read 0 [(0, p_r v0), (1, p_r v1)] [] s0 _
  refine g_aload_n (i := 1) (j := 1) (dk_Reading_read 0 rfl) rfl rfl ?_
  obtain ⟨c1, h⟩ := p_gdE h
  refine g_getI fl_Reading_15 (Or.inl rfl) (dk_Reading_read 1 rfl) c1 ?_
  refine g_iconst (dk_Reading_read 2 rfl) (by decide) ?_
  refine g_icmp_ne 11 (dk_Reading_read 3 rfl) (by decide) (fun b2 => ?_) (fun b2 => ?_)
  · have h := p_ifT b2 h
    refine g_aload_n (i := 1) (j := 1) (dk_Reading_read 6 rfl) rfl rfl ?_
    refine g_getI fl_Reading_15 (Or.inl rfl) (dk_Reading_read 7 rfl) c1 ?_
    refine g_if_ne 21 (dk_Reading_read 8 rfl) (by decide) (fun b3 => ?_) (fun b3 => ?_)
    · have h := p_ifT b3 h
      refine g_aload_n (i := 1) (j := 1) (dk_Reading_read 11 rfl) rfl rfl ?_
      refine g_getR fl_Reading_21 (Or.inr ⟨_, rfl⟩) (dk_Reading_read 12 rfl) c1 ?_
      refine g_iconst (dk_Reading_read 13 rfl) (by decide) ?_
      obtain ⟨c4, h⟩ := p_gdE h
      obtain ⟨c5, h⟩ := p_gdE h
      refine g_iaload (dk_Reading_read 14 rfl) c4 c5.1 c5.2 ?_
      refine g_bipush (dk_Reading_read 15 rfl) (by decide +kernel) (by decide) ?_
      refine g_icmp_ne 38 (dk_Reading_read 16 rfl) (by decide) (fun b6 => ?_) (fun b6 => ?_)
      · have h := p_ifT b6 h
        refine g_aload_n (i := 1) (j := 1) (dk_Reading_read 21 rfl) rfl rfl ?_
        refine g_getR fl_Reading_21 (Or.inr ⟨_, rfl⟩) (dk_Reading_read 22 rfl) c1 ?_
        refine g_iconst (dk_Reading_read 23 rfl) (by decide) ?_
        obtain ⟨c7, h⟩ := p_gdE h
        refine g_iaload (dk_Reading_read 24 rfl) c4 c7.1 c7.2 ?_
        refine g_bipush (dk_Reading_read 25 rfl) (by decide +kernel) (by decide) ?_
        refine g_icmp_ne 55 (dk_Reading_read 26 rfl) (by decide) (fun b8 => ?_) (fun b8 => ?_)
        · have h := p_ifT b8 h
          refine g_aload_n (i := 0) (j := 0) (dk_Reading_read 31 rfl) rfl rfl ?_
          refine g_iconst (dk_Reading_read 32 rfl) (by decide) ?_
          obtain ⟨c9, h⟩ := p_gdE h
          refine g_putB fl_Reading_31 (Or.inl rfl) (dk_Reading_read 33 rfl) c9 (Or.inr rfl) ?_
          refine p_ltS (P := fun q => p_Go K l m_Reading_read 60 [(0, p_r v0), (1, p_r v1)] [] q _) (p_xZ _ _ _ _) ?_ h
          intro s10 hs11 h
          refine g_iconst (dk_Reading_read 34 rfl) (by decide) ?_
          cases h
          exact g_ret rfl rfl (dk_Reading_read 35 rfl) (fun os => ⟨_, rfl, p_okh os⟩)
        · have h := p_ifF b8 h
          refine g_aload_n (i := 0) (j := 0) (dk_Reading_read 27 rfl) rfl rfl ?_
          refine g_aload_n (i := 1) (j := 1) (dk_Reading_read 28 rfl) rfl rfl ?_
          obtain ⟨c12, h⟩ := p_gdE h
          obtain ⟨r17, s13, q14, h⟩ := p_bdE h
          have t15 := tF_Reading_readFormB K l v0 v1 s0 _ q14
          refine g_callV (a := v0) (ci := 5) (q0 := (RX5, TX5, 5)) (As := [p_r v1]) (rest := []) [p_i r17] mt_Reading_readFormB rfl rfl tw_5_5 ts_25 tw_5_3 ⟨Nat.le_of_ble_eq_true rfl, Nat.le_of_ble_eq_true rfl⟩ rfl (Nat.le_of_ble_eq_true rfl) (dk_Reading_read 29 rfl) rfl c12 rfl t15 ?_
          have hs16 : p_x s0 s13 := t15.1
          show p_Go K l m_Reading_read 54 [(0, p_r v0), (1, p_r v1)] [p_i r17] s13 _
          cases h
          exact g_ret rfl rfl (dk_Reading_read 30 rfl) (fun os => ⟨_, rfl, p_okh os⟩)
      · have h := p_ifF b6 h
        refine g_aload_n (i := 0) (j := 0) (dk_Reading_read 17 rfl) rfl rfl ?_
        refine g_aload_n (i := 1) (j := 1) (dk_Reading_read 18 rfl) rfl rfl ?_
        obtain ⟨c18, h⟩ := p_gdE h
        obtain ⟨r23, s19, q20, h⟩ := p_bdE h
        have t21 := tF_Reading_readFormA K l v0 v1 s0 _ q20
        refine g_callV (a := v0) (ci := 5) (q0 := (RX5, TX5, 5)) (As := [p_r v1]) (rest := []) [p_i r23] mt_Reading_readFormA rfl rfl tw_5_1 ts_24 tw_4_239 ⟨Nat.le_of_ble_eq_true rfl, Nat.le_of_ble_eq_true rfl⟩ rfl (Nat.le_of_ble_eq_true rfl) (dk_Reading_read 19 rfl) rfl c18 rfl t21 ?_
        have hs22 : p_x s0 s19 := t21.1
        show p_Go K l m_Reading_read 37 [(0, p_r v0), (1, p_r v1)] [p_i r23] s19 _
        cases h
        exact g_ret rfl rfl (dk_Reading_read 20 rfl) (fun os => ⟨_, rfl, p_okh os⟩)
    · have h := p_ifF b3 h
      refine g_bipush (dk_Reading_read 9 rfl) (by decide +kernel) (by decide) ?_
      cases h
      exact g_ret rfl rfl (dk_Reading_read 10 rfl) (fun os => ⟨_, rfl, p_okh os⟩)
  · have h := p_ifF b2 h
    refine g_bipush (dk_Reading_read 4 rfl) (by decide +kernel) (by decide) ?_
    cases h
    exact g_ret rfl rfl (dk_Reading_read 5 rfl) (fun os => ⟨_, rfl, p_okh os⟩)
def m_Step_plainValue : p_Me := (⟨"SortWorks$Step", "plainValue", "(I)I"⟩, prog_10_method_20_code, 2, (some .int), 0, 0)
theorem mt_Step_plainValue : p_Mt m_Step_plainValue 1 := ⟨p_mem (p_tb5 (List.mem_of_getElem? (i := 23) rfl)) rfl, tw_1_9, by decide +kernel, by decide +kernel, by decide +kernel⟩
def dt_Step_plainValue : List (Nat × Instr × Nat) := [(0, .iload_n 1, 1), (1, .lookupswitch 59 #[(68, 35), (83, 51), (87, 43)], 35), (36, .aload_n 0, 1), (37, .getfield 12, 3), (40, .getfield 320, 3), (43, .ireturn, 1), (44, .aload_n 0, 1), (45, .getfield 12, 3), (48, .getfield 269, 3), (51, .ireturn, 1), (52, .aload_n 0, 1), (53, .getfield 12, 3), (56, .getfield 321, 3), (59, .ireturn, 1), (60, .aload_n 0, 1), (61, .getfield 28, 3), (64, .getfield 54, 3), (67, .ireturn, 1)]
theorem dk_Step_plainValue (i : Nat) {pc : Nat} {ins : Instr} {len : Nat} (h : dt_Step_plainValue[i]? = some (pc, ins, len)) : decode m_Step_plainValue.2.1 pc = .ok (ins, len) := p_dk (b := m_Step_plainValue.2.1) (t := dt_Step_plainValue) (by decide +kernel) i h
def F_Step_plainValue (v0 : Nat) (v1 : Int) (s0 : p_Hp) : Option (Int × p_Hp) :=
  if v1 = 68 then
    p_gd (p_is s0 v0 8) <|
    p_gd (p_is s0 (p_R s0 v0 0) 5) <|
    some ((p_Z s0 (p_R s0 v0 0) 1), s0)
  else if v1 = 83 then
    p_gd (p_is s0 v0 8) <|
    p_gd (p_is s0 (p_R s0 v0 0) 5) <|
    some ((p_Z s0 (p_R s0 v0 0) 3), s0)
  else if v1 = 87 then
    p_gd (p_is s0 v0 8) <|
    p_gd (p_is s0 (p_R s0 v0 0) 5) <|
    some ((p_Z s0 (p_R s0 v0 0) 2), s0)
  else 
  p_gd (p_is s0 v0 8) <|
  p_gd (p_is s0 (p_R s0 v0 3) 7) <|
  some ((p_Z s0 (p_R s0 v0 3) 0), s0)
set_option maxRecDepth 100000 in
set_option maxHeartbeats 4000000 in
theorem tF_Step_plainValue (K : p_K) (l : Launch) (v0 : Nat) (v1 : Int) (s0 : p_Hp) (r : (Int × p_Hp)) (h : F_Step_plainValue v0 v1 s0 = some r) : p_Ct K l m_Step_plainValue [p_r v0, p_i v1] s0 (some (p_i r.1), r.2) := by
  refine p_Ct.of (by decide +kernel) (Nat.le_of_ble_eq_true rfl) ?_
  unfold F_Step_plainValue at h
  show p_Go K l m_Step_plainValue 0 [(0, p_r v0), (1, p_i v1)] [] s0 _
  refine g_iload_n (i := 1) (j := 1) (dk_Step_plainValue 0 rfl) rfl rfl ?_
  rcases p_iteE h with ⟨b1, h⟩ | ⟨b1, h⟩
  · refine g_lookup (off := 35) 36 (dk_Step_plainValue 1 rfl) (by decide) (by rw [b1]; first | done | rfl) (by decide) ?_
    refine g_aload_n (i := 0) (j := 0) (dk_Step_plainValue 2 rfl) rfl rfl ?_
    obtain ⟨c2, h⟩ := p_gdE h
    refine g_getR fl_Step_12 (Or.inl ⟨_, rfl⟩) (dk_Step_plainValue 3 rfl) c2 ?_
    obtain ⟨c3, h⟩ := p_gdE h
    refine g_getI fl_Step_320 (Or.inl rfl) (dk_Step_plainValue 4 rfl) c3 ?_
    cases h
    exact g_ret rfl rfl (dk_Step_plainValue 5 rfl) (fun os => ⟨_, rfl, p_okh os⟩)
  rcases p_iteE h with ⟨b4, h⟩ | ⟨b4, h⟩
  · refine g_lookup (off := 51) 52 (dk_Step_plainValue 1 rfl) (by decide) (by rw [b4]; first | done | rfl) (by decide) ?_
    refine g_aload_n (i := 0) (j := 0) (dk_Step_plainValue 10 rfl) rfl rfl ?_
    obtain ⟨c5, h⟩ := p_gdE h
    refine g_getR fl_Step_12 (Or.inl ⟨_, rfl⟩) (dk_Step_plainValue 11 rfl) c5 ?_
    obtain ⟨c6, h⟩ := p_gdE h
    refine g_getI fl_Step_321 (Or.inl rfl) (dk_Step_plainValue 12 rfl) c6 ?_
    cases h
    exact g_ret rfl rfl (dk_Step_plainValue 13 rfl) (fun os => ⟨_, rfl, p_okh os⟩)
  rcases p_iteE h with ⟨b7, h⟩ | ⟨b7, h⟩
  · refine g_lookup (off := 43) 44 (dk_Step_plainValue 1 rfl) (by decide) (by rw [b7]; first | done | rfl) (by decide) ?_
    refine g_aload_n (i := 0) (j := 0) (dk_Step_plainValue 6 rfl) rfl rfl ?_
    obtain ⟨c8, h⟩ := p_gdE h
    refine g_getR fl_Step_12 (Or.inl ⟨_, rfl⟩) (dk_Step_plainValue 7 rfl) c8 ?_
    obtain ⟨c9, h⟩ := p_gdE h
    refine g_getI fl_Step_269 (Or.inl rfl) (dk_Step_plainValue 8 rfl) c9 ?_
    cases h
    exact g_ret rfl rfl (dk_Step_plainValue 9 rfl) (fun os => ⟨_, rfl, p_okh os⟩)
  refine g_lookup (off := 59) 60 (dk_Step_plainValue 1 rfl) (by decide) (by simp [Op.lookupswitch.offset, show ¬ (68 : Int) = v1 from fun q => b1 q.symm, show ¬ (83 : Int) = v1 from fun q => b4 q.symm, show ¬ (87 : Int) = v1 from fun q => b7 q.symm]) (by decide) ?_
  refine g_aload_n (i := 0) (j := 0) (dk_Step_plainValue 14 rfl) rfl rfl ?_
  obtain ⟨c10, h⟩ := p_gdE h
  refine g_getR fl_Step_28 (Or.inl ⟨_, rfl⟩) (dk_Step_plainValue 15 rfl) c10 ?_
  obtain ⟨c11, h⟩ := p_gdE h
  refine g_getI fl_Step_54 (Or.inl rfl) (dk_Step_plainValue 16 rfl) c11 ?_
  cases h
  exact g_ret rfl rfl (dk_Step_plainValue 17 rfl) (fun os => ⟨_, rfl, p_okh os⟩)
def m_Step_quotient : p_Me := (⟨"SortWorks$Step", "quotient", "(I)I"⟩, prog_10_method_21_code, 6, (some .int), 1, 22)
theorem mt_Step_quotient : p_Mt m_Step_quotient 1 := ⟨p_mem (p_tb5 (List.mem_of_getElem? (i := 18) rfl)) rfl, tw_1_9, by decide +kernel, by decide +kernel, by decide +kernel⟩
def dt_Step_quotient : List (Nat × Instr × Nat) := [(0, .iload_n 1, 1), (1, .ifCond .lt 9, 3), (4, .iload_n 1, 1), (5, .bipush 40, 2), (7, .if_icmp .lt 6, 3), (10, .bipush (-13), 2), (12, .ireturn, 1), (13, .iload_n 1, 1), (14, .aload_n 0, 1), (15, .getfield 18, 3), (18, .getfield 79, 3), (21, .if_icmp .lt 6, 3), (24, .bipush (-11), 2), (26, .ireturn, 1), (27, .aload_n 0, 1), (28, .getfield 28, 3), (31, .getfield 82, 3), (34, .iload_n 1, 1), (35, .aaload, 1), (36, .astore_n 2, 1), (37, .aload_n 2, 1), (38, .invokevirtual 324, 3), (41, .ifCond .ne 6, 3), (44, .bipush (-12), 2), (46, .ireturn, 1), (47, .iconst 0, 1), (48, .istore_n 3, 1), (49, .iconst 0, 1), (50, .istore 4, 2), (52, .iload 4, 2), (54, .aload_n 2, 1), (55, .getfield 247, 3), (58, .if_icmp .ge 63, 3), (61, .aload_n 0, 1), (62, .getfield 18, 3), (65, .aload_n 2, 1), (66, .iload 4, 2), (68, .invokevirtual 170, 3), (71, .istore 5, 2), (73, .iload 5, 2), (75, .ifCond .lt 40, 3), (78, .aload_n 0, 1), (79, .getfield 28, 3), (82, .getfield 82, 3), (85, .iload 5, 2), (87, .aaload, 1), (88, .getfield 97, 3), (91, .bipush 9, 2), (93, .if_icmp .ne 22, 3), (96, .aload_n 0, 1), (97, .getfield 28, 3), (100, .getfield 82, 3), (103, .iload 5, 2), (105, .aaload, 1), (106, .getfield 145, 3), (109, .ifCond .eq 6, 3), (112, .iinc 3 1, 3), (115, .iinc 4 1, 3), (118, .goto (-66), 3), (121, .iload_n 3, 1), (122, .ifCond .ne 8, 3), (125, .bipush (-16), 2), (127, .goto 9, 3), (130, .aload_n 2, 1), (131, .invokevirtual 148, 3), (134, .iload_n 3, 1), (135, .idiv, 1), (136, .ireturn, 1)]
theorem dk_Step_quotient (i : Nat) {pc : Nat} {ins : Instr} {len : Nat} (h : dt_Step_quotient[i]? = some (pc, ins, len)) : decode m_Step_quotient.2.1 pc = .ok (ins, len) := p_dk (b := m_Step_quotient.2.1) (t := dt_Step_quotient) (by decide +kernel) i h
def B_Step_quotient_115 (k52 : Nat → Nat → Int → Int → p_Hp → Option (Int × p_Hp)) (v0 : Nat) (v2 : Nat) (v3 : Int) (v4 : Int) (s0 : p_Hp) : Option (Int × p_Hp) :=
  p_bi (p_w (v4 + 1)) fun x1 =>
  k52 v0 v2 v3 x1 s0
def L_Step_quotient_52 (k52 : Nat → Nat → Int → Int → p_Hp → Option (Int × p_Hp)) (v0 : Nat) (v2 : Nat) (v3 : Int) (v4 : Int) (s0 : p_Hp) : Option (Int × p_Hp) :=
  p_gd (p_is s0 v2 0) <|
  if (p_Z s0 v2 3) ≤ v4 then
    if v3 ≠ 0 then
      p_bd (F_Gear_parcels v2 s0) fun r8 s4 =>
      p_gd (v3 ≠ 0) <|
      some ((p_div r8 v3), s4)
    else
      some ((-16), s0)
  else
    p_gd (p_is s0 v0 8) <|
    p_gd (p_is s0 (p_R s0 v0 2) 9) <|
    p_bd (F_Works_follow (p_R s0 v0 2) v2 v4 s0) fun r16 s12 =>
    if r16 < 0 then
      B_Step_quotient_115 k52 v0 v2 v3 v4 s12
    else
      p_gd (p_is s12 (p_R s12 v0 3) 7) <|
      p_gd (p_is s12 (p_R s12 (p_R s12 v0 3) 4) 105) <|
      p_gd ((0 : Int) ≤ r16 ∧ r16 < (p_L s12 (p_R s12 (p_R s12 v0 3) 4) : Int)) <|
      p_gd (p_is s12 (p_R s12 (p_R s12 (p_R s12 v0 3) 4) (r16 : Int).toNat) 0) <|
      if (p_Z s12 (p_R s12 (p_R s12 (p_R s12 v0 3) 4) (r16 : Int).toNat) 0) ≠ 9 then
        B_Step_quotient_115 k52 v0 v2 v3 v4 s12
      else
        p_gd ((0 : Int) ≤ r16 ∧ r16 < (p_L s12 (p_R s12 (p_R s12 v0 3) 4) : Int)) <|
        if (p_Z s12 (p_R s12 (p_R s12 (p_R s12 v0 3) 4) (r16 : Int).toNat) 7) = 0 then
          B_Step_quotient_115 k52 v0 v2 v3 v4 s12
        else
          p_bi (p_w (v3 + 1)) fun x25 =>
          B_Step_quotient_115 k52 v0 v2 x25 v4 s12
def O_Step_quotient_52  : Nat → Nat → Nat → Int → Int → p_Hp → Option (Int × p_Hp)
  | 0 => fun _ _ _ _ _ => none
  | n + 1 => L_Step_quotient_52 (O_Step_quotient_52 n)
def F_Step_quotient (v0 : Nat) (v1 : Int) (s0 : p_Hp) : Option (Int × p_Hp) :=
  if v1 < 0 then
    some ((-13), s0)
  else
    if v1 < 40 then
      p_gd (p_is s0 v0 8) <|
      p_gd (p_is s0 (p_R s0 v0 2) 9) <|
      if v1 < (p_Z s0 (p_R s0 v0 2) 2) then
        p_gd (p_is s0 (p_R s0 v0 3) 7) <|
        p_gd (p_is s0 (p_R s0 (p_R s0 v0 3) 4) 105) <|
        p_gd ((0 : Int) ≤ v1 ∧ v1 < (p_L s0 (p_R s0 (p_R s0 v0 3) 4) : Int)) <|
        p_bi ((p_R s0 (p_R s0 (p_R s0 v0 3) 4) (v1 : Int).toNat)) fun x9 =>
        p_gd (p_is s0 x9 0) <|
        p_bd (F_Gear_isChute x9 s0) fun r15 s11 =>
        if r15 ≠ 0 then
          O_Step_quotient_52 3000 v0 x9 0 0 s11
        else
          some ((-12), s11)
      else
        some ((-11), s0)
    else
      some ((-13), s0)
set_option maxRecDepth 100000 in
set_option maxHeartbeats 4000000 in
theorem tB_Step_quotient_115 (K : p_K) (l : Launch) (k52 : Nat → Nat → Int → Int → p_Hp → Option (Int × p_Hp)) (hk52 : ∀ (v0 : Nat) (v2 : Nat) (v3 : Int) (v4 : Int)  (s0 : p_Hp) (r : (Int × p_Hp)), k52 v0 v2 v3 v4 s0 = some r → p_Go K l m_Step_quotient 52 [(0, p_r v0), (2, p_r v2), (3, p_i v3), (4, p_i v4)] [] s0 (some (p_i r.1), r.2)) (v0 : Nat) (v2 : Nat) (v3 : Int) (v4 : Int) (s0 : p_Hp) (r : (Int × p_Hp)) (h : B_Step_quotient_115 k52 v0 v2 v3 v4 s0 = some r) : p_Go K l m_Step_quotient 115 [(0, p_r v0), (2, p_r v2), (3, p_i v3), (4, p_i v4)] [] s0 (some (p_i r.1), r.2) := by
  unfold B_Step_quotient_115 at h
  refine g_iinc (j := 3) [(4, p_i (p_w (v4 + 1))), (0, p_r v0), (2, p_r v2), (3, p_i v3)] (dk_Step_quotient 57 rfl) rfl (by decide) rfl ?_
  refine p_ltG (P := fun q => p_Go K l m_Step_quotient 118 [(4, p_i q), (0, p_r v0), (2, p_r v2), (3, p_i v3)] [] s0 _) ?_ h
  intro x1 h
  refine g_goto 52 (dk_Step_quotient 58 rfl) (by decide) ?_
  refine g_sub [(0, p_r v0), (2, p_r v2), (3, p_i v3), (4, p_i x1)] [1, 2, 3, 0] rfl ?_
  exact hk52 v0 v2 v3 x1 s0 _ h
set_option maxRecDepth 100000 in
set_option maxHeartbeats 4000000 in
theorem tL_Step_quotient_52 (K : p_K) (l : Launch) (k52 : Nat → Nat → Int → Int → p_Hp → Option (Int × p_Hp)) (hk52 : ∀ (v0 : Nat) (v2 : Nat) (v3 : Int) (v4 : Int)  (s0 : p_Hp) (r : (Int × p_Hp)), k52 v0 v2 v3 v4 s0 = some r → p_Go K l m_Step_quotient 52 [(0, p_r v0), (2, p_r v2), (3, p_i v3), (4, p_i v4)] [] s0 (some (p_i r.1), r.2)) (v0 : Nat) (v2 : Nat) (v3 : Int) (v4 : Int) (s0 : p_Hp) (r : (Int × p_Hp)) (h : L_Step_quotient_52 k52 v0 v2 v3 v4 s0 = some r) : p_Go K l m_Step_quotient 52 [(0, p_r v0), (2, p_r v2), (3, p_i v3), (4, p_i v4)] [] s0 (some (p_i r.1), r.2) := by
  unfold L_Step_quotient_52 at h
  refine g_iload (j := 3) (dk_Step_quotient 29 rfl) rfl ?_
  refine g_aload_n (i := 2) (j := 1) (dk_Step_quotient 30 rfl) rfl rfl ?_
  obtain ⟨c1, h⟩ := p_gdE h
  refine g_getI fl_Step_247 (Or.inl rfl) (dk_Step_quotient 31 rfl) c1 ?_
  refine g_icmp_ge 121 (dk_Step_quotient 32 rfl) (by decide) (fun b2 => ?_) (fun b2 => ?_)
  · have h := p_ifT b2 h
    refine g_iload_n (i := 3) (j := 2) (dk_Step_quotient 59 rfl) rfl rfl ?_
    refine g_if_ne 130 (dk_Step_quotient 60 rfl) (by decide) (fun b3 => ?_) (fun b3 => ?_)
    · have h := p_ifT b3 h
      refine g_aload_n (i := 2) (j := 1) (dk_Step_quotient 63 rfl) rfl rfl ?_
      obtain ⟨r8, s4, q5, h⟩ := p_bdE h
      have t6 := tF_Gear_parcels K l v2 s0 _ q5
      refine g_callV (a := v2) (ci := 0) (q0 := (RX0, TX0, 20)) (As := []) (rest := []) [p_i r8] mt_Gear_parcels rfl rfl tw_3_151 tw_3_152 tw_4_177 ⟨Nat.le_of_ble_eq_true rfl, Nat.le_of_ble_eq_true rfl⟩ rfl (Nat.le_of_ble_eq_true rfl) (dk_Step_quotient 64 rfl) rfl c1 rfl t6 ?_
      have hs7 : p_x s0 s4 := t6.1
      show p_Go K l m_Step_quotient 134 [(0, p_r v0), (2, p_r v2), (3, p_i v3), (4, p_i v4)] [p_i r8] s4 _
      refine g_iload_n (i := 3) (j := 2) (dk_Step_quotient 65 rfl) rfl rfl ?_
      obtain ⟨c9, h⟩ := p_gdE h
      refine g_idiv (dk_Step_quotient 66 rfl) c9 ?_
      cases h
      exact g_ret rfl rfl (dk_Step_quotient 67 rfl) (fun os => ⟨_, rfl, p_okh os⟩)
    · have h := p_ifF b3 h
      refine g_bipush (dk_Step_quotient 61 rfl) (by decide +kernel) (by decide) ?_
      refine g_goto 136 (dk_Step_quotient 62 rfl) (by decide) ?_
      cases h
      exact g_ret rfl rfl (dk_Step_quotient 67 rfl) (fun os => ⟨_, rfl, p_okh os⟩)
  · have h := p_ifF b2 h
    refine g_aload_n (i := 0) (j := 0) (dk_Step_quotient 33 rfl) rfl rfl ?_
    obtain ⟨c10, h⟩ := p_gdE h
    refine g_getR fl_Step_18 (Or.inl ⟨_, rfl⟩) (dk_Step_quotient 34 rfl) c10 ?_
    refine g_aload_n (i := 2) (j := 1) (dk_Step_quotient 35 rfl) rfl rfl ?_
    refine g_iload (j := 3) (dk_Step_quotient 36 rfl) rfl ?_
    obtain ⟨c11, h⟩ := p_gdE h
    obtain ⟨r16, s12, q13, h⟩ := p_bdE h
    have t14 := tF_Works_follow K l (p_R s0 v0 2) v2 v4 s0 _ q13
    refine g_callV (a := (p_R s0 v0 2)) (ci := 9) (q0 := (RX9, TX9, 15)) (As := [p_r v2, p_i v4]) (rest := []) [p_i r16] mt_Works_follow rfl rfl tw_4_213 tw_4_214 tw_4_212 ⟨Nat.le_of_ble_eq_true rfl, Nat.le_of_ble_eq_true rfl⟩ rfl (Nat.le_of_ble_eq_true rfl) (dk_Step_quotient 37 rfl) rfl c11 rfl t14 ?_
    have hs15 : p_x s0 s12 := t14.1
    show p_Go K l m_Step_quotient 71 [(0, p_r v0), (2, p_r v2), (3, p_i v3), (4, p_i v4)] [p_i r16] s12 _
    refine g_istore [(5, p_i r16), (0, p_r v0), (2, p_r v2), (3, p_i v3), (4, p_i v4)] (dk_Step_quotient 38 rfl) (by decide) rfl ?_
    refine g_iload (j := 0) (dk_Step_quotient 39 rfl) rfl ?_
    refine g_if_lt 115 (dk_Step_quotient 40 rfl) (by decide) (fun b17 => ?_) (fun b17 => ?_)
    · have h := p_ifT b17 h
      refine g_sub [(0, p_r v0), (2, p_r v2), (3, p_i v3), (4, p_i v4)] [1, 2, 3, 4] rfl ?_
      exact tB_Step_quotient_115 K l k52 hk52 v0 v2 v3 v4 s12 _ h
    · have h := p_ifF b17 h
      refine g_aload_n (i := 0) (j := 1) (dk_Step_quotient 41 rfl) rfl rfl ?_
      refine g_getR fl_Step_28 (Or.inl ⟨_, rfl⟩) (dk_Step_quotient 42 rfl) (c10.up hs15) ?_
      obtain ⟨c18, h⟩ := p_gdE h
      refine g_getR fl_Step_82 (Or.inr ⟨_, rfl⟩) (dk_Step_quotient 43 rfl) c18 ?_
      refine g_iload (j := 0) (dk_Step_quotient 44 rfl) rfl ?_
      obtain ⟨c19, h⟩ := p_gdE h
      obtain ⟨c20, h⟩ := p_gdE h
      refine g_aaload (i := 5) rfl (Or.inl ⟨_, rfl⟩) (dk_Step_quotient 45 rfl) c19 c20.1 c20.2 ?_
      obtain ⟨c21, h⟩ := p_gdE h
      refine g_getI fl_Step_97 (Or.inl rfl) (dk_Step_quotient 46 rfl) c21 ?_
      refine g_bipush (dk_Step_quotient 47 rfl) (by decide +kernel) (by decide) ?_
      refine g_icmp_ne 115 (dk_Step_quotient 48 rfl) (by decide) (fun b22 => ?_) (fun b22 => ?_)
      · have h := p_ifT b22 h
        refine g_sub [(0, p_r v0), (2, p_r v2), (3, p_i v3), (4, p_i v4)] [1, 2, 3, 4] rfl ?_
        exact tB_Step_quotient_115 K l k52 hk52 v0 v2 v3 v4 s12 _ h
      · have h := p_ifF b22 h
        refine g_aload_n (i := 0) (j := 1) (dk_Step_quotient 49 rfl) rfl rfl ?_
        refine g_getR fl_Step_28 (Or.inl ⟨_, rfl⟩) (dk_Step_quotient 50 rfl) (c10.up hs15) ?_
        refine g_getR fl_Step_82 (Or.inr ⟨_, rfl⟩) (dk_Step_quotient 51 rfl) c18 ?_
        refine g_iload (j := 0) (dk_Step_quotient 52 rfl) rfl ?_
        obtain ⟨c23, h⟩ := p_gdE h
        refine g_aaload (i := 5) rfl (Or.inl ⟨_, rfl⟩) (dk_Step_quotient 53 rfl) c19 c23.1 c23.2 ?_
        refine g_getI fl_Step_145 (Or.inr rfl) (dk_Step_quotient 54 rfl) c21 ?_
        refine g_if_eq 115 (dk_Step_quotient 55 rfl) (by decide) (fun b24 => ?_) (fun b24 => ?_)
        · have h := p_ifT b24 h
          refine g_sub [(0, p_r v0), (2, p_r v2), (3, p_i v3), (4, p_i v4)] [1, 2, 3, 4] rfl ?_
          exact tB_Step_quotient_115 K l k52 hk52 v0 v2 v3 v4 s12 _ h
        · have h := p_ifF b24 h
          refine g_iinc (j := 3) [(3, p_i (p_w (v3 + 1))), (5, p_i r16), (0, p_r v0), (2, p_r v2), (4, p_i v4)] (dk_Step_quotient 56 rfl) rfl (by decide) rfl ?_
          refine p_ltG (P := fun q => p_Go K l m_Step_quotient 115 [(3, p_i q), (5, p_i r16), (0, p_r v0), (2, p_r v2), (4, p_i v4)] [] s12 _) ?_ h
          intro x25 h
          refine g_sub [(0, p_r v0), (2, p_r v2), (3, p_i x25), (4, p_i v4)] [2, 3, 0, 4] rfl ?_
          exact tB_Step_quotient_115 K l k52 hk52 v0 v2 x25 v4 s12 _ h
set_option maxRecDepth 100000 in
set_option maxHeartbeats 4000000 in
theorem tO_Step_quotient_52 (K : p_K) (l : Launch)  : ∀ (n : Nat) (v0 : Nat) (v2 : Nat) (v3 : Int) (v4 : Int) (s0 : p_Hp) (r : (Int × p_Hp)), O_Step_quotient_52 n v0 v2 v3 v4 s0 = some r → p_Go K l m_Step_quotient 52 [(0, p_r v0), (2, p_r v2), (3, p_i v3), (4, p_i v4)] [] s0 (some (p_i r.1), r.2) := by
  intro n
  induction n with
  | zero => intro v0 v2 v3 v4 s0 r h; cases (show (none : Option (Int × p_Hp)) = some r from h)
  | succ n ih => intro v0 v2 v3 v4 s0 r h; exact tL_Step_quotient_52 K l _ ih v0 v2 v3 v4 s0 r h
set_option maxRecDepth 100000 in
set_option maxHeartbeats 4000000 in
theorem tF_Step_quotient (K : p_K) (l : Launch) (v0 : Nat) (v1 : Int) (s0 : p_Hp) (r : (Int × p_Hp)) (h : F_Step_quotient v0 v1 s0 = some r) : p_Ct K l m_Step_quotient [p_r v0, p_i v1] s0 (some (p_i r.1), r.2) := by
  refine p_Ct.of (by decide +kernel) (Nat.le_of_ble_eq_true rfl) ?_
  unfold F_Step_quotient at h
  show p_Go K l m_Step_quotient 0 [(0, p_r v0), (1, p_i v1)] [] s0 _
  refine g_iload_n (i := 1) (j := 1) (dk_Step_quotient 0 rfl) rfl rfl ?_
  refine g_if_lt 10 (dk_Step_quotient 1 rfl) (by decide) (fun b1 => ?_) (fun b1 => ?_)
  · have h := p_ifT b1 h
    refine g_bipush (dk_Step_quotient 5 rfl) (by decide +kernel) (by decide) ?_
    cases h
    exact g_ret rfl rfl (dk_Step_quotient 6 rfl) (fun os => ⟨_, rfl, p_okh os⟩)
  · have h := p_ifF b1 h
    refine g_iload_n (i := 1) (j := 1) (dk_Step_quotient 2 rfl) rfl rfl ?_
    refine g_bipush (dk_Step_quotient 3 rfl) (by decide +kernel) (by decide) ?_
    refine g_icmp_lt 13 (dk_Step_quotient 4 rfl) (by decide) (fun b2 => ?_) (fun b2 => ?_)
    · have h := p_ifT b2 h
      refine g_iload_n (i := 1) (j := 1) (dk_Step_quotient 7 rfl) rfl rfl ?_
      refine g_aload_n (i := 0) (j := 0) (dk_Step_quotient 8 rfl) rfl rfl ?_
      obtain ⟨c3, h⟩ := p_gdE h
      refine g_getR fl_Step_18 (Or.inl ⟨_, rfl⟩) (dk_Step_quotient 9 rfl) c3 ?_
      obtain ⟨c4, h⟩ := p_gdE h
      refine g_getI fl_Step_79 (Or.inl rfl) (dk_Step_quotient 10 rfl) c4 ?_
      refine g_icmp_lt 27 (dk_Step_quotient 11 rfl) (by decide) (fun b5 => ?_) (fun b5 => ?_)
      · have h := p_ifT b5 h
        refine g_aload_n (i := 0) (j := 0) (dk_Step_quotient 14 rfl) rfl rfl ?_
        refine g_getR fl_Step_28 (Or.inl ⟨_, rfl⟩) (dk_Step_quotient 15 rfl) c3 ?_
        obtain ⟨c6, h⟩ := p_gdE h
        refine g_getR fl_Step_82 (Or.inr ⟨_, rfl⟩) (dk_Step_quotient 16 rfl) c6 ?_
        refine g_iload_n (i := 1) (j := 1) (dk_Step_quotient 17 rfl) rfl rfl ?_
        obtain ⟨c7, h⟩ := p_gdE h
        obtain ⟨c8, h⟩ := p_gdE h
        refine g_aaload (i := 5) rfl (Or.inl ⟨_, rfl⟩) (dk_Step_quotient 18 rfl) c7 c8.1 c8.2 ?_
        refine g_astore_n (i := 2) [(2, p_r (p_R s0 (p_R s0 (p_R s0 v0 3) 4) (v1 : Int).toNat)), (0, p_r v0), (1, p_i v1)] (dk_Step_quotient 19 rfl) rfl (by decide) rfl ?_
        refine p_ltG (P := fun q => p_Go K l m_Step_quotient 37 [(2, p_r q), (0, p_r v0), (1, p_i v1)] [] s0 _) ?_ h
        intro x9 h
        refine g_aload_n (i := 2) (j := 0) (dk_Step_quotient 20 rfl) rfl rfl ?_
        obtain ⟨c10, h⟩ := p_gdE h
        obtain ⟨r15, s11, q12, h⟩ := p_bdE h
        have t13 := tF_Gear_isChute K l x9 s0 _ q12
        refine g_callV (a := x9) (ci := 0) (q0 := (RX0, TX0, 20)) (As := []) (rest := []) [p_i r15] mt_Gear_isChute rfl rfl tw_3_231 tw_3_232 tw_5_19 ⟨Nat.le_of_ble_eq_true rfl, Nat.le_of_ble_eq_true rfl⟩ rfl (Nat.le_of_ble_eq_true rfl) (dk_Step_quotient 21 rfl) rfl c10 rfl t13 ?_
        have hs14 : p_x s0 s11 := t13.1
        show p_Go K l m_Step_quotient 41 [(2, p_r x9), (0, p_r v0), (1, p_i v1)] [p_i r15] s11 _
        refine g_if_ne 47 (dk_Step_quotient 22 rfl) (by decide) (fun b16 => ?_) (fun b16 => ?_)
        · have h := p_ifT b16 h
          refine g_iconst (dk_Step_quotient 25 rfl) (by decide) ?_
          refine g_istore_n (i := 3) [(3, p_i 0), (2, p_r x9), (0, p_r v0), (1, p_i v1)] (dk_Step_quotient 26 rfl) rfl (by decide) rfl ?_
          refine g_iconst (dk_Step_quotient 27 rfl) (by decide) ?_
          refine g_istore [(4, p_i 0), (3, p_i 0), (2, p_r x9), (0, p_r v0), (1, p_i v1)] (dk_Step_quotient 28 rfl) (by decide) rfl ?_
          refine g_sub [(0, p_r v0), (2, p_r x9), (3, p_i 0), (4, p_i 0)] [3, 2, 1, 0] rfl ?_
          exact tO_Step_quotient_52 K l 3000 v0 x9 0 0 s11 _ h
        · have h := p_ifF b16 h
          refine g_bipush (dk_Step_quotient 23 rfl) (by decide +kernel) (by decide) ?_
          cases h
          exact g_ret rfl rfl (dk_Step_quotient 24 rfl) (fun os => ⟨_, rfl, p_okh os⟩)
      · have h := p_ifF b5 h
        refine g_bipush (dk_Step_quotient 12 rfl) (by decide +kernel) (by decide) ?_
        cases h
        exact g_ret rfl rfl (dk_Step_quotient 13 rfl) (fun os => ⟨_, rfl, p_okh os⟩)
    · have h := p_ifF b2 h
      refine g_bipush (dk_Step_quotient 5 rfl) (by decide +kernel) (by decide) ?_
      cases h
      exact g_ret rfl rfl (dk_Step_quotient 6 rfl) (fun os => ⟨_, rfl, p_okh os⟩)
def m_In_compare : p_Me := (⟨"java/lang/Integer", "compare", "(II)I"⟩, prog_14_method_40_code, 2, (some .int), 0, 0)
theorem mt_In_compare : p_Mt m_In_compare 2 := ⟨p_mem (p_tb5 (List.mem_of_getElem? (i := 26) rfl)) rfl, tw_1_16, by decide +kernel, by decide +kernel, by decide +kernel⟩
def dt_In_compare : List (Nat × Instr × Nat) := [(0, .iload_n 0, 1), (1, .iload_n 1, 1), (2, .if_icmp .ge 7, 3), (5, .iconst (-1), 1), (6, .goto 13, 3), (9, .iload_n 0, 1), (10, .iload_n 1, 1), (11, .if_icmp .ne 7, 3), (14, .iconst 0, 1), (15, .goto 4, 3), (18, .iconst 1, 1), (19, .ireturn, 1)]
theorem dk_In_compare (i : Nat) {pc : Nat} {ins : Instr} {len : Nat} (h : dt_In_compare[i]? = some (pc, ins, len)) : decode m_In_compare.2.1 pc = .ok (ins, len) := p_dk (b := m_In_compare.2.1) (t := dt_In_compare) (by decide +kernel) i h
def F_In_compare (v0 : Int) (v1 : Int) (s0 : p_Hp) : Option (Int × p_Hp) :=
  if v1 ≤ v0 then
    if v0 ≠ v1 then
      some (1, s0)
    else
      some (0, s0)
  else
    some ((-1), s0)
set_option maxRecDepth 100000 in
set_option maxHeartbeats 4000000 in
theorem tF_In_compare (K : p_K) (l : Launch) (v0 : Int) (v1 : Int) (s0 : p_Hp) (r : (Int × p_Hp)) (h : F_In_compare v0 v1 s0 = some r) : p_Ct K l m_In_compare [p_i v0, p_i v1] s0 (some (p_i r.1), r.2) := by
  refine p_Ct.of (by decide +kernel) (Nat.le_of_ble_eq_true rfl) ?_
  unfold F_In_compare at h
  show p_Go K l m_In_compare 0 [(0, p_i v0), (1, p_i v1)] [] s0 _
  refine g_iload_n (i := 0) (j := 0) (dk_In_compare 0 rfl) rfl rfl ?_
  refine g_iload_n (i := 1) (j := 1) (dk_In_compare 1 rfl) rfl rfl ?_
  refine g_icmp_ge 9 (dk_In_compare 2 rfl) (by decide) (fun b1 => ?_) (fun b1 => ?_)
  · have h := p_ifT b1 h
    refine g_iload_n (i := 0) (j := 0) (dk_In_compare 5 rfl) rfl rfl ?_
    refine g_iload_n (i := 1) (j := 1) (dk_In_compare 6 rfl) rfl rfl ?_
    refine g_icmp_ne 18 (dk_In_compare 7 rfl) (by decide) (fun b2 => ?_) (fun b2 => ?_)
    · have h := p_ifT b2 h
      refine g_iconst (dk_In_compare 10 rfl) (by decide) ?_
      cases h
      exact g_ret rfl rfl (dk_In_compare 11 rfl) (fun os => ⟨_, rfl, p_okh os⟩)
    · have h := p_ifF b2 h
      refine g_iconst (dk_In_compare 8 rfl) (by decide) ?_
      refine g_goto 19 (dk_In_compare 9 rfl) (by decide) ?_
      cases h
      exact g_ret rfl rfl (dk_In_compare 11 rfl) (fun os => ⟨_, rfl, p_okh os⟩)
  · have h := p_ifF b1 h
    refine g_iconst (dk_In_compare 3 rfl) (by decide) ?_
    refine g_goto 19 (dk_In_compare 4 rfl) (by decide) ?_
    cases h
    exact g_ret rfl rfl (dk_In_compare 11 rfl) (fun os => ⟨_, rfl, p_okh os⟩)
def m_Step_holds : p_Me := (⟨"SortWorks$Step", "holds", "(I)I"⟩, prog_10_method_19_code, 9, (some .int), 2, 47)
theorem mt_Step_holds : p_Mt m_Step_holds 1 := ⟨p_mem (p_tb5 (List.mem_of_getElem? (i := 14) rfl)) rfl, tw_1_9, by decide +kernel, by decide +kernel, by decide +kernel⟩
def dt_Step_holds : List (Nat × Instr × Nat) := [(0, .aload_n 0, 1), (1, .getfield 18, 3), (4, .getfield 277, 3), (7, .astore_n 2, 1), (8, .iconst 4, 1), (9, .iload_n 1, 1), (10, .imul, 1), (11, .istore_n 3, 1), (12, .iload_n 3, 1), (13, .iconst 4, 1), (14, .iload_n 1, 1), (15, .imul, 1), (16, .aload_n 2, 1), (17, .getfield 293, 3), (20, .iload_n 1, 1), (21, .iaload, 1), (22, .iadd, 1), (23, .if_icmp .ge 133, 3), (26, .aload_n 2, 1), (27, .getfield 296, 3), (30, .iload_n 3, 1), (31, .iaload, 1), (32, .istore 4, 2), (34, .iload 4, 2), (36, .bipush 81, 2), (38, .if_icmp .ne 16, 3), (41, .aload_n 0, 1), (42, .aload_n 2, 1), (43, .getfield 299, 3), (46, .iload_n 3, 1), (47, .iaload, 1), (48, .invokevirtual 302, 3), (51, .goto 9, 3), (54, .aload_n 0, 1), (55, .iload 4, 2), (57, .invokevirtual 305, 3), (60, .istore 5, 2), (62, .iload 5, 2), (64, .ifCond .ge 6, 3), (67, .iload 5, 2), (69, .ireturn, 1), (70, .iload 5, 2), (72, .aload_n 2, 1), (73, .getfield 308, 3), (76, .iload_n 3, 1), (77, .iaload, 1), (78, .invokestatic 311, 3), (81, .istore 6, 2), (83, .aload_n 2, 1), (84, .getfield 317, 3), (87, .iload_n 3, 1), (88, .iaload, 1), (89, .istore 7, 2), (91, .iload 7, 2), (93, .bipush 60, 2), (95, .if_icmp .ne 16, 3), (98, .iload 6, 2), (100, .ifCond .ge 7, 3), (103, .iconst 1, 1), (104, .goto 37, 3), (107, .iconst 0, 1), (108, .goto 33, 3), (111, .iload 7, 2), (113, .bipush 61, 2), (115, .if_icmp .ne 16, 3), (118, .iload 6, 2), (120, .ifCond .ne 7, 3), (123, .iconst 1, 1), (124, .goto 17, 3), (127, .iconst 0, 1), (128, .goto 13, 3), (131, .iload 6, 2), (133, .ifCond .le 7, 3), (136, .iconst 1, 1), (137, .goto 4, 3), (140, .iconst 0, 1), (141, .istore 8, 2), (143, .iload 8, 2), (145, .ifCond .ne 5, 3), (148, .iconst 0, 1), (149, .ireturn, 1), (150, .iinc 3 1, 3), (153, .goto (-141), 3), (156, .iconst 1, 1), (157, .ireturn, 1)]
theorem dk_Step_holds (i : Nat) {pc : Nat} {ins : Instr} {len : Nat} (h : dt_Step_holds[i]? = some (pc, ins, len)) : decode m_Step_holds.2.1 pc = .ok (ins, len) := p_dk (b := m_Step_holds.2.1) (t := dt_Step_holds) (by decide +kernel) i h
def B_Step_holds_141 (k12 : Nat → Int → Nat → Int → p_Hp → Option (Int × p_Hp)) (v0 : Nat) (v1 : Int) (v2 : Nat) (v3 : Int) (w0 : Int) (s0 : p_Hp) : Option (Int × p_Hp) :=
  if w0 ≠ 0 then
    p_bi (p_w (v3 + 1)) fun x2 =>
    k12 v0 v1 v2 x2 s0
  else
    some (0, s0)
def B_Step_holds_60 (k12 : Nat → Int → Nat → Int → p_Hp → Option (Int × p_Hp)) (v0 : Nat) (v1 : Int) (v2 : Nat) (v3 : Int) (w0 : Int) (s0 : p_Hp) : Option (Int × p_Hp) :=
  if 0 ≤ w0 then
    p_gd (p_is s0 v2 6) <|
    p_gd (p_is s0 (p_R s0 v2 6) 100) <|
    p_gd ((0 : Int) ≤ v3 ∧ v3 < (p_L s0 (p_R s0 v2 6) : Int)) <|
    p_bd (F_In_compare w0 (p_Z s0 (p_R s0 v2 6) (v3 : Int).toNat) s0) fun r9 s5 =>
    p_gd (p_is s5 (p_R s5 v2 5) 100) <|
    p_gd ((0 : Int) ≤ v3 ∧ v3 < (p_L s5 (p_R s5 v2 5) : Int)) <|
    p_bi ((p_Z s5 (p_R s5 v2 5) (v3 : Int).toNat)) fun x12 =>
    if x12 ≠ 60 then
      if x12 ≠ 61 then
        if r9 ≤ 0 then
          B_Step_holds_141 k12 v0 v1 v2 v3 0 s5
        else
          B_Step_holds_141 k12 v0 v1 v2 v3 1 s5
      else
        if r9 ≠ 0 then
          B_Step_holds_141 k12 v0 v1 v2 v3 0 s5
        else
          B_Step_holds_141 k12 v0 v1 v2 v3 1 s5
    else
      if 0 ≤ r9 then
        B_Step_holds_141 k12 v0 v1 v2 v3 0 s5
      else
        B_Step_holds_141 k12 v0 v1 v2 v3 1 s5
  else
    some (w0, s0)
def L_Step_holds_12 (k12 : Nat → Int → Nat → Int → p_Hp → Option (Int × p_Hp)) (v0 : Nat) (v1 : Int) (v2 : Nat) (v3 : Int) (s0 : p_Hp) : Option (Int × p_Hp) :=
  p_gd (p_is s0 v2 6) <|
  p_gd (p_is s0 (p_R s0 v2 2) 100) <|
  p_gd ((0 : Int) ≤ v1 ∧ v1 < (p_L s0 (p_R s0 v2 2) : Int)) <|
  if (p_w ((p_w (4 * v1)) + (p_Z s0 (p_R s0 v2 2) (v1 : Int).toNat))) ≤ v3 then
    some (1, s0)
  else
    p_gd (p_is s0 (p_R s0 v2 3) 100) <|
    p_gd ((0 : Int) ≤ v3 ∧ v3 < (p_L s0 (p_R s0 v2 3) : Int)) <|
    p_bi ((p_Z s0 (p_R s0 v2 3) (v3 : Int).toNat)) fun x7 =>
    if x7 ≠ 81 then
      p_gd (p_is s0 v0 8) <|
      p_bd (F_Step_plainValue v0 x7 s0) fun r14 s10 =>
      B_Step_holds_60 k12 v0 v1 v2 v3 r14 s10
    else
      p_gd (p_is s0 (p_R s0 v2 4) 100) <|
      p_gd ((0 : Int) ≤ v3 ∧ v3 < (p_L s0 (p_R s0 v2 4) : Int)) <|
      p_gd (p_is s0 v0 8) <|
      p_bd (F_Step_quotient v0 (p_Z s0 (p_R s0 v2 4) (v3 : Int).toNat) s0) fun r22 s18 =>
      B_Step_holds_60 k12 v0 v1 v2 v3 r22 s18
def O_Step_holds_12  : Nat → Nat → Int → Nat → Int → p_Hp → Option (Int × p_Hp)
  | 0 => fun _ _ _ _ _ => none
  | n + 1 => L_Step_holds_12 (O_Step_holds_12 n)
def F_Step_holds (v0 : Nat) (v1 : Int) (s0 : p_Hp) : Option (Int × p_Hp) :=
  p_gd (p_is s0 v0 8) <|
  p_gd (p_is s0 (p_R s0 v0 2) 9) <|
  p_bi ((p_R s0 (p_R s0 v0 2) 3)) fun x3 =>
  p_bi ((p_w (4 * v1))) fun x4 =>
  O_Step_holds_12 3000 v0 v1 x3 x4 s0
set_option maxRecDepth 100000 in
set_option maxHeartbeats 4000000 in
theorem tB_Step_holds_141 (K : p_K) (l : Launch) (k12 : Nat → Int → Nat → Int → p_Hp → Option (Int × p_Hp)) (hk12 : ∀ (v0 : Nat) (v1 : Int) (v2 : Nat) (v3 : Int)  (s0 : p_Hp) (r : (Int × p_Hp)), k12 v0 v1 v2 v3 s0 = some r → p_Go K l m_Step_holds 12 [(0, p_r v0), (1, p_i v1), (2, p_r v2), (3, p_i v3)] [] s0 (some (p_i r.1), r.2)) (v0 : Nat) (v1 : Int) (v2 : Nat) (v3 : Int) (w0 : Int) (s0 : p_Hp) (r : (Int × p_Hp)) (h : B_Step_holds_141 k12 v0 v1 v2 v3 w0 s0 = some r) : p_Go K l m_Step_holds 141 [(0, p_r v0), (1, p_i v1), (2, p_r v2), (3, p_i v3)] [p_i w0] s0 (some (p_i r.1), r.2) := by
  unfold B_Step_holds_141 at h
  refine g_istore [(8, p_i w0), (0, p_r v0), (1, p_i v1), (2, p_r v2), (3, p_i v3)] (dk_Step_holds 76 rfl) (by decide) rfl ?_
  refine g_iload (j := 0) (dk_Step_holds 77 rfl) rfl ?_
  refine g_if_ne 150 (dk_Step_holds 78 rfl) (by decide) (fun b1 => ?_) (fun b1 => ?_)
  · have h := p_ifT b1 h
    refine g_iinc (j := 4) [(3, p_i (p_w (v3 + 1))), (8, p_i w0), (0, p_r v0), (1, p_i v1), (2, p_r v2)] (dk_Step_holds 81 rfl) rfl (by decide) rfl ?_
    refine p_ltG (P := fun q => p_Go K l m_Step_holds 153 [(3, p_i q), (8, p_i w0), (0, p_r v0), (1, p_i v1), (2, p_r v2)] [] s0 _) ?_ h
    intro x2 h
    refine g_goto 12 (dk_Step_holds 82 rfl) (by decide) ?_
    refine g_sub [(0, p_r v0), (1, p_i v1), (2, p_r v2), (3, p_i x2)] [2, 3, 4, 0] rfl ?_
    exact hk12 v0 v1 v2 x2 s0 _ h
  · have h := p_ifF b1 h
    refine g_iconst (dk_Step_holds 79 rfl) (by decide) ?_
    cases h
    exact g_ret rfl rfl (dk_Step_holds 80 rfl) (fun os => ⟨_, rfl, p_okh os⟩)
set_option maxRecDepth 100000 in
set_option maxHeartbeats 4000000 in
theorem tB_Step_holds_60 (K : p_K) (l : Launch) (k12 : Nat → Int → Nat → Int → p_Hp → Option (Int × p_Hp)) (hk12 : ∀ (v0 : Nat) (v1 : Int) (v2 : Nat) (v3 : Int)  (s0 : p_Hp) (r : (Int × p_Hp)), k12 v0 v1 v2 v3 s0 = some r → p_Go K l m_Step_holds 12 [(0, p_r v0), (1, p_i v1), (2, p_r v2), (3, p_i v3)] [] s0 (some (p_i r.1), r.2)) (v0 : Nat) (v1 : Int) (v2 : Nat) (v3 : Int) (w0 : Int) (s0 : p_Hp) (r : (Int × p_Hp)) (h : B_Step_holds_60 k12 v0 v1 v2 v3 w0 s0 = some r) : p_Go K l m_Step_holds 60 [(0, p_r v0), (1, p_i v1), (2, p_r v2), (3, p_i v3)] [p_i w0] s0 (some (p_i r.1), r.2) := by
  unfold B_Step_holds_60 at h
  refine g_istore [(5, p_i w0), (0, p_r v0), (1, p_i v1), (2, p_r v2), (3, p_i v3)] (dk_Step_holds 36 rfl) (by decide) rfl ?_
  refine g_iload (j := 0) (dk_Step_holds 37 rfl) rfl ?_
  refine g_if_ge 70 (dk_Step_holds 38 rfl) (by decide) (fun b1 => ?_) (fun b1 => ?_)
  · have h := p_ifT b1 h
    refine g_iload (j := 0) (dk_Step_holds 41 rfl) rfl ?_
    refine g_aload_n (i := 2) (j := 3) (dk_Step_holds 42 rfl) rfl rfl ?_
    obtain ⟨c2, h⟩ := p_gdE h
    refine g_getR fl_Step_308 (Or.inr ⟨_, rfl⟩) (dk_Step_holds 43 rfl) c2 ?_
    refine g_iload_n (i := 3) (j := 4) (dk_Step_holds 44 rfl) rfl rfl ?_
    obtain ⟨c3, h⟩ := p_gdE h
    obtain ⟨c4, h⟩ := p_gdE h
    refine g_iaload (dk_Step_holds 45 rfl) c3 c4.1 c4.2 ?_
    obtain ⟨r9, s5, q6, h⟩ := p_bdE h
    have t7 := tF_In_compare K l w0 (p_Z s0 (p_R s0 v2 6) (v3 : Int).toNat) s0 _ q6
    refine g_callS (av := [p_i w0, p_i (p_Z s0 (p_R s0 v2 6) (v3 : Int).toNat)]) (rest := []) [p_i r9] mt_In_compare tw_5_25 tw_5_24 ⟨Nat.le_of_ble_eq_true rfl, Nat.le_of_ble_eq_true rfl⟩ rfl (Nat.le_of_ble_eq_true rfl) (dk_Step_holds 46 rfl) rfl rfl t7 ?_
    have hs8 : p_x s0 s5 := t7.1
    show p_Go K l m_Step_holds 81 [(5, p_i w0), (0, p_r v0), (1, p_i v1), (2, p_r v2), (3, p_i v3)] [p_i r9] s5 _
    refine g_istore [(6, p_i r9), (5, p_i w0), (0, p_r v0), (1, p_i v1), (2, p_r v2), (3, p_i v3)] (dk_Step_holds 47 rfl) (by decide) rfl ?_
    refine g_aload_n (i := 2) (j := 4) (dk_Step_holds 48 rfl) rfl rfl ?_
    refine g_getR fl_Step_317 (Or.inr ⟨_, rfl⟩) (dk_Step_holds 49 rfl) (c2.up hs8) ?_
    refine g_iload_n (i := 3) (j := 5) (dk_Step_holds 50 rfl) rfl rfl ?_
    obtain ⟨c10, h⟩ := p_gdE h
    obtain ⟨c11, h⟩ := p_gdE h
    refine g_iaload (dk_Step_holds 51 rfl) c10 c11.1 c11.2 ?_
    refine g_istore [(7, p_i (p_Z s5 (p_R s5 v2 5) (v3 : Int).toNat)), (6, p_i r9), (5, p_i w0), (0, p_r v0), (1, p_i v1), (2, p_r v2), (3, p_i v3)] (dk_Step_holds 52 rfl) (by decide) rfl ?_
    refine p_ltG (P := fun q => p_Go K l m_Step_holds 91 [(7, p_i q), (6, p_i r9), (5, p_i w0), (0, p_r v0), (1, p_i v1), (2, p_r v2), (3, p_i v3)] [] s5 _) ?_ h
    intro x12 h
    refine g_iload (j := 0) (dk_Step_holds 53 rfl) rfl ?_
    refine g_bipush (dk_Step_holds 54 rfl) (by decide +kernel) (by decide) ?_
    refine g_icmp_ne 111 (dk_Step_holds 55 rfl) (by decide) (fun b13 => ?_) (fun b13 => ?_)
    · have h := p_ifT b13 h
      refine g_iload (j := 0) (dk_Step_holds 62 rfl) rfl ?_
      refine g_bipush (dk_Step_holds 63 rfl) (by decide +kernel) (by decide) ?_
      refine g_icmp_ne 131 (dk_Step_holds 64 rfl) (by decide) (fun b14 => ?_) (fun b14 => ?_)
      · have h := p_ifT b14 h
        refine g_iload (j := 1) (dk_Step_holds 71 rfl) rfl ?_
        refine g_if_le 140 (dk_Step_holds 72 rfl) (by decide) (fun b15 => ?_) (fun b15 => ?_)
        · have h := p_ifT b15 h
          refine g_iconst (dk_Step_holds 75 rfl) (by decide) ?_
          refine g_sub [(0, p_r v0), (1, p_i v1), (2, p_r v2), (3, p_i v3)] [3, 4, 5, 6] rfl ?_
          exact tB_Step_holds_141 K l k12 hk12 v0 v1 v2 v3 0 s5 _ h
        · have h := p_ifF b15 h
          refine g_iconst (dk_Step_holds 73 rfl) (by decide) ?_
          refine g_goto 141 (dk_Step_holds 74 rfl) (by decide) ?_
          refine g_sub [(0, p_r v0), (1, p_i v1), (2, p_r v2), (3, p_i v3)] [3, 4, 5, 6] rfl ?_
          exact tB_Step_holds_141 K l k12 hk12 v0 v1 v2 v3 1 s5 _ h
      · have h := p_ifF b14 h
        refine g_iload (j := 1) (dk_Step_holds 65 rfl) rfl ?_
        refine g_if_ne 127 (dk_Step_holds 66 rfl) (by decide) (fun b16 => ?_) (fun b16 => ?_)
        · have h := p_ifT b16 h
          refine g_iconst (dk_Step_holds 69 rfl) (by decide) ?_
          refine g_goto 141 (dk_Step_holds 70 rfl) (by decide) ?_
          refine g_sub [(0, p_r v0), (1, p_i v1), (2, p_r v2), (3, p_i v3)] [3, 4, 5, 6] rfl ?_
          exact tB_Step_holds_141 K l k12 hk12 v0 v1 v2 v3 0 s5 _ h
        · have h := p_ifF b16 h
          refine g_iconst (dk_Step_holds 67 rfl) (by decide) ?_
          refine g_goto 141 (dk_Step_holds 68 rfl) (by decide) ?_
          refine g_sub [(0, p_r v0), (1, p_i v1), (2, p_r v2), (3, p_i v3)] [3, 4, 5, 6] rfl ?_
          exact tB_Step_holds_141 K l k12 hk12 v0 v1 v2 v3 1 s5 _ h
    · have h := p_ifF b13 h
      refine g_iload (j := 1) (dk_Step_holds 56 rfl) rfl ?_
      refine g_if_ge 107 (dk_Step_holds 57 rfl) (by decide) (fun b17 => ?_) (fun b17 => ?_)
      · have h := p_ifT b17 h
        refine g_iconst (dk_Step_holds 60 rfl) (by decide) ?_
        refine g_goto 141 (dk_Step_holds 61 rfl) (by decide) ?_
        refine g_sub [(0, p_r v0), (1, p_i v1), (2, p_r v2), (3, p_i v3)] [3, 4, 5, 6] rfl ?_
        exact tB_Step_holds_141 K l k12 hk12 v0 v1 v2 v3 0 s5 _ h
      · have h := p_ifF b17 h
        refine g_iconst (dk_Step_holds 58 rfl) (by decide) ?_
        refine g_goto 141 (dk_Step_holds 59 rfl) (by decide) ?_
        refine g_sub [(0, p_r v0), (1, p_i v1), (2, p_r v2), (3, p_i v3)] [3, 4, 5, 6] rfl ?_
        exact tB_Step_holds_141 K l k12 hk12 v0 v1 v2 v3 1 s5 _ h
  · have h := p_ifF b1 h
    refine g_iload (j := 0) (dk_Step_holds 39 rfl) rfl ?_
    cases h
    exact g_ret rfl rfl (dk_Step_holds 40 rfl) (fun os => ⟨_, rfl, p_okh os⟩)
set_option maxRecDepth 100000 in
set_option maxHeartbeats 4000000 in
theorem tL_Step_holds_12 (K : p_K) (l : Launch) (k12 : Nat → Int → Nat → Int → p_Hp → Option (Int × p_Hp)) (hk12 : ∀ (v0 : Nat) (v1 : Int) (v2 : Nat) (v3 : Int)  (s0 : p_Hp) (r : (Int × p_Hp)), k12 v0 v1 v2 v3 s0 = some r → p_Go K l m_Step_holds 12 [(0, p_r v0), (1, p_i v1), (2, p_r v2), (3, p_i v3)] [] s0 (some (p_i r.1), r.2)) (v0 : Nat) (v1 : Int) (v2 : Nat) (v3 : Int) (s0 : p_Hp) (r : (Int × p_Hp)) (h : L_Step_holds_12 k12 v0 v1 v2 v3 s0 = some r) : p_Go K l m_Step_holds 12 [(0, p_r v0), (1, p_i v1), (2, p_r v2), (3, p_i v3)] [] s0 (some (p_i r.1), r.2) := by
  unfold L_Step_holds_12 at h
  refine g_iload_n (i := 3) (j := 3) (dk_Step_holds 8 rfl) rfl rfl ?_
  refine g_iconst (dk_Step_holds 9 rfl) (by decide) ?_
  refine g_iload_n (i := 1) (j := 1) (dk_Step_holds 10 rfl) rfl rfl ?_
  refine g_imul (dk_Step_holds 11 rfl) ?_
  refine g_aload_n (i := 2) (j := 2) (dk_Step_holds 12 rfl) rfl rfl ?_
  obtain ⟨c1, h⟩ := p_gdE h
  refine g_getR fl_Step_293 (Or.inr ⟨_, rfl⟩) (dk_Step_holds 13 rfl) c1 ?_
  refine g_iload_n (i := 1) (j := 1) (dk_Step_holds 14 rfl) rfl rfl ?_
  obtain ⟨c2, h⟩ := p_gdE h
  obtain ⟨c3, h⟩ := p_gdE h
  refine g_iaload (dk_Step_holds 15 rfl) c2 c3.1 c3.2 ?_
  refine g_iadd (dk_Step_holds 16 rfl) ?_
  refine g_icmp_ge 156 (dk_Step_holds 17 rfl) (by decide) (fun b4 => ?_) (fun b4 => ?_)
  · have h := p_ifT b4 h
    refine g_iconst (dk_Step_holds 83 rfl) (by decide) ?_
    cases h
    exact g_ret rfl rfl (dk_Step_holds 84 rfl) (fun os => ⟨_, rfl, p_okh os⟩)
  · have h := p_ifF b4 h
    refine g_aload_n (i := 2) (j := 2) (dk_Step_holds 18 rfl) rfl rfl ?_
    refine g_getR fl_Step_296 (Or.inr ⟨_, rfl⟩) (dk_Step_holds 19 rfl) c1 ?_
    refine g_iload_n (i := 3) (j := 3) (dk_Step_holds 20 rfl) rfl rfl ?_
    obtain ⟨c5, h⟩ := p_gdE h
    obtain ⟨c6, h⟩ := p_gdE h
    refine g_iaload (dk_Step_holds 21 rfl) c5 c6.1 c6.2 ?_
    refine g_istore [(4, p_i (p_Z s0 (p_R s0 v2 3) (v3 : Int).toNat)), (0, p_r v0), (1, p_i v1), (2, p_r v2), (3, p_i v3)] (dk_Step_holds 22 rfl) (by decide) rfl ?_
    refine p_ltG (P := fun q => p_Go K l m_Step_holds 34 [(4, p_i q), (0, p_r v0), (1, p_i v1), (2, p_r v2), (3, p_i v3)] [] s0 _) ?_ h
    intro x7 h
    refine g_iload (j := 0) (dk_Step_holds 23 rfl) rfl ?_
    refine g_bipush (dk_Step_holds 24 rfl) (by decide +kernel) (by decide) ?_
    refine g_icmp_ne 54 (dk_Step_holds 25 rfl) (by decide) (fun b8 => ?_) (fun b8 => ?_)
    · have h := p_ifT b8 h
      refine g_aload_n (i := 0) (j := 1) (dk_Step_holds 33 rfl) rfl rfl ?_
      refine g_iload (j := 0) (dk_Step_holds 34 rfl) rfl ?_
      obtain ⟨c9, h⟩ := p_gdE h
      obtain ⟨r14, s10, q11, h⟩ := p_bdE h
      have t12 := tF_Step_plainValue K l v0 x7 s0 _ q11
      refine g_callV (a := v0) (ci := 8) (q0 := (RX8, TX8, 5)) (As := [p_i x7]) (rest := []) [p_i r14] mt_Step_plainValue rfl rfl tw_5_22 ts_29 tw_5_20 ⟨Nat.le_of_ble_eq_true rfl, Nat.le_of_ble_eq_true rfl⟩ rfl (Nat.le_of_ble_eq_true rfl) (dk_Step_holds 35 rfl) rfl c9 rfl t12 ?_
      have hs13 : p_x s0 s10 := t12.1
      show p_Go K l m_Step_holds 60 [(4, p_i x7), (0, p_r v0), (1, p_i v1), (2, p_r v2), (3, p_i v3)] [p_i r14] s10 _
      refine g_sub [(0, p_r v0), (1, p_i v1), (2, p_r v2), (3, p_i v3)] [1, 2, 3, 4] rfl ?_
      exact tB_Step_holds_60 K l k12 hk12 v0 v1 v2 v3 r14 s10 _ h
    · have h := p_ifF b8 h
      refine g_aload_n (i := 0) (j := 1) (dk_Step_holds 26 rfl) rfl rfl ?_
      refine g_aload_n (i := 2) (j := 3) (dk_Step_holds 27 rfl) rfl rfl ?_
      refine g_getR fl_Step_299 (Or.inr ⟨_, rfl⟩) (dk_Step_holds 28 rfl) c1 ?_
      refine g_iload_n (i := 3) (j := 4) (dk_Step_holds 29 rfl) rfl rfl ?_
      obtain ⟨c15, h⟩ := p_gdE h
      obtain ⟨c16, h⟩ := p_gdE h
      refine g_iaload (dk_Step_holds 30 rfl) c15 c16.1 c16.2 ?_
      obtain ⟨c17, h⟩ := p_gdE h
      obtain ⟨r22, s18, q19, h⟩ := p_bdE h
      have t20 := tF_Step_quotient K l v0 (p_Z s0 (p_R s0 v2 4) (v3 : Int).toNat) s0 _ q19
      refine g_callV (a := v0) (ci := 8) (q0 := (RX8, TX8, 5)) (As := [p_i (p_Z s0 (p_R s0 v2 4) (v3 : Int).toNat)]) (rest := []) [p_i r22] mt_Step_quotient rfl rfl tw_5_17 ts_28 tw_5_15 ⟨Nat.le_of_ble_eq_true rfl, Nat.le_of_ble_eq_true rfl⟩ rfl (Nat.le_of_ble_eq_true rfl) (dk_Step_holds 31 rfl) rfl c17 rfl t20 ?_
      have hs21 : p_x s0 s18 := t20.1
      show p_Go K l m_Step_holds 51 [(4, p_i x7), (0, p_r v0), (1, p_i v1), (2, p_r v2), (3, p_i v3)] [p_i r22] s18 _
      refine g_goto 60 (dk_Step_holds 32 rfl) (by decide) ?_
      refine g_sub [(0, p_r v0), (1, p_i v1), (2, p_r v2), (3, p_i v3)] [1, 2, 3, 4] rfl ?_
      exact tB_Step_holds_60 K l k12 hk12 v0 v1 v2 v3 r22 s18 _ h
set_option maxRecDepth 100000 in
set_option maxHeartbeats 4000000 in
theorem tO_Step_holds_12 (K : p_K) (l : Launch)  : ∀ (n : Nat) (v0 : Nat) (v1 : Int) (v2 : Nat) (v3 : Int) (s0 : p_Hp) (r : (Int × p_Hp)), O_Step_holds_12 n v0 v1 v2 v3 s0 = some r → p_Go K l m_Step_holds 12 [(0, p_r v0), (1, p_i v1), (2, p_r v2), (3, p_i v3)] [] s0 (some (p_i r.1), r.2) := by
  intro n
  induction n with
  | zero => intro v0 v1 v2 v3 s0 r h; cases (show (none : Option (Int × p_Hp)) = some r from h)
  | succ n ih => intro v0 v1 v2 v3 s0 r h; exact tL_Step_holds_12 K l _ ih v0 v1 v2 v3 s0 r h
set_option maxRecDepth 100000 in
set_option maxHeartbeats 4000000 in
theorem tF_Step_holds (K : p_K) (l : Launch) (v0 : Nat) (v1 : Int) (s0 : p_Hp) (r : (Int × p_Hp)) (h : F_Step_holds v0 v1 s0 = some r) : p_Ct K l m_Step_holds [p_r v0, p_i v1] s0 (some (p_i r.1), r.2) := by
  refine p_Ct.of (by decide +kernel) (Nat.le_of_ble_eq_true rfl) ?_
  unfold F_Step_holds at h
  show p_Go K l m_Step_holds 0 [(0, p_r v0), (1, p_i v1)] [] s0 _
  refine g_aload_n (i := 0) (j := 0) (dk_Step_holds 0 rfl) rfl rfl ?_
  obtain ⟨c1, h⟩ := p_gdE h
  refine g_getR fl_Step_18 (Or.inl ⟨_, rfl⟩) (dk_Step_holds 1 rfl) c1 ?_
  obtain ⟨c2, h⟩ := p_gdE h
  refine g_getR fl_Step_277 (Or.inl ⟨_, rfl⟩) (dk_Step_holds 2 rfl) c2 ?_
  refine g_astore_n (i := 2) [(2, p_r (p_R s0 (p_R s0 v0 2) 3)), (0, p_r v0), (1, p_i v1)] (dk_Step_holds 3 rfl) rfl (by decide) rfl ?_
  refine p_ltG (P := fun q => p_Go K l m_Step_holds 8 [(2, p_r q), (0, p_r v0), (1, p_i v1)] [] s0 _) ?_ h
  intro x3 h
  refine g_iconst (dk_Step_holds 4 rfl) (by decide) ?_
  refine g_iload_n (i := 1) (j := 2) (dk_Step_holds 5 rfl) rfl rfl ?_
  refine g_imul (dk_Step_holds 6 rfl) ?_
  refine g_istore_n (i := 3) [(3, p_i (p_w (4 * v1))), (2, p_r x3), (0, p_r v0), (1, p_i v1)] (dk_Step_holds 7 rfl) rfl (by decide) rfl ?_
  refine p_ltG (P := fun q => p_Go K l m_Step_holds 12 [(3, p_i q), (2, p_r x3), (0, p_r v0), (1, p_i v1)] [] s0 _) ?_ h
  intro x4 h
  refine g_sub [(0, p_r v0), (1, p_i v1), (2, p_r x3), (3, p_i x4)] [2, 3, 1, 0] rfl ?_
  exact tO_Step_holds_12 K l 3000 v0 v1 x3 x4 s0 _ h
def m_Step_targetByRules : p_Me := (⟨"SortWorks$Step", "targetByRules", "(I)I"⟩, prog_10_method_18_code, 4, (some .int), 3, 75)
theorem mt_Step_targetByRules : p_Mt m_Step_targetByRules 1 := ⟨p_mem (p_tb5 (List.mem_of_getElem? (i := 10) rfl)) rfl, tw_1_9, by decide +kernel, by decide +kernel, by decide +kernel⟩
def dt_Step_targetByRules : List (Nat × Instr × Nat) := [(0, .iconst 0, 1), (1, .istore_n 2, 1), (2, .iload_n 2, 1), (3, .aload_n 0, 1), (4, .getfield 18, 3), (7, .getfield 277, 3), (10, .getfield 281, 3), (13, .if_icmp .ge 61, 3), (16, .aload_n 0, 1), (17, .iload_n 2, 1), (18, .invokevirtual 284, 3), (21, .istore_n 3, 1), (22, .iload_n 3, 1), (23, .ifCond .ge 14, 3), (26, .aload_n 0, 1), (27, .iload_n 1, 1), (28, .iconst 3, 1), (29, .iload_n 3, 1), (30, .iload_n 2, 1), (31, .invokevirtual 125, 3), (34, .goto 34, 3), (37, .iload_n 3, 1), (38, .iconst 1, 1), (39, .if_icmp .ne 29, 3), (42, .aload_n 0, 1), (43, .getfield 28, 3), (46, .getfield 287, 3), (49, .iload_n 2, 1), (50, .dup2, 1), (51, .iaload, 1), (52, .iconst 1, 1), (53, .iadd, 1), (54, .iastore, 1), (55, .aload_n 0, 1), (56, .getfield 18, 3), (59, .getfield 277, 3), (62, .getfield 290, 3), (65, .iload_n 2, 1), (66, .iaload, 1), (67, .ireturn, 1), (68, .iinc 2 1, 3), (71, .goto (-69), 3), (74, .bipush (-9), 2), (76, .ireturn, 1)]
theorem dk_Step_targetByRules (i : Nat) {pc : Nat} {ins : Instr} {len : Nat} (h : dt_Step_targetByRules[i]? = some (pc, ins, len)) : decode m_Step_targetByRules.2.1 pc = .ok (ins, len) := p_dk (b := m_Step_targetByRules.2.1) (t := dt_Step_targetByRules) (by decide +kernel) i h
def B_Step_targetByRules_68 (k2 : Nat → Int → Int → p_Hp → Option (Int × p_Hp)) (v0 : Nat) (v1 : Int) (v2 : Int) (s0 : p_Hp) : Option (Int × p_Hp) :=
  p_bi (p_w (v2 + 1)) fun x1 =>
  k2 v0 v1 x1 s0
def L_Step_targetByRules_2 (k2 : Nat → Int → Int → p_Hp → Option (Int × p_Hp)) (v0 : Nat) (v1 : Int) (v2 : Int) (s0 : p_Hp) : Option (Int × p_Hp) :=
  p_gd (p_is s0 v0 8) <|
  p_gd (p_is s0 (p_R s0 v0 2) 9) <|
  p_gd (p_is s0 (p_R s0 (p_R s0 v0 2) 3) 6) <|
  if (p_Z s0 (p_R s0 (p_R s0 v0 2) 3) 0) ≤ v2 then
    some ((-9), s0)
  else
    p_bd (F_Step_holds v0 v2 s0) fun r9 s5 =>
    if 0 ≤ r9 then
      if r9 ≠ 1 then
        B_Step_targetByRules_68 k2 v0 v1 v2 s5
      else
        p_gd (p_is s5 (p_R s5 v0 3) 7) <|
        p_gd (p_is s5 (p_R s5 (p_R s5 v0 3) 6) 100) <|
        p_gd ((0 : Int) ≤ v2 ∧ v2 < (p_L s5 (p_R s5 (p_R s5 v0 3) 6) : Int)) <|
        p_gd ((0 : Int) ≤ v2 ∧ v2 < (p_L s5 (p_R s5 (p_R s5 v0 3) 6) : Int)) <|
        p_bi (p_wZ s5 (p_R s5 (p_R s5 v0 3) 6) (v2 : Int).toNat (p_w ((p_Z s5 (p_R s5 (p_R s5 v0 3) 6) (v2 : Int).toNat) + 1))) fun s16 =>
        p_gd (p_is s16 (p_R s16 v0 2) 9) <|
        p_gd (p_is s16 (p_R s16 (p_R s16 v0 2) 3) 6) <|
        p_gd (p_is s16 (p_R s16 (p_R s16 (p_R s16 v0 2) 3) 1) 100) <|
        p_gd ((0 : Int) ≤ v2 ∧ v2 < (p_L s16 (p_R s16 (p_R s16 (p_R s16 v0 2) 3) 1) : Int)) <|
        some ((p_Z s16 (p_R s16 (p_R s16 (p_R s16 v0 2) 3) 1) (v2 : Int).toNat), s16)
    else
      p_bv (F_Step_addFinding v0 v1 3 r9 v2 s5) fun s22 =>
      B_Step_targetByRules_68 k2 v0 v1 v2 s22
def O_Step_targetByRules_2  : Nat → Nat → Int → Int → p_Hp → Option (Int × p_Hp)
  | 0 => fun _ _ _ _ => none
  | n + 1 => L_Step_targetByRules_2 (O_Step_targetByRules_2 n)
def F_Step_targetByRules (v0 : Nat) (v1 : Int) (s0 : p_Hp) : Option (Int × p_Hp) :=
  O_Step_targetByRules_2 3000 v0 v1 0 s0
set_option maxRecDepth 100000 in
set_option maxHeartbeats 4000000 in
theorem tB_Step_targetByRules_68 (K : p_K) (l : Launch) (k2 : Nat → Int → Int → p_Hp → Option (Int × p_Hp)) (hk2 : ∀ (v0 : Nat) (v1 : Int) (v2 : Int)  (s0 : p_Hp) (r : (Int × p_Hp)), k2 v0 v1 v2 s0 = some r → p_Go K l m_Step_targetByRules 2 [(0, p_r v0), (1, p_i v1), (2, p_i v2)] [] s0 (some (p_i r.1), r.2)) (v0 : Nat) (v1 : Int) (v2 : Int) (s0 : p_Hp) (r : (Int × p_Hp)) (h : B_Step_targetByRules_68 k2 v0 v1 v2 s0 = some r) : p_Go K l m_Step_targetByRules 68 [(0, p_r v0), (1, p_i v1), (2, p_i v2)] [] s0 (some (p_i r.1), r.2) := by
  unfold B_Step_targetByRules_68 at h
  refine g_iinc (j := 2) [(2, p_i (p_w (v2 + 1))), (0, p_r v0), (1, p_i v1)] (dk_Step_targetByRules 40 rfl) rfl (by decide) rfl ?_
  refine p_ltG (P := fun q => p_Go K l m_Step_targetByRules 71 [(2, p_i q), (0, p_r v0), (1, p_i v1)] [] s0 _) ?_ h
  intro x1 h
  refine g_goto 2 (dk_Step_targetByRules 41 rfl) (by decide) ?_
  refine g_sub [(0, p_r v0), (1, p_i v1), (2, p_i x1)] [1, 2, 0] rfl ?_
  exact hk2 v0 v1 x1 s0 _ h
set_option maxRecDepth 100000 in
set_option maxHeartbeats 4000000 in
theorem tL_Step_targetByRules_2 (K : p_K) (l : Launch) (k2 : Nat → Int → Int → p_Hp → Option (Int × p_Hp)) (hk2 : ∀ (v0 : Nat) (v1 : Int) (v2 : Int)  (s0 : p_Hp) (r : (Int × p_Hp)), k2 v0 v1 v2 s0 = some r → p_Go K l m_Step_targetByRules 2 [(0, p_r v0), (1, p_i v1), (2, p_i v2)] [] s0 (some (p_i r.1), r.2)) (v0 : Nat) (v1 : Int) (v2 : Int) (s0 : p_Hp) (r : (Int × p_Hp)) (h : L_Step_targetByRules_2 k2 v0 v1 v2 s0 = some r) : p_Go K l m_Step_targetByRules 2 [(0, p_r v0), (1, p_i v1), (2, p_i v2)] [] s0 (some (p_i r.1), r.2) := by
  unfold L_Step_targetByRules_2 at h
  refine g_iload_n (i := 2) (j := 2) (dk_Step_targetByRules 2 rfl) rfl rfl ?_
  refine g_aload_n (i := 0) (j := 0) (dk_Step_targetByRules 3 rfl) rfl rfl ?_
  obtain ⟨c1, h⟩ := p_gdE h
  refine g_getR fl_Step_18 (Or.inl ⟨_, rfl⟩) (dk_Step_targetByRules 4 rfl) c1 ?_
  obtain ⟨c2, h⟩ := p_gdE h
  refine g_getR fl_Step_277 (Or.inl ⟨_, rfl⟩) (dk_Step_targetByRules 5 rfl) c2 ?_
  obtain ⟨c3, h⟩ := p_gdE h
  refine g_getI fl_Step_281 (Or.inl rfl) (dk_Step_targetByRules 6 rfl) c3 ?_
  refine g_icmp_ge 74 (dk_Step_targetByRules 7 rfl) (by decide) (fun b4 => ?_) (fun b4 => ?_)
  · have h := p_ifT b4 h
    refine g_bipush (dk_Step_targetByRules 42 rfl) (by decide +kernel) (by decide) ?_
    cases h
    exact g_ret rfl rfl (dk_Step_targetByRules 43 rfl) (fun os => ⟨_, rfl, p_okh os⟩)
  · have h := p_ifF b4 h
    refine g_aload_n (i := 0) (j := 0) (dk_Step_targetByRules 8 rfl) rfl rfl ?_
    refine g_iload_n (i := 2) (j := 2) (dk_Step_targetByRules 9 rfl) rfl rfl ?_
    obtain ⟨r9, s5, q6, h⟩ := p_bdE h
    have t7 := tF_Step_holds K l v0 v2 s0 _ q6
    refine g_callV (a := v0) (ci := 8) (q0 := (RX8, TX8, 5)) (As := [p_i v2]) (rest := []) [p_i r9] mt_Step_holds rfl rfl tw_5_13 ts_27 tw_5_11 ⟨Nat.le_of_ble_eq_true rfl, Nat.le_of_ble_eq_true rfl⟩ rfl (Nat.le_of_ble_eq_true rfl) (dk_Step_targetByRules 10 rfl) rfl c1 rfl t7 ?_
    have hs8 : p_x s0 s5 := t7.1
    show p_Go K l m_Step_targetByRules 21 [(0, p_r v0), (1, p_i v1), (2, p_i v2)] [p_i r9] s5 _
    refine g_istore_n (i := 3) [(3, p_i r9), (0, p_r v0), (1, p_i v1), (2, p_i v2)] (dk_Step_targetByRules 11 rfl) rfl (by decide) rfl ?_
    refine g_iload_n (i := 3) (j := 0) (dk_Step_targetByRules 12 rfl) rfl rfl ?_
    refine g_if_ge 37 (dk_Step_targetByRules 13 rfl) (by decide) (fun b10 => ?_) (fun b10 => ?_)
    · have h := p_ifT b10 h
      refine g_iload_n (i := 3) (j := 0) (dk_Step_targetByRules 21 rfl) rfl rfl ?_
      refine g_iconst (dk_Step_targetByRules 22 rfl) (by decide) ?_
      refine g_icmp_ne 68 (dk_Step_targetByRules 23 rfl) (by decide) (fun b11 => ?_) (fun b11 => ?_)
      · have h := p_ifT b11 h
        refine g_sub [(0, p_r v0), (1, p_i v1), (2, p_i v2)] [1, 2, 3] rfl ?_
        exact tB_Step_targetByRules_68 K l k2 hk2 v0 v1 v2 s5 _ h
      · have h := p_ifF b11 h
        refine g_aload_n (i := 0) (j := 1) (dk_Step_targetByRules 24 rfl) rfl rfl ?_
        refine g_getR fl_Step_28 (Or.inl ⟨_, rfl⟩) (dk_Step_targetByRules 25 rfl) (c1.up hs8) ?_
        obtain ⟨c12, h⟩ := p_gdE h
        refine g_getR fl_Step_287 (Or.inr ⟨_, rfl⟩) (dk_Step_targetByRules 26 rfl) c12 ?_
        refine g_iload_n (i := 2) (j := 3) (dk_Step_targetByRules 27 rfl) rfl rfl ?_
        refine g_dup2 (dk_Step_targetByRules 28 rfl) rfl rfl ?_
        obtain ⟨c13, h⟩ := p_gdE h
        obtain ⟨c14, h⟩ := p_gdE h
        refine g_iaload (dk_Step_targetByRules 29 rfl) c13 c14.1 c14.2 ?_
        refine g_iconst (dk_Step_targetByRules 30 rfl) (by decide) ?_
        refine g_iadd (dk_Step_targetByRules 31 rfl) ?_
        obtain ⟨c15, h⟩ := p_gdE h
        refine g_iastore (dk_Step_targetByRules 32 rfl) c13 c15.1 c15.2 ?_
        refine p_ltS (P := fun q => p_Go K l m_Step_targetByRules 55 [(3, p_i r9), (0, p_r v0), (1, p_i v1), (2, p_i v2)] [] q _) (p_xZ _ _ _ _) ?_ h
        intro s16 hs17 h
        refine g_aload_n (i := 0) (j := 1) (dk_Step_targetByRules 33 rfl) rfl rfl ?_
        refine g_getR fl_Step_18 (Or.inl ⟨_, rfl⟩) (dk_Step_targetByRules 34 rfl) (c1.up (hs8.trans hs17)) ?_
        obtain ⟨c18, h⟩ := p_gdE h
        refine g_getR fl_Step_277 (Or.inl ⟨_, rfl⟩) (dk_Step_targetByRules 35 rfl) c18 ?_
        obtain ⟨c19, h⟩ := p_gdE h
        refine g_getR fl_Step_290 (Or.inr ⟨_, rfl⟩) (dk_Step_targetByRules 36 rfl) c19 ?_
        refine g_iload_n (i := 2) (j := 3) (dk_Step_targetByRules 37 rfl) rfl rfl ?_
        obtain ⟨c20, h⟩ := p_gdE h
        obtain ⟨c21, h⟩ := p_gdE h
        refine g_iaload (dk_Step_targetByRules 38 rfl) c20 c21.1 c21.2 ?_
        cases h
        exact g_ret rfl rfl (dk_Step_targetByRules 39 rfl) (fun os => ⟨_, rfl, p_okh os⟩)
    · have h := p_ifF b10 h
      refine g_aload_n (i := 0) (j := 1) (dk_Step_targetByRules 14 rfl) rfl rfl ?_
      refine g_iload_n (i := 1) (j := 2) (dk_Step_targetByRules 15 rfl) rfl rfl ?_
      refine g_iconst (dk_Step_targetByRules 16 rfl) (by decide) ?_
      refine g_iload_n (i := 3) (j := 0) (dk_Step_targetByRules 17 rfl) rfl rfl ?_
      refine g_iload_n (i := 2) (j := 3) (dk_Step_targetByRules 18 rfl) rfl rfl ?_
      obtain ⟨s22, q23, h⟩ := p_bvE h
      have t24 := tF_Step_addFinding K l v0 v1 3 r9 v2 s5 _ q23
      refine g_callV (a := v0) (ci := 8) (q0 := (RX8, TX8, 5)) (As := [p_i v1, p_i 3, p_i r9, p_i v2]) (rest := []) [] mt_Step_addFinding rfl rfl tw_4_181 ts_16 tw_4_179 ⟨Nat.le_of_ble_eq_true rfl, Nat.le_of_ble_eq_true rfl⟩ rfl (Nat.le_of_ble_eq_true rfl) (dk_Step_targetByRules 19 rfl) rfl (c1.up hs8) rfl t24 ?_
      have hs25 : p_x s5 s22 := t24.1
      show p_Go K l m_Step_targetByRules 34 [(3, p_i r9), (0, p_r v0), (1, p_i v1), (2, p_i v2)] [] s22 _
      refine g_goto 68 (dk_Step_targetByRules 20 rfl) (by decide) ?_
      refine g_sub [(0, p_r v0), (1, p_i v1), (2, p_i v2)] [1, 2, 3] rfl ?_
      exact tB_Step_targetByRules_68 K l k2 hk2 v0 v1 v2 s22 _ h
set_option maxRecDepth 100000 in
set_option maxHeartbeats 4000000 in
theorem tO_Step_targetByRules_2 (K : p_K) (l : Launch)  : ∀ (n : Nat) (v0 : Nat) (v1 : Int) (v2 : Int) (s0 : p_Hp) (r : (Int × p_Hp)), O_Step_targetByRules_2 n v0 v1 v2 s0 = some r → p_Go K l m_Step_targetByRules 2 [(0, p_r v0), (1, p_i v1), (2, p_i v2)] [] s0 (some (p_i r.1), r.2) := by
  intro n
  induction n with
  | zero => intro v0 v1 v2 s0 r h; cases (show (none : Option (Int × p_Hp)) = some r from h)
  | succ n ih => intro v0 v1 v2 s0 r h; exact tL_Step_targetByRules_2 K l _ ih v0 v1 v2 s0 r h
set_option maxRecDepth 100000 in
set_option maxHeartbeats 4000000 in
theorem tF_Step_targetByRules (K : p_K) (l : Launch) (v0 : Nat) (v1 : Int) (s0 : p_Hp) (r : (Int × p_Hp)) (h : F_Step_targetByRules v0 v1 s0 = some r) : p_Ct K l m_Step_targetByRules [p_r v0, p_i v1] s0 (some (p_i r.1), r.2) := by
  refine p_Ct.of (by decide +kernel) (Nat.le_of_ble_eq_true rfl) ?_
  unfold F_Step_targetByRules at h
  show p_Go K l m_Step_targetByRules 0 [(0, p_r v0), (1, p_i v1)] [] s0 _
  refine g_iconst (dk_Step_targetByRules 0 rfl) (by decide) ?_
  refine g_istore_n (i := 2) [(2, p_i 0), (0, p_r v0), (1, p_i v1)] (dk_Step_targetByRules 1 rfl) rfl (by decide) rfl ?_
  refine g_sub [(0, p_r v0), (1, p_i v1), (2, p_i 0)] [1, 2, 0] rfl ?_
  exact tO_Step_targetByRules_2 K l 3000 v0 v1 0 s0 _ h
def m_Step_scan : p_Me := (⟨"SortWorks$Step", "scan", "(ILSortWorks$Gear;)Z"⟩, prog_10_method_17_code, 5, (some .boolean), 4, 98)
theorem mt_Step_scan : p_Mt m_Step_scan 2 := ⟨p_mem (p_tb4 (List.mem_of_getElem? (i := 234) rfl)) rfl, tw_1_9, by decide +kernel, by decide +kernel, by decide +kernel⟩
def dt_Step_scan : List (Nat × Instr × Nat) := [(0, .aload_n 0, 1), (1, .getfield 28, 3), (4, .aload_n 2, 1), (5, .invokevirtual 181, 3), (8, .astore_n 3, 1), (9, .aload_n 3, 1), (10, .ifnull 17, 3), (13, .aload_n 3, 1), (14, .getfield 64, 3), (17, .ifCond .ne 10, 3), (20, .aload_n 3, 1), (21, .getfield 253, 3), (24, .ifCond .eq 5, 3), (27, .iconst 1, 1), (28, .ireturn, 1), (29, .aload_n 3, 1), (30, .iconst 1, 1), (31, .putfield 253, 3), (34, .aload_n 3, 1), (35, .bipush (-8), 2), (37, .putfield 256, 3), (40, .aload_n 0, 1), (41, .getfield 12, 3), (44, .aload_n 3, 1), (45, .invokevirtual 259, 3), (48, .istore 4, 2), (50, .iload 4, 2), (52, .ifCond .eq 17, 3), (55, .aload_n 0, 1), (56, .iload_n 1, 1), (57, .iconst 2, 1), (58, .iload 4, 2), (60, .aload_n 3, 1), (61, .getfield 263, 3), (64, .invokevirtual 125, 3), (67, .iconst 0, 1), (68, .ireturn, 1), (69, .aload_n 0, 1), (70, .getfield 12, 3), (73, .getfield 266, 3), (76, .ifCond .ne 34, 3), (79, .aload_n 2, 1), (80, .getfield 97, 3), (83, .iconst 4, 1), (84, .if_icmp .ne 17, 3), (87, .aload_n 0, 1), (88, .getfield 12, 3), (91, .getfield 269, 3), (94, .aload_n 3, 1), (95, .getfield 272, 3), (98, .if_icmp .ne 12, 3), (101, .aload_n 3, 1), (102, .aload_n 0, 1), (103, .iload_n 1, 1), (104, .invokevirtual 273, 3), (107, .putfield 256, 3), (110, .iconst 1, 1), (111, .ireturn, 1)]
theorem dk_Step_scan (i : Nat) {pc : Nat} {ins : Instr} {len : Nat} (h : dt_Step_scan[i]? = some (pc, ins, len)) : decode m_Step_scan.2.1 pc = .ok (ins, len) := p_dk (b := m_Step_scan.2.1) (t := dt_Step_scan) (by decide +kernel) i h
def B_Step_scan_101  (v0 : Nat) (v1 : Int) (v3 : Nat) (s0 : p_Hp) : Option (Int × p_Hp) :=
  p_gd (p_is s0 v0 8) <|
  p_bd (F_Step_targetByRules v0 v1 s0) fun r6 s2 =>
  p_gd (p_is s2 v3 4) <|
  p_bi (p_wZ s2 v3 4 r6) fun s8 =>
  some (1, s8)
def F_Step_scan (v0 : Nat) (v1 : Int) (v2 : Nat) (s0 : p_Hp) : Option (Int × p_Hp) :=
  p_gd (p_is s0 v0 8) <|
  p_gd (p_is s0 (p_R s0 v0 3) 7) <|
  p_bd (F_State_inLastSlot (p_R s0 v0 3) v2 s0) fun r7 s3 =>
  if r7 = 0 then
    some (1, s3)
  else
    p_gd (p_is s3 r7 4) <|
    if (p_Z s3 r7 8) ≠ 0 then
      some (1, s3)
    else
      if (p_Z s3 r7 7) = 0 then
        p_bi (p_wZ s3 r7 7 1) fun s12 =>
        p_bi (p_wZ s12 r7 4 (-8)) fun s14 =>
        p_gd (p_is s14 (p_R s14 v0 0) 5) <|
        p_bd (F_Reading_read (p_R s14 v0 0) r7 s14) fun r21 s17 =>
        if r21 = 0 then
          p_gd (p_is s17 (p_R s17 v0 0) 5) <|
          if (p_Z s17 (p_R s17 v0 0) 0) ≠ 0 then
            some (1, s17)
          else
            p_gd (p_is s17 v2 0) <|
            if (p_Z s17 v2 0) ≠ 4 then
              B_Step_scan_101 v0 v1 r7 s17
            else
              if (p_Z s17 (p_R s17 v0 0) 2) ≠ (p_Z s17 r7 2) then
                some (1, s17)
              else
                B_Step_scan_101 v0 v1 r7 s17
        else
          p_bv (F_Step_addFinding v0 v1 2 r21 (p_Z s17 r7 1) s17) fun s28 =>
          some (0, s28)
      else
        some (1, s3)
set_option maxRecDepth 100000 in
set_option maxHeartbeats 4000000 in
theorem tB_Step_scan_101 (K : p_K) (l : Launch)  (v0 : Nat) (v1 : Int) (v3 : Nat) (s0 : p_Hp) (r : (Int × p_Hp)) (h : B_Step_scan_101 v0 v1 v3 s0 = some r) : p_Go K l m_Step_scan 101 [(0, p_r v0), (1, p_i v1), (3, p_r v3)] [] s0 (some (p_i r.1), r.2) := by
  unfold B_Step_scan_101 at h
  refine g_aload_n (i := 3) (j := 2) (dk_Step_scan 51 rfl) rfl rfl ?_
  refine g_aload_n (i := 0) (j := 0) (dk_Step_scan 52 rfl) rfl rfl ?_
  refine g_iload_n (i := 1) (j := 1) (dk_Step_scan 53 rfl) rfl rfl ?_
  obtain ⟨c1, h⟩ := p_gdE h
  obtain ⟨r6, s2, q3, h⟩ := p_bdE h
  have t4 := tF_Step_targetByRules K l v0 v1 s0 _ q3
  refine g_callV (a := v0) (ci := 8) (q0 := (RX8, TX8, 5)) (As := [p_i v1]) (rest := [p_r v3]) [p_i r6, p_r v3] mt_Step_targetByRules rfl rfl tw_5_9 ts_26 tw_5_7 ⟨Nat.le_of_ble_eq_true rfl, Nat.le_of_ble_eq_true rfl⟩ rfl (Nat.le_of_ble_eq_true rfl) (dk_Step_scan 54 rfl) rfl c1 rfl t4 ?_
  have hs5 : p_x s0 s2 := t4.1
  show p_Go K l m_Step_scan 107 [(0, p_r v0), (1, p_i v1), (3, p_r v3)] [p_i r6, p_r v3] s2 _
  obtain ⟨c7, h⟩ := p_gdE h
  refine g_putI fl_Step_256 (Or.inl rfl) (dk_Step_scan 55 rfl) c7 ?_
  refine p_ltS (P := fun q => p_Go K l m_Step_scan 110 [(0, p_r v0), (1, p_i v1), (3, p_r v3)] [] q _) (p_xZ _ _ _ _) ?_ h
  intro s8 hs9 h
  refine g_iconst (dk_Step_scan 56 rfl) (by decide) ?_
  cases h
  exact g_ret rfl rfl (dk_Step_scan 57 rfl) (fun _ => ⟨_, rfl, Or.inr rfl⟩)
set_option maxRecDepth 100000 in
set_option maxHeartbeats 4000000 in
theorem tF_Step_scan (K : p_K) (l : Launch) (v0 : Nat) (v1 : Int) (v2 : Nat) (s0 : p_Hp) (r : (Int × p_Hp)) (h : F_Step_scan v0 v1 v2 s0 = some r) : p_Ct K l m_Step_scan [p_r v0, p_i v1, p_r v2] s0 (some (p_i r.1), r.2) := by
  refine p_Ct.of (by decide +kernel) (Nat.le_of_ble_eq_true rfl) ?_
  unfold F_Step_scan at h
  show p_Go K l m_Step_scan 0 [(0, p_r v0), (1, p_i v1), (2, p_r v2)] [] s0 _
  refine g_aload_n (i := 0) (j := 0) (dk_Step_scan 0 rfl) rfl rfl ?_
  obtain ⟨c1, h⟩ := p_gdE h
  refine g_getR fl_Step_28 (Or.inl ⟨_, rfl⟩) (dk_Step_scan 1 rfl) c1 ?_
  refine g_aload_n (i := 2) (j := 2) (dk_Step_scan 2 rfl) rfl rfl ?_
  obtain ⟨c2, h⟩ := p_gdE h
  obtain ⟨r7, s3, q4, h⟩ := p_bdE h
  have t5 := tF_State_inLastSlot K l (p_R s0 v0 3) v2 s0 _ q4
  refine g_callV (a := (p_R s0 v0 3)) (ci := 7) (q0 := (RX7, TX7, 10)) (As := [p_r v2]) (rest := []) [p_r r7] mt_State_inLastSlot rfl rfl tw_4_66 tw_4_67 tw_4_202 ⟨Nat.le_of_ble_eq_true rfl, Nat.le_of_ble_eq_true rfl⟩ rfl (Nat.le_of_ble_eq_true rfl) (dk_Step_scan 3 rfl) rfl c2 rfl t5 ?_
  have hs6 : p_x s0 s3 := t5.1
  show p_Go K l m_Step_scan 8 [(0, p_r v0), (1, p_i v1), (2, p_r v2)] [p_r r7] s3 _
  refine g_astore_n (i := 3) [(3, p_r r7), (0, p_r v0), (1, p_i v1), (2, p_r v2)] (dk_Step_scan 4 rfl) rfl (by decide) rfl ?_
  refine g_aload_n (i := 3) (j := 0) (dk_Step_scan 5 rfl) rfl rfl ?_
  refine g_ifnull 27 (dk_Step_scan 6 rfl) (by decide) (fun b8 => ?_) (fun b8 => ?_)
  · have h := p_ifT b8 h
    refine g_iconst (dk_Step_scan 13 rfl) (by decide) ?_
    cases h
    exact g_ret rfl rfl (dk_Step_scan 14 rfl) (fun _ => ⟨_, rfl, Or.inr rfl⟩)
  · have h := p_ifF b8 h
    refine g_aload_n (i := 3) (j := 0) (dk_Step_scan 7 rfl) rfl rfl ?_
    obtain ⟨c9, h⟩ := p_gdE h
    refine g_getI fl_Step_64 (Or.inr rfl) (dk_Step_scan 8 rfl) c9 ?_
    refine g_if_ne 27 (dk_Step_scan 9 rfl) (by decide) (fun b10 => ?_) (fun b10 => ?_)
    · have h := p_ifT b10 h
      refine g_iconst (dk_Step_scan 13 rfl) (by decide) ?_
      cases h
      exact g_ret rfl rfl (dk_Step_scan 14 rfl) (fun _ => ⟨_, rfl, Or.inr rfl⟩)
    · have h := p_ifF b10 h
      refine g_aload_n (i := 3) (j := 0) (dk_Step_scan 10 rfl) rfl rfl ?_
      refine g_getI fl_Step_253 (Or.inr rfl) (dk_Step_scan 11 rfl) c9 ?_
      refine g_if_eq 29 (dk_Step_scan 12 rfl) (by decide) (fun b11 => ?_) (fun b11 => ?_)
      · have h := p_ifT b11 h
        refine g_aload_n (i := 3) (j := 0) (dk_Step_scan 15 rfl) rfl rfl ?_
        refine g_iconst (dk_Step_scan 16 rfl) (by decide) ?_
        refine g_putB fl_Step_253 (Or.inl rfl) (dk_Step_scan 17 rfl) c9 (Or.inr rfl) ?_
        refine p_ltS (P := fun q => p_Go K l m_Step_scan 34 [(3, p_r r7), (0, p_r v0), (1, p_i v1), (2, p_r v2)] [] q _) (p_xZ _ _ _ _) ?_ h
        intro s12 hs13 h
        refine g_aload_n (i := 3) (j := 0) (dk_Step_scan 18 rfl) rfl rfl ?_
        refine g_bipush (dk_Step_scan 19 rfl) (by decide +kernel) (by decide) ?_
        refine g_putI fl_Step_256 (Or.inl rfl) (dk_Step_scan 20 rfl) (c9.up hs13) ?_
        refine p_ltS (P := fun q => p_Go K l m_Step_scan 40 [(3, p_r r7), (0, p_r v0), (1, p_i v1), (2, p_r v2)] [] q _) (p_xZ _ _ _ _) ?_ h
        intro s14 hs15 h
        refine g_aload_n (i := 0) (j := 1) (dk_Step_scan 21 rfl) rfl rfl ?_
        refine g_getR fl_Step_12 (Or.inl ⟨_, rfl⟩) (dk_Step_scan 22 rfl) (c1.up (hs6.trans (hs13.trans hs15))) ?_
        refine g_aload_n (i := 3) (j := 0) (dk_Step_scan 23 rfl) rfl rfl ?_
        obtain ⟨c16, h⟩ := p_gdE h
        obtain ⟨r21, s17, q18, h⟩ := p_bdE h
        have t19 := tF_Reading_read K l (p_R s14 v0 0) r7 s14 _ q18
        refine g_callV (a := (p_R s14 v0 0)) (ci := 5) (q0 := (RX5, TX5, 5)) (As := [p_r r7]) (rest := []) [p_i r21] mt_Reading_read rfl rfl tw_4_236 tw_4_237 tw_4_235 ⟨Nat.le_of_ble_eq_true rfl, Nat.le_of_ble_eq_true rfl⟩ rfl (Nat.le_of_ble_eq_true rfl) (dk_Step_scan 24 rfl) rfl c16 rfl t19 ?_
        have hs20 : p_x s14 s17 := t19.1
        show p_Go K l m_Step_scan 48 [(3, p_r r7), (0, p_r v0), (1, p_i v1), (2, p_r v2)] [p_i r21] s17 _
        refine g_istore [(4, p_i r21), (3, p_r r7), (0, p_r v0), (1, p_i v1), (2, p_r v2)] (dk_Step_scan 25 rfl) (by decide) rfl ?_
        refine g_iload (j := 0) (dk_Step_scan 26 rfl) rfl ?_
        refine g_if_eq 69 (dk_Step_scan 27 rfl) (by decide) (fun b22 => ?_) (fun b22 => ?_)
        · have h := p_ifT b22 h
          refine g_aload_n (i := 0) (j := 2) (dk_Step_scan 37 rfl) rfl rfl ?_
          refine g_getR fl_Step_12 (Or.inl ⟨_, rfl⟩) (dk_Step_scan 38 rfl) (c1.up (hs6.trans (hs13.trans (hs15.trans hs20)))) ?_
          obtain ⟨c23, h⟩ := p_gdE h
          refine g_getI fl_Step_266 (Or.inr rfl) (dk_Step_scan 39 rfl) c23 ?_
          refine g_if_ne 110 (dk_Step_scan 40 rfl) (by decide) (fun b24 => ?_) (fun b24 => ?_)
          · have h := p_ifT b24 h
            refine g_iconst (dk_Step_scan 56 rfl) (by decide) ?_
            cases h
            exact g_ret rfl rfl (dk_Step_scan 57 rfl) (fun _ => ⟨_, rfl, Or.inr rfl⟩)
          · have h := p_ifF b24 h
            refine g_aload_n (i := 2) (j := 4) (dk_Step_scan 41 rfl) rfl rfl ?_
            obtain ⟨c25, h⟩ := p_gdE h
            refine g_getI fl_Step_97 (Or.inl rfl) (dk_Step_scan 42 rfl) c25 ?_
            refine g_iconst (dk_Step_scan 43 rfl) (by decide) ?_
            refine g_icmp_ne 101 (dk_Step_scan 44 rfl) (by decide) (fun b26 => ?_) (fun b26 => ?_)
            · have h := p_ifT b26 h
              refine g_sub [(0, p_r v0), (1, p_i v1), (3, p_r r7)] [2, 3, 1] rfl ?_
              exact tB_Step_scan_101 K l v0 v1 r7 s17 _ h
            · have h := p_ifF b26 h
              refine g_aload_n (i := 0) (j := 2) (dk_Step_scan 45 rfl) rfl rfl ?_
              refine g_getR fl_Step_12 (Or.inl ⟨_, rfl⟩) (dk_Step_scan 46 rfl) (c1.up (hs6.trans (hs13.trans (hs15.trans hs20)))) ?_
              refine g_getI fl_Step_269 (Or.inl rfl) (dk_Step_scan 47 rfl) c23 ?_
              refine g_aload_n (i := 3) (j := 1) (dk_Step_scan 48 rfl) rfl rfl ?_
              refine g_getI fl_Step_272 (Or.inl rfl) (dk_Step_scan 49 rfl) (c9.up (hs13.trans (hs15.trans hs20))) ?_
              refine g_icmp_ne 110 (dk_Step_scan 50 rfl) (by decide) (fun b27 => ?_) (fun b27 => ?_)
              · have h := p_ifT b27 h
                refine g_iconst (dk_Step_scan 56 rfl) (by decide) ?_
                cases h
                exact g_ret rfl rfl (dk_Step_scan 57 rfl) (fun _ => ⟨_, rfl, Or.inr rfl⟩)
              · have h := p_ifF b27 h
                refine g_sub [(0, p_r v0), (1, p_i v1), (3, p_r r7)] [2, 3, 1] rfl ?_
                exact tB_Step_scan_101 K l v0 v1 r7 s17 _ h
        · have h := p_ifF b22 h
          refine g_aload_n (i := 0) (j := 2) (dk_Step_scan 28 rfl) rfl rfl ?_
          refine g_iload_n (i := 1) (j := 3) (dk_Step_scan 29 rfl) rfl rfl ?_
          refine g_iconst (dk_Step_scan 30 rfl) (by decide) ?_
          refine g_iload (j := 0) (dk_Step_scan 31 rfl) rfl ?_
          refine g_aload_n (i := 3) (j := 1) (dk_Step_scan 32 rfl) rfl rfl ?_
          refine g_getI fl_Step_263 (Or.inl rfl) (dk_Step_scan 33 rfl) (c9.up (hs13.trans (hs15.trans hs20))) ?_
          obtain ⟨s28, q29, h⟩ := p_bvE h
          have t30 := tF_Step_addFinding K l v0 v1 2 r21 (p_Z s17 r7 1) s17 _ q29
          refine g_callV (a := v0) (ci := 8) (q0 := (RX8, TX8, 5)) (As := [p_i v1, p_i 2, p_i r21, p_i (p_Z s17 r7 1)]) (rest := []) [] mt_Step_addFinding rfl rfl tw_4_181 ts_16 tw_4_179 ⟨Nat.le_of_ble_eq_true rfl, Nat.le_of_ble_eq_true rfl⟩ rfl (Nat.le_of_ble_eq_true rfl) (dk_Step_scan 34 rfl) rfl (c1.up (hs6.trans (hs13.trans (hs15.trans hs20)))) rfl t30 ?_
          have hs31 : p_x s17 s28 := t30.1
          show p_Go K l m_Step_scan 67 [(4, p_i r21), (3, p_r r7), (0, p_r v0), (1, p_i v1), (2, p_r v2)] [] s28 _
          refine g_iconst (dk_Step_scan 35 rfl) (by decide) ?_
          cases h
          exact g_ret rfl rfl (dk_Step_scan 36 rfl) (fun _ => ⟨_, rfl, Or.inl rfl⟩)
      · have h := p_ifF b11 h
        refine g_iconst (dk_Step_scan 13 rfl) (by decide) ?_
        cases h
        exact g_ret rfl rfl (dk_Step_scan 14 rfl) (fun _ => ⟨_, rfl, Or.inr rfl⟩)
def m_Step_setDial : p_Me := (⟨"SortWorks$Step", "setDial", "(ILSortWorks$Gear;)V"⟩, prog_10_method_16_code, 7, none, 2, 50)
theorem mt_Step_setDial : p_Mt m_Step_setDial 2 := ⟨p_mem (p_tb5 (List.mem_of_getElem? (i := 75) rfl)) rfl, tw_1_9, by decide +kernel, by decide +kernel, by decide +kernel⟩
def dt_Step_setDial : List (Nat × Instr × Nat) := [(0, .iconst 0, 1), (1, .istore_n 3, 1), (2, .aload_n 2, 1), (3, .getfield 247, 3), (6, .iconst (-1), 1), (7, .if_icmp .ne 7, 3), (10, .iconst 1, 1), (11, .goto 7, 3), (14, .aload_n 2, 1), (15, .getfield 247, 3), (18, .istore 4, 2), (20, .iconst 0, 1), (21, .istore 5, 2), (23, .iload 5, 2), (25, .iload 4, 2), (27, .if_icmp .ge 53, 3), (30, .aload_n 0, 1), (31, .getfield 18, 3), (34, .aload_n 2, 1), (35, .iload 5, 2), (37, .invokevirtual 170, 3), (40, .istore 6, 2), (42, .iload 6, 2), (44, .ifCond .ge 14, 3), (47, .aload_n 0, 1), (48, .iload_n 1, 1), (49, .iconst 4, 1), (50, .iload 6, 2), (52, .iload 5, 2), (54, .invokevirtual 125, 3), (57, .return_, 1), (58, .iload_n 3, 1), (59, .aload_n 0, 1), (60, .getfield 28, 3), (63, .getfield 82, 3), (66, .iload 6, 2), (68, .aaload, 1), (69, .invokevirtual 148, 3), (72, .iadd, 1), (73, .istore_n 3, 1), (74, .iinc 5 1, 3), (77, .goto (-54), 3), (80, .aload_n 2, 1), (81, .iload_n 3, 1), (82, .putfield 250, 3), (85, .return_, 1)]
theorem dk_Step_setDial (i : Nat) {pc : Nat} {ins : Instr} {len : Nat} (h : dt_Step_setDial[i]? = some (pc, ins, len)) : decode m_Step_setDial.2.1 pc = .ok (ins, len) := p_dk (b := m_Step_setDial.2.1) (t := dt_Step_setDial) (by decide +kernel) i h
def L_Step_setDial_23 (k23 : Nat → Int → Nat → Int → Int → Int → p_Hp → Option p_Hp) (v0 : Nat) (v1 : Int) (v2 : Nat) (v3 : Int) (v4 : Int) (v5 : Int) (s0 : p_Hp) : Option p_Hp :=
  if v4 ≤ v5 then
    p_gd (p_is s0 v2 0) <|
    p_bi (p_wZ s0 v2 16 v3) fun s3 =>
    some s3
  else
    p_gd (p_is s0 v0 8) <|
    p_gd (p_is s0 (p_R s0 v0 2) 9) <|
    p_bd (F_Works_follow (p_R s0 v0 2) v2 v5 s0) fun r11 s7 =>
    if 0 ≤ r11 then
      p_gd (p_is s7 (p_R s7 v0 3) 7) <|
      p_gd (p_is s7 (p_R s7 (p_R s7 v0 3) 4) 105) <|
      p_gd ((0 : Int) ≤ r11 ∧ r11 < (p_L s7 (p_R s7 (p_R s7 v0 3) 4) : Int)) <|
      p_gd (p_is s7 (p_R s7 (p_R s7 (p_R s7 v0 3) 4) (r11 : Int).toNat) 0) <|
      p_bd (F_Gear_parcels (p_R s7 (p_R s7 (p_R s7 v0 3) 4) (r11 : Int).toNat) s7) fun r21 s17 =>
      p_bi ((p_w (v3 + r21))) fun x22 =>
      p_bi (p_w (v5 + 1)) fun x23 =>
      k23 v0 v1 v2 x22 v4 x23 s17
    else
      p_bv (F_Step_addFinding v0 v1 4 r11 v5 s7) fun s24 =>
      some s24
def O_Step_setDial_23  : Nat → Nat → Int → Nat → Int → Int → Int → p_Hp → Option p_Hp
  | 0 => fun _ _ _ _ _ _ _ => none
  | n + 1 => L_Step_setDial_23 (O_Step_setDial_23 n)
def B_Step_setDial_18  (v0 : Nat) (v1 : Int) (v2 : Nat) (v3 : Int) (w0 : Int) (s0 : p_Hp) : Option p_Hp :=
  O_Step_setDial_23 3000 v0 v1 v2 v3 w0 0 s0
def F_Step_setDial (v0 : Nat) (v1 : Int) (v2 : Nat) (s0 : p_Hp) : Option p_Hp :=
  p_gd (p_is s0 v2 0) <|
  if (p_Z s0 v2 3) ≠ (-1) then
    B_Step_setDial_18 v0 v1 v2 0 (p_Z s0 v2 3) s0
  else
    B_Step_setDial_18 v0 v1 v2 0 1 s0
set_option maxRecDepth 100000 in
set_option maxHeartbeats 4000000 in
theorem tL_Step_setDial_23 (K : p_K) (l : Launch) (k23 : Nat → Int → Nat → Int → Int → Int → p_Hp → Option p_Hp) (hk23 : ∀ (v0 : Nat) (v1 : Int) (v2 : Nat) (v3 : Int) (v4 : Int) (v5 : Int)  (s0 : p_Hp) (r : p_Hp), k23 v0 v1 v2 v3 v4 v5 s0 = some r → p_Go K l m_Step_setDial 23 [(0, p_r v0), (1, p_i v1), (2, p_r v2), (3, p_i v3), (4, p_i v4), (5, p_i v5)] [] s0 (none, r)) (v0 : Nat) (v1 : Int) (v2 : Nat) (v3 : Int) (v4 : Int) (v5 : Int) (s0 : p_Hp) (r : p_Hp) (h : L_Step_setDial_23 k23 v0 v1 v2 v3 v4 v5 s0 = some r) : p_Go K l m_Step_setDial 23 [(0, p_r v0), (1, p_i v1), (2, p_r v2), (3, p_i v3), (4, p_i v4), (5, p_i v5)] [] s0 (none, r) := by
  unfold L_Step_setDial_23 at h
  refine g_iload (j := 5) (dk_Step_setDial 13 rfl) rfl ?_
  refine g_iload (j := 4) (dk_Step_setDial 14 rfl) rfl ?_
  refine g_icmp_ge 80 (dk_Step_setDial 15 rfl) (by decide) (fun b1 => ?_) (fun b1 => ?_)
  · have h := p_ifT b1 h
    refine g_aload_n (i := 2) (j := 2) (dk_Step_setDial 42 rfl) rfl rfl ?_
    refine g_iload_n (i := 3) (j := 3) (dk_Step_setDial 43 rfl) rfl rfl ?_
    obtain ⟨c2, h⟩ := p_gdE h
    refine g_putI fl_Step_250 (Or.inl rfl) (dk_Step_setDial 44 rfl) c2 ?_
    refine p_ltS (P := fun q => p_Go K l m_Step_setDial 85 [(0, p_r v0), (1, p_i v1), (2, p_r v2), (3, p_i v3), (4, p_i v4), (5, p_i v5)] [] q _) (p_xZ _ _ _ _) ?_ h
    intro s3 hs4 h
    cases h
    exact g_ret rfl rfl (dk_Step_setDial 45 rfl) (fun _ => rfl)
  · have h := p_ifF b1 h
    refine g_aload_n (i := 0) (j := 0) (dk_Step_setDial 16 rfl) rfl rfl ?_
    obtain ⟨c5, h⟩ := p_gdE h
    refine g_getR fl_Step_18 (Or.inl ⟨_, rfl⟩) (dk_Step_setDial 17 rfl) c5 ?_
    refine g_aload_n (i := 2) (j := 2) (dk_Step_setDial 18 rfl) rfl rfl ?_
    refine g_iload (j := 5) (dk_Step_setDial 19 rfl) rfl ?_
    obtain ⟨c6, h⟩ := p_gdE h
    obtain ⟨r11, s7, q8, h⟩ := p_bdE h
    have t9 := tF_Works_follow K l (p_R s0 v0 2) v2 v5 s0 _ q8
    refine g_callV (a := (p_R s0 v0 2)) (ci := 9) (q0 := (RX9, TX9, 15)) (As := [p_r v2, p_i v5]) (rest := []) [p_i r11] mt_Works_follow rfl rfl tw_4_213 tw_4_214 tw_4_212 ⟨Nat.le_of_ble_eq_true rfl, Nat.le_of_ble_eq_true rfl⟩ rfl (Nat.le_of_ble_eq_true rfl) (dk_Step_setDial 20 rfl) rfl c6 rfl t9 ?_
    have hs10 : p_x s0 s7 := t9.1
    show p_Go K l m_Step_setDial 40 [(0, p_r v0), (1, p_i v1), (2, p_r v2), (3, p_i v3), (4, p_i v4), (5, p_i v5)] [p_i r11] s7 _
    refine g_istore [(6, p_i r11), (0, p_r v0), (1, p_i v1), (2, p_r v2), (3, p_i v3), (4, p_i v4), (5, p_i v5)] (dk_Step_setDial 21 rfl) (by decide) rfl ?_
    refine g_iload (j := 0) (dk_Step_setDial 22 rfl) rfl ?_
    refine g_if_ge 58 (dk_Step_setDial 23 rfl) (by decide) (fun b12 => ?_) (fun b12 => ?_)
    · have h := p_ifT b12 h
      refine g_iload_n (i := 3) (j := 4) (dk_Step_setDial 31 rfl) rfl rfl ?_
      refine g_aload_n (i := 0) (j := 1) (dk_Step_setDial 32 rfl) rfl rfl ?_
      refine g_getR fl_Step_28 (Or.inl ⟨_, rfl⟩) (dk_Step_setDial 33 rfl) (c5.up hs10) ?_
      obtain ⟨c13, h⟩ := p_gdE h
      refine g_getR fl_Step_82 (Or.inr ⟨_, rfl⟩) (dk_Step_setDial 34 rfl) c13 ?_
      refine g_iload (j := 0) (dk_Step_setDial 35 rfl) rfl ?_
      obtain ⟨c14, h⟩ := p_gdE h
      obtain ⟨c15, h⟩ := p_gdE h
      refine g_aaload (i := 5) rfl (Or.inl ⟨_, rfl⟩) (dk_Step_setDial 36 rfl) c14 c15.1 c15.2 ?_
      obtain ⟨c16, h⟩ := p_gdE h
      obtain ⟨r21, s17, q18, h⟩ := p_bdE h
      have t19 := tF_Gear_parcels K l (p_R s7 (p_R s7 (p_R s7 v0 3) 4) (r11 : Int).toNat) s7 _ q18
      refine g_callV (a := (p_R s7 (p_R s7 (p_R s7 v0 3) 4) (r11 : Int).toNat)) (ci := 0) (q0 := (RX0, TX0, 20)) (As := []) (rest := [p_i v3]) [p_i r21, p_i v3] mt_Gear_parcels rfl rfl tw_3_151 tw_3_152 tw_4_177 ⟨Nat.le_of_ble_eq_true rfl, Nat.le_of_ble_eq_true rfl⟩ rfl (Nat.le_of_ble_eq_true rfl) (dk_Step_setDial 37 rfl) rfl c16 rfl t19 ?_
      have hs20 : p_x s7 s17 := t19.1
      show p_Go K l m_Step_setDial 72 [(6, p_i r11), (0, p_r v0), (1, p_i v1), (2, p_r v2), (3, p_i v3), (4, p_i v4), (5, p_i v5)] [p_i r21, p_i v3] s17 _
      refine g_iadd (dk_Step_setDial 38 rfl) ?_
      refine g_istore_n (i := 3) [(3, p_i (p_w (v3 + r21))), (6, p_i r11), (0, p_r v0), (1, p_i v1), (2, p_r v2), (4, p_i v4), (5, p_i v5)] (dk_Step_setDial 39 rfl) rfl (by decide) rfl ?_
      refine p_ltG (P := fun q => p_Go K l m_Step_setDial 74 [(3, p_i q), (6, p_i r11), (0, p_r v0), (1, p_i v1), (2, p_r v2), (4, p_i v4), (5, p_i v5)] [] s17 _) ?_ h
      intro x22 h
      refine g_iinc (j := 6) [(5, p_i (p_w (v5 + 1))), (3, p_i x22), (6, p_i r11), (0, p_r v0), (1, p_i v1), (2, p_r v2), (4, p_i v4)] (dk_Step_setDial 40 rfl) rfl (by decide) rfl ?_
      refine p_ltG (P := fun q => p_Go K l m_Step_setDial 77 [(5, p_i q), (3, p_i x22), (6, p_i r11), (0, p_r v0), (1, p_i v1), (2, p_r v2), (4, p_i v4)] [] s17 _) ?_ h
      intro x23 h
      refine g_goto 23 (dk_Step_setDial 41 rfl) (by decide) ?_
      refine g_sub [(0, p_r v0), (1, p_i v1), (2, p_r v2), (3, p_i x22), (4, p_i v4), (5, p_i x23)] [3, 4, 5, 1, 6, 0] rfl ?_
      exact hk23 v0 v1 v2 x22 v4 x23 s17 _ h
    · have h := p_ifF b12 h
      refine g_aload_n (i := 0) (j := 1) (dk_Step_setDial 24 rfl) rfl rfl ?_
      refine g_iload_n (i := 1) (j := 2) (dk_Step_setDial 25 rfl) rfl rfl ?_
      refine g_iconst (dk_Step_setDial 26 rfl) (by decide) ?_
      refine g_iload (j := 0) (dk_Step_setDial 27 rfl) rfl ?_
      refine g_iload (j := 6) (dk_Step_setDial 28 rfl) rfl ?_
      obtain ⟨s24, q25, h⟩ := p_bvE h
      have t26 := tF_Step_addFinding K l v0 v1 4 r11 v5 s7 _ q25
      refine g_callV (a := v0) (ci := 8) (q0 := (RX8, TX8, 5)) (As := [p_i v1, p_i 4, p_i r11, p_i v5]) (rest := []) [] mt_Step_addFinding rfl rfl tw_4_181 ts_16 tw_4_179 ⟨Nat.le_of_ble_eq_true rfl, Nat.le_of_ble_eq_true rfl⟩ rfl (Nat.le_of_ble_eq_true rfl) (dk_Step_setDial 29 rfl) rfl (c5.up hs10) rfl t26 ?_
      have hs27 : p_x s7 s24 := t26.1
      show p_Go K l m_Step_setDial 57 [(6, p_i r11), (0, p_r v0), (1, p_i v1), (2, p_r v2), (3, p_i v3), (4, p_i v4), (5, p_i v5)] [] s24 _
      cases h
      exact g_ret rfl rfl (dk_Step_setDial 30 rfl) (fun _ => rfl)
set_option maxRecDepth 100000 in
set_option maxHeartbeats 4000000 in
theorem tO_Step_setDial_23 (K : p_K) (l : Launch)  : ∀ (n : Nat) (v0 : Nat) (v1 : Int) (v2 : Nat) (v3 : Int) (v4 : Int) (v5 : Int) (s0 : p_Hp) (r : p_Hp), O_Step_setDial_23 n v0 v1 v2 v3 v4 v5 s0 = some r → p_Go K l m_Step_setDial 23 [(0, p_r v0), (1, p_i v1), (2, p_r v2), (3, p_i v3), (4, p_i v4), (5, p_i v5)] [] s0 (none, r) := by
  intro n
  induction n with
  | zero => intro v0 v1 v2 v3 v4 v5 s0 r h; cases (show (none : Option p_Hp) = some r from h)
  | succ n ih => intro v0 v1 v2 v3 v4 v5 s0 r h; exact tL_Step_setDial_23 K l _ ih v0 v1 v2 v3 v4 v5 s0 r h
set_option maxRecDepth 100000 in
set_option maxHeartbeats 4000000 in
theorem tB_Step_setDial_18 (K : p_K) (l : Launch)  (v0 : Nat) (v1 : Int) (v2 : Nat) (v3 : Int) (w0 : Int) (s0 : p_Hp) (r : p_Hp) (h : B_Step_setDial_18 v0 v1 v2 v3 w0 s0 = some r) : p_Go K l m_Step_setDial 18 [(0, p_r v0), (1, p_i v1), (2, p_r v2), (3, p_i v3)] [p_i w0] s0 (none, r) := by
  unfold B_Step_setDial_18 at h
  refine g_istore [(4, p_i w0), (0, p_r v0), (1, p_i v1), (2, p_r v2), (3, p_i v3)] (dk_Step_setDial 10 rfl) (by decide) rfl ?_
  refine g_iconst (dk_Step_setDial 11 rfl) (by decide) ?_
  refine g_istore [(5, p_i 0), (4, p_i w0), (0, p_r v0), (1, p_i v1), (2, p_r v2), (3, p_i v3)] (dk_Step_setDial 12 rfl) (by decide) rfl ?_
  refine g_sub [(0, p_r v0), (1, p_i v1), (2, p_r v2), (3, p_i v3), (4, p_i w0), (5, p_i 0)] [2, 3, 4, 5, 1, 0] rfl ?_
  exact tO_Step_setDial_23 K l 3000 v0 v1 v2 v3 w0 0 s0 _ h
set_option maxRecDepth 100000 in
set_option maxHeartbeats 4000000 in
theorem tF_Step_setDial (K : p_K) (l : Launch) (v0 : Nat) (v1 : Int) (v2 : Nat) (s0 : p_Hp) (r : p_Hp) (h : F_Step_setDial v0 v1 v2 s0 = some r) : p_Ct K l m_Step_setDial [p_r v0, p_i v1, p_r v2] s0 (none, r) := by
  refine p_Ct.of (by decide +kernel) (Nat.le_of_ble_eq_true rfl) ?_
  unfold F_Step_setDial at h
  show p_Go K l m_Step_setDial 0 [(0, p_r v0), (1, p_i v1), (2, p_r v2)] [] s0 _
  refine g_iconst (dk_Step_setDial 0 rfl) (by decide) ?_
  refine g_istore_n (i := 3) [(3, p_i 0), (0, p_r v0), (1, p_i v1), (2, p_r v2)] (dk_Step_setDial 1 rfl) rfl (by decide) rfl ?_
  refine g_aload_n (i := 2) (j := 3) (dk_Step_setDial 2 rfl) rfl rfl ?_
  obtain ⟨c1, h⟩ := p_gdE h
  refine g_getI fl_Step_247 (Or.inl rfl) (dk_Step_setDial 3 rfl) c1 ?_
  refine g_iconst (dk_Step_setDial 4 rfl) (by decide) ?_
  refine g_icmp_ne 14 (dk_Step_setDial 5 rfl) (by decide) (fun b2 => ?_) (fun b2 => ?_)
  · have h := p_ifT b2 h
    refine g_aload_n (i := 2) (j := 3) (dk_Step_setDial 8 rfl) rfl rfl ?_
    refine g_getI fl_Step_247 (Or.inl rfl) (dk_Step_setDial 9 rfl) c1 ?_
    refine g_sub [(0, p_r v0), (1, p_i v1), (2, p_r v2), (3, p_i 0)] [1, 2, 3, 0] rfl ?_
    exact tB_Step_setDial_18 K l v0 v1 v2 0 (p_Z s0 v2 3) s0 _ h
  · have h := p_ifF b2 h
    refine g_iconst (dk_Step_setDial 6 rfl) (by decide) ?_
    refine g_goto 18 (dk_Step_setDial 7 rfl) (by decide) ?_
    refine g_sub [(0, p_r v0), (1, p_i v1), (2, p_r v2), (3, p_i 0)] [1, 2, 3, 0] rfl ?_
    exact tB_Step_setDial_18 K l v0 v1 v2 0 1 s0 _ h
def m_Step_act : p_Me := (⟨"SortWorks$Step", "act", "(I)V"⟩, prog_10_method_13_code, 4, none, 5, 122)
theorem mt_Step_act : p_Mt m_Step_act 1 := ⟨p_mem (p_tb4 (List.mem_of_getElem? (i := 223) rfl)) rfl, tw_1_9, by decide +kernel, by decide +kernel, by decide +kernel⟩
def dt_Step_act : List (Nat × Instr × Nat) := [(0, .aload_n 0, 1), (1, .getfield 28, 3), (4, .getfield 82, 3), (7, .iload_n 1, 1), (8, .aaload, 1), (9, .astore_n 2, 1), (10, .aload_n 0, 1), (11, .iconst 0, 1), (12, .putfield 106, 3), (15, .iconst 3, 1), (16, .aload_n 2, 1), (17, .getfield 97, 3), (20, .imul, 1), (21, .istore_n 3, 1), (22, .iload_n 3, 1), (23, .iconst 3, 1), (24, .aload_n 2, 1), (25, .getfield 97, 3), (28, .iconst 1, 1), (29, .iadd, 1), (30, .imul, 1), (31, .if_icmp .ge 26, 3), (34, .getstatic 194, 3), (37, .iload_n 3, 1), (38, .iaload, 1), (39, .ifCond .eq 12, 3), (42, .aload_n 0, 1), (43, .getstatic 194, 3), (46, .iload_n 3, 1), (47, .iaload, 1), (48, .invokevirtual 197, 3), (51, .iinc 3 1, 3), (54, .goto (-32), 3), (57, .aload_n 2, 1), (58, .invokevirtual 178, 3), (61, .ifCond .eq 40, 3), (64, .aload_n 2, 1), (65, .invokevirtual 200, 3), (68, .ifCond .eq 12, 3), (71, .aload_n 0, 1), (72, .iload_n 1, 1), (73, .aload_n 2, 1), (74, .invokevirtual 203, 3), (77, .ifCond .eq 7, 3), (80, .iconst 1, 1), (81, .goto 4, 3), (84, .iconst 0, 1), (85, .istore_n 3, 1), (86, .aload_n 0, 1), (87, .iload_n 1, 1), (88, .aload_n 2, 1), (89, .iload_n 3, 1), (90, .invokevirtual 206, 3), (93, .aload_n 0, 1), (94, .aload_n 2, 1), (95, .invokevirtual 210, 3), (98, .goto 18, 3), (101, .aload_n 2, 1), (102, .getfield 97, 3), (105, .bipush 10, 2), (107, .if_icmp .ne 9, 3), (110, .aload_n 0, 1), (111, .iload_n 1, 1), (112, .aload_n 2, 1), (113, .invokevirtual 214, 3), (116, .aload_n 2, 1), (117, .dup, 1), (118, .getfield 218, 3), (121, .iconst 1, 1), (122, .iadd, 1), (123, .putfield 218, 3), (126, .aload_n 2, 1), (127, .aload_n 0, 1), (128, .aload_n 2, 1), (129, .invokevirtual 221, 3), (132, .putfield 225, 3), (135, .return_, 1)]
theorem dk_Step_act (i : Nat) {pc : Nat} {ins : Instr} {len : Nat} (h : dt_Step_act[i]? = some (pc, ins, len)) : decode m_Step_act.2.1 pc = .ok (ins, len) := p_dk (b := m_Step_act.2.1) (t := dt_Step_act) (by decide +kernel) i h
def B_Step_act_51 (k22 : Nat → Int → Nat → Int → p_Hp → Option p_Hp) (v0 : Nat) (v1 : Int) (v2 : Nat) (v3 : Int) (s0 : p_Hp) : Option p_Hp :=
  p_bi (p_w (v3 + 1)) fun x1 =>
  k22 v0 v1 v2 x1 s0
def B_Step_act_116  (v0 : Nat) (v2 : Nat) (s0 : p_Hp) : Option p_Hp :=
  p_gd (p_is s0 v2 0) <|
  p_bi (p_wZ s0 v2 13 (p_w ((p_Z s0 v2 13) + 1))) fun s2 =>
  p_gd (p_is s2 v0 8) <|
  p_bd (F_Step_lampOf v0 v2 s2) fun r9 s5 =>
  p_bi (p_wZ s5 v2 9 r9) fun s10 =>
  some s10
def B_Step_act_85  (v0 : Nat) (v1 : Int) (v2 : Nat) (w0 : Int) (s0 : p_Hp) : Option p_Hp :=
  p_gd (p_is s0 v0 8) <|
  p_bv (F_Step_passOn v0 v1 v2 w0 s0) fun s2 =>
  p_bv (F_Step_moveUp v0 v2 s2) fun s6 =>
  B_Step_act_116 v0 v2 s6
def B_Step_act_80  (v0 : Nat) (v1 : Int) (v2 : Nat) (s0 : p_Hp) : Option p_Hp :=
  B_Step_act_85 v0 v1 v2 1 s0
def L_Step_act_22 (k22 : Nat → Int → Nat → Int → p_Hp → Option p_Hp) (v0 : Nat) (v1 : Int) (v2 : Nat) (v3 : Int) (s0 : p_Hp) : Option p_Hp :=
  p_gd (p_is s0 v2 0) <|
  if (p_w (3 * (p_w ((p_Z s0 v2 0) + 1)))) ≤ v3 then
    p_bd (F_Gear_isTaker v2 s0) fun r7 s3 =>
    if r7 = 0 then
      if (p_Z s3 v2 0) ≠ 10 then
        B_Step_act_116 v0 v2 s3
      else
        p_gd (p_is s3 v0 8) <|
        p_bv (F_Step_setDial v0 v1 v2 s3) fun s11 =>
        B_Step_act_116 v0 v2 s11
    else
      p_bd (F_Gear_isScanner v2 s3) fun r19 s15 =>
      if r19 = 0 then
        B_Step_act_80 v0 v1 v2 s15
      else
        p_gd (p_is s15 v0 8) <|
        p_bd (F_Step_scan v0 v1 v2 s15) fun r26 s22 =>
        if r26 = 0 then
          B_Step_act_85 v0 v1 v2 0 s22
        else
          B_Step_act_80 v0 v1 v2 s22
  else
    p_gd ((0 : Int) ≤ v3 ∧ v3 < (sw_tl 3 : Int)) <|
    if (sw_tab 3 (v3 : Int).toNat) = 0 then
      B_Step_act_51 k22 v0 v1 v2 v3 s0
    else
      p_gd ((0 : Int) ≤ v3 ∧ v3 < (sw_tl 3 : Int)) <|
      p_gd (p_is s0 v0 8) <|
      p_bv (F_Step_addTrace v0 (sw_tab 3 (v3 : Int).toNat) s0) fun s32 =>
      B_Step_act_51 k22 v0 v1 v2 v3 s32
def O_Step_act_22  : Nat → Nat → Int → Nat → Int → p_Hp → Option p_Hp
  | 0 => fun _ _ _ _ _ => none
  | n + 1 => L_Step_act_22 (O_Step_act_22 n)
def F_Step_act (v0 : Nat) (v1 : Int) (s0 : p_Hp) : Option p_Hp :=
  p_gd (p_is s0 v0 8) <|
  p_gd (p_is s0 (p_R s0 v0 3) 7) <|
  p_gd (p_is s0 (p_R s0 (p_R s0 v0 3) 4) 105) <|
  p_gd ((0 : Int) ≤ v1 ∧ v1 < (p_L s0 (p_R s0 (p_R s0 v0 3) 4) : Int)) <|
  p_bi ((p_R s0 (p_R s0 (p_R s0 v0 3) 4) (v1 : Int).toNat)) fun x5 =>
  p_bi (p_wZ s0 v0 4 0) fun s6 =>
  p_gd (p_is s6 x5 0) <|
  p_bi ((p_w (3 * (p_Z s6 x5 0)))) fun x9 =>
  O_Step_act_22 3000 v0 v1 x5 x9 s6
set_option maxRecDepth 100000 in
set_option maxHeartbeats 4000000 in
theorem tB_Step_act_51 (K : p_K) (l : Launch) (k22 : Nat → Int → Nat → Int → p_Hp → Option p_Hp) (hk22 : ∀ (v0 : Nat) (v1 : Int) (v2 : Nat) (v3 : Int)  (s0 : p_Hp) (r : p_Hp), k22 v0 v1 v2 v3 s0 = some r → p_Go K l m_Step_act 22 [(0, p_r v0), (1, p_i v1), (2, p_r v2), (3, p_i v3)] [] s0 (none, r)) (v0 : Nat) (v1 : Int) (v2 : Nat) (v3 : Int) (s0 : p_Hp) (r : p_Hp) (h : B_Step_act_51 k22 v0 v1 v2 v3 s0 = some r) : p_Go K l m_Step_act 51 [(0, p_r v0), (1, p_i v1), (2, p_r v2), (3, p_i v3)] [] s0 (none, r) := by
  unfold B_Step_act_51 at h
  refine g_iinc (j := 3) [(3, p_i (p_w (v3 + 1))), (0, p_r v0), (1, p_i v1), (2, p_r v2)] (dk_Step_act 31 rfl) rfl (by decide) rfl ?_
  refine p_ltG (P := fun q => p_Go K l m_Step_act 54 [(3, p_i q), (0, p_r v0), (1, p_i v1), (2, p_r v2)] [] s0 _) ?_ h
  intro x1 h
  refine g_goto 22 (dk_Step_act 32 rfl) (by decide) ?_
  refine g_sub [(0, p_r v0), (1, p_i v1), (2, p_r v2), (3, p_i x1)] [1, 2, 3, 0] rfl ?_
  exact hk22 v0 v1 v2 x1 s0 _ h
set_option maxRecDepth 100000 in
set_option maxHeartbeats 4000000 in
theorem tB_Step_act_116 (K : p_K) (l : Launch)  (v0 : Nat) (v2 : Nat) (s0 : p_Hp) (r : p_Hp) (h : B_Step_act_116 v0 v2 s0 = some r) : p_Go K l m_Step_act 116 [(0, p_r v0), (2, p_r v2)] [] s0 (none, r) := by
  unfold B_Step_act_116 at h
  refine g_aload_n (i := 2) (j := 1) (dk_Step_act 65 rfl) rfl rfl ?_
  refine g_dup (dk_Step_act 66 rfl) rfl ?_
  obtain ⟨c1, h⟩ := p_gdE h
  refine g_getI fl_Step_218 (Or.inl rfl) (dk_Step_act 67 rfl) c1 ?_
  refine g_iconst (dk_Step_act 68 rfl) (by decide) ?_
  refine g_iadd (dk_Step_act 69 rfl) ?_
  refine g_putI fl_Step_218 (Or.inl rfl) (dk_Step_act 70 rfl) c1 ?_
  refine p_ltS (P := fun q => p_Go K l m_Step_act 126 [(0, p_r v0), (2, p_r v2)] [] q _) (p_xZ _ _ _ _) ?_ h
  intro s2 hs3 h
  refine g_aload_n (i := 2) (j := 1) (dk_Step_act 71 rfl) rfl rfl ?_
  refine g_aload_n (i := 0) (j := 0) (dk_Step_act 72 rfl) rfl rfl ?_
  refine g_aload_n (i := 2) (j := 1) (dk_Step_act 73 rfl) rfl rfl ?_
  obtain ⟨c4, h⟩ := p_gdE h
  obtain ⟨r9, s5, q6, h⟩ := p_bdE h
  have t7 := tF_Step_lampOf K l v0 v2 s2 _ q6
  refine g_callV (a := v0) (ci := 8) (q0 := (RX8, TX8, 5)) (As := [p_r v2]) (rest := [p_r v2]) [p_i r9, p_r v2] mt_Step_lampOf rfl rfl tw_5_78 ts_38 tw_5_76 ⟨Nat.le_of_ble_eq_true rfl, Nat.le_of_ble_eq_true rfl⟩ rfl (Nat.le_of_ble_eq_true rfl) (dk_Step_act 74 rfl) rfl c4 rfl t7 ?_
  have hs8 : p_x s2 s5 := t7.1
  show p_Go K l m_Step_act 132 [(0, p_r v0), (2, p_r v2)] [p_i r9, p_r v2] s5 _
  refine g_putI fl_Step_225 (Or.inl rfl) (dk_Step_act 75 rfl) (c1.up (hs3.trans hs8)) ?_
  refine p_ltS (P := fun q => p_Go K l m_Step_act 135 [(0, p_r v0), (2, p_r v2)] [] q _) (p_xZ _ _ _ _) ?_ h
  intro s10 hs11 h
  cases h
  exact g_ret rfl rfl (dk_Step_act 76 rfl) (fun _ => rfl)
set_option maxRecDepth 100000 in
set_option maxHeartbeats 4000000 in
theorem tB_Step_act_85 (K : p_K) (l : Launch)  (v0 : Nat) (v1 : Int) (v2 : Nat) (w0 : Int) (s0 : p_Hp) (r : p_Hp) (h : B_Step_act_85 v0 v1 v2 w0 s0 = some r) : p_Go K l m_Step_act 85 [(0, p_r v0), (1, p_i v1), (2, p_r v2)] [p_i w0] s0 (none, r) := by
  unfold B_Step_act_85 at h
  refine g_istore_n (i := 3) [(3, p_i w0), (0, p_r v0), (1, p_i v1), (2, p_r v2)] (dk_Step_act 47 rfl) rfl (by decide) rfl ?_
  refine g_aload_n (i := 0) (j := 1) (dk_Step_act 48 rfl) rfl rfl ?_
  refine g_iload_n (i := 1) (j := 2) (dk_Step_act 49 rfl) rfl rfl ?_
  refine g_aload_n (i := 2) (j := 3) (dk_Step_act 50 rfl) rfl rfl ?_
  refine g_iload_n (i := 3) (j := 0) (dk_Step_act 51 rfl) rfl rfl ?_
  obtain ⟨c1, h⟩ := p_gdE h
  obtain ⟨s2, q3, h⟩ := p_bvE h
  have t4 := tF_Step_passOn K l v0 v1 v2 w0 s0 _ q3
  refine g_callV (a := v0) (ci := 8) (q0 := (RX8, TX8, 5)) (As := [p_i v1, p_r v2, p_i w0]) (rest := []) [] mt_Step_passOn rfl rfl tw_5_29 ts_30 tw_5_27 ⟨Nat.le_of_ble_eq_true rfl, Nat.le_of_ble_eq_true rfl⟩ rfl (Nat.le_of_ble_eq_true rfl) (dk_Step_act 52 rfl) rfl c1 rfl t4 ?_
  have hs5 : p_x s0 s2 := t4.1
  show p_Go K l m_Step_act 93 [(3, p_i w0), (0, p_r v0), (1, p_i v1), (2, p_r v2)] [] s2 _
  refine g_aload_n (i := 0) (j := 1) (dk_Step_act 53 rfl) rfl rfl ?_
  refine g_aload_n (i := 2) (j := 3) (dk_Step_act 54 rfl) rfl rfl ?_
  obtain ⟨s6, q7, h⟩ := p_bvE h
  have t8 := tF_Step_moveUp K l v0 v2 s2 _ q7
  refine g_callV (a := v0) (ci := 8) (q0 := (RX8, TX8, 5)) (As := [p_r v2]) (rest := []) [] mt_Step_moveUp rfl rfl tw_5_69 ts_36 tw_5_67 ⟨Nat.le_of_ble_eq_true rfl, Nat.le_of_ble_eq_true rfl⟩ rfl (Nat.le_of_ble_eq_true rfl) (dk_Step_act 55 rfl) rfl (c1.up hs5) rfl t8 ?_
  have hs9 : p_x s2 s6 := t8.1
  show p_Go K l m_Step_act 98 [(3, p_i w0), (0, p_r v0), (1, p_i v1), (2, p_r v2)] [] s6 _
  refine g_goto 116 (dk_Step_act 56 rfl) (by decide) ?_
  refine g_sub [(0, p_r v0), (2, p_r v2)] [1, 3] rfl ?_
  exact tB_Step_act_116 K l v0 v2 s6 _ h
set_option maxRecDepth 100000 in
set_option maxHeartbeats 4000000 in
theorem tB_Step_act_80 (K : p_K) (l : Launch)  (v0 : Nat) (v1 : Int) (v2 : Nat) (s0 : p_Hp) (r : p_Hp) (h : B_Step_act_80 v0 v1 v2 s0 = some r) : p_Go K l m_Step_act 80 [(0, p_r v0), (1, p_i v1), (2, p_r v2)] [] s0 (none, r) := by
  unfold B_Step_act_80 at h
  refine g_iconst (dk_Step_act 44 rfl) (by decide) ?_
  refine g_goto 85 (dk_Step_act 45 rfl) (by decide) ?_
  exact tB_Step_act_85 K l v0 v1 v2 1 s0 _ h
set_option maxRecDepth 100000 in
set_option maxHeartbeats 4000000 in
theorem tL_Step_act_22 (K : p_K) (l : Launch) (k22 : Nat → Int → Nat → Int → p_Hp → Option p_Hp) (hk22 : ∀ (v0 : Nat) (v1 : Int) (v2 : Nat) (v3 : Int)  (s0 : p_Hp) (r : p_Hp), k22 v0 v1 v2 v3 s0 = some r → p_Go K l m_Step_act 22 [(0, p_r v0), (1, p_i v1), (2, p_r v2), (3, p_i v3)] [] s0 (none, r)) (v0 : Nat) (v1 : Int) (v2 : Nat) (v3 : Int) (s0 : p_Hp) (r : p_Hp) (h : L_Step_act_22 k22 v0 v1 v2 v3 s0 = some r) : p_Go K l m_Step_act 22 [(0, p_r v0), (1, p_i v1), (2, p_r v2), (3, p_i v3)] [] s0 (none, r) := by
  unfold L_Step_act_22 at h
  refine g_iload_n (i := 3) (j := 3) (dk_Step_act 14 rfl) rfl rfl ?_
  refine g_iconst (dk_Step_act 15 rfl) (by decide) ?_
  refine g_aload_n (i := 2) (j := 2) (dk_Step_act 16 rfl) rfl rfl ?_
  obtain ⟨c1, h⟩ := p_gdE h
  refine g_getI fl_Step_97 (Or.inl rfl) (dk_Step_act 17 rfl) c1 ?_
  refine g_iconst (dk_Step_act 18 rfl) (by decide) ?_
  refine g_iadd (dk_Step_act 19 rfl) ?_
  refine g_imul (dk_Step_act 20 rfl) ?_
  refine g_icmp_ge 57 (dk_Step_act 21 rfl) (by decide) (fun b2 => ?_) (fun b2 => ?_)
  · have h := p_ifT b2 h
    refine g_aload_n (i := 2) (j := 2) (dk_Step_act 33 rfl) rfl rfl ?_
    obtain ⟨r7, s3, q4, h⟩ := p_bdE h
    have t5 := tF_Gear_isTaker K l v2 s0 _ q4
    refine g_callV (a := v2) (ci := 0) (q0 := (RX0, TX0, 20)) (As := []) (rest := []) [p_i r7] mt_Gear_isTaker rfl rfl tw_3_142 tw_3_143 tw_4_195 ⟨Nat.le_of_ble_eq_true rfl, Nat.le_of_ble_eq_true rfl⟩ rfl (Nat.le_of_ble_eq_true rfl) (dk_Step_act 34 rfl) rfl c1 rfl t5 ?_
    have hs6 : p_x s0 s3 := t5.1
    show p_Go K l m_Step_act 61 [(0, p_r v0), (1, p_i v1), (2, p_r v2), (3, p_i v3)] [p_i r7] s3 _
    refine g_if_eq 101 (dk_Step_act 35 rfl) (by decide) (fun b8 => ?_) (fun b8 => ?_)
    · have h := p_ifT b8 h
      refine g_aload_n (i := 2) (j := 2) (dk_Step_act 57 rfl) rfl rfl ?_
      refine g_getI fl_Step_97 (Or.inl rfl) (dk_Step_act 58 rfl) (c1.up hs6) ?_
      refine g_bipush (dk_Step_act 59 rfl) (by decide +kernel) (by decide) ?_
      refine g_icmp_ne 116 (dk_Step_act 60 rfl) (by decide) (fun b9 => ?_) (fun b9 => ?_)
      · have h := p_ifT b9 h
        refine g_sub [(0, p_r v0), (2, p_r v2)] [0, 2] rfl ?_
        exact tB_Step_act_116 K l v0 v2 s3 _ h
      · have h := p_ifF b9 h
        refine g_aload_n (i := 0) (j := 0) (dk_Step_act 61 rfl) rfl rfl ?_
        refine g_iload_n (i := 1) (j := 1) (dk_Step_act 62 rfl) rfl rfl ?_
        refine g_aload_n (i := 2) (j := 2) (dk_Step_act 63 rfl) rfl rfl ?_
        obtain ⟨c10, h⟩ := p_gdE h
        obtain ⟨s11, q12, h⟩ := p_bvE h
        have t13 := tF_Step_setDial K l v0 v1 v2 s3 _ q12
        refine g_callV (a := v0) (ci := 8) (q0 := (RX8, TX8, 5)) (As := [p_i v1, p_r v2]) (rest := []) [] mt_Step_setDial rfl rfl tw_5_74 ts_37 tw_5_72 ⟨Nat.le_of_ble_eq_true rfl, Nat.le_of_ble_eq_true rfl⟩ rfl (Nat.le_of_ble_eq_true rfl) (dk_Step_act 64 rfl) rfl c10 rfl t13 ?_
        have hs14 : p_x s3 s11 := t13.1
        show p_Go K l m_Step_act 116 [(0, p_r v0), (1, p_i v1), (2, p_r v2), (3, p_i v3)] [] s11 _
        refine g_sub [(0, p_r v0), (2, p_r v2)] [0, 2] rfl ?_
        exact tB_Step_act_116 K l v0 v2 s11 _ h
    · have h := p_ifF b8 h
      refine g_aload_n (i := 2) (j := 2) (dk_Step_act 36 rfl) rfl rfl ?_
      obtain ⟨r19, s15, q16, h⟩ := p_bdE h
      have t17 := tF_Gear_isScanner K l v2 s3 _ q16
      refine g_callV (a := v2) (ci := 0) (q0 := (RX0, TX0, 20)) (As := []) (rest := []) [p_i r19] mt_Gear_isScanner rfl rfl tw_4_119 tw_4_120 tw_4_230 ⟨Nat.le_of_ble_eq_true rfl, Nat.le_of_ble_eq_true rfl⟩ rfl (Nat.le_of_ble_eq_true rfl) (dk_Step_act 37 rfl) rfl (c1.up hs6) rfl t17 ?_
      have hs18 : p_x s3 s15 := t17.1
      show p_Go K l m_Step_act 68 [(0, p_r v0), (1, p_i v1), (2, p_r v2), (3, p_i v3)] [p_i r19] s15 _
      refine g_if_eq 80 (dk_Step_act 38 rfl) (by decide) (fun b20 => ?_) (fun b20 => ?_)
      · have h := p_ifT b20 h
        refine g_sub [(0, p_r v0), (1, p_i v1), (2, p_r v2)] [0, 1, 2] rfl ?_
        exact tB_Step_act_80 K l v0 v1 v2 s15 _ h
      · have h := p_ifF b20 h
        refine g_aload_n (i := 0) (j := 0) (dk_Step_act 39 rfl) rfl rfl ?_
        refine g_iload_n (i := 1) (j := 1) (dk_Step_act 40 rfl) rfl rfl ?_
        refine g_aload_n (i := 2) (j := 2) (dk_Step_act 41 rfl) rfl rfl ?_
        obtain ⟨c21, h⟩ := p_gdE h
        obtain ⟨r26, s22, q23, h⟩ := p_bdE h
        have t24 := tF_Step_scan K l v0 v1 v2 s15 _ q23
        refine g_callV (a := v0) (ci := 8) (q0 := (RX8, TX8, 5)) (As := [p_i v1, p_r v2]) (rest := []) [p_i r26] mt_Step_scan rfl rfl tw_4_233 ts_23 tw_4_231 ⟨Nat.le_of_ble_eq_true rfl, Nat.le_of_ble_eq_true rfl⟩ rfl (Nat.le_of_ble_eq_true rfl) (dk_Step_act 42 rfl) rfl c21 rfl t24 ?_
        have hs25 : p_x s15 s22 := t24.1
        show p_Go K l m_Step_act 77 [(0, p_r v0), (1, p_i v1), (2, p_r v2), (3, p_i v3)] [p_i r26] s22 _
        refine g_if_eq 84 (dk_Step_act 43 rfl) (by decide) (fun b27 => ?_) (fun b27 => ?_)
        · have h := p_ifT b27 h
          refine g_iconst (dk_Step_act 46 rfl) (by decide) ?_
          refine g_sub [(0, p_r v0), (1, p_i v1), (2, p_r v2)] [0, 1, 2] rfl ?_
          exact tB_Step_act_85 K l v0 v1 v2 0 s22 _ h
        · have h := p_ifF b27 h
          refine g_sub [(0, p_r v0), (1, p_i v1), (2, p_r v2)] [0, 1, 2] rfl ?_
          exact tB_Step_act_80 K l v0 v1 v2 s22 _ h
  · have h := p_ifF b2 h
    refine g_getstatic (j := 3) rfl (by decide) (dk_Step_act 22 rfl) ?_
    refine g_iload_n (i := 3) (j := 3) (dk_Step_act 23 rfl) rfl rfl ?_
    obtain ⟨c28, h⟩ := p_gdE h
    refine g_tabS (by decide) (dk_Step_act 24 rfl) c28.1 c28.2 ?_
    refine g_if_eq 51 (dk_Step_act 25 rfl) (by decide) (fun b29 => ?_) (fun b29 => ?_)
    · have h := p_ifT b29 h
      exact tB_Step_act_51 K l k22 hk22 v0 v1 v2 v3 s0 _ h
    · have h := p_ifF b29 h
      refine g_aload_n (i := 0) (j := 0) (dk_Step_act 26 rfl) rfl rfl ?_
      refine g_getstatic (j := 3) rfl (by decide) (dk_Step_act 27 rfl) ?_
      refine g_iload_n (i := 3) (j := 3) (dk_Step_act 28 rfl) rfl rfl ?_
      obtain ⟨c30, h⟩ := p_gdE h
      refine g_tabS (by decide) (dk_Step_act 29 rfl) c30.1 c30.2 ?_
      obtain ⟨c31, h⟩ := p_gdE h
      obtain ⟨s32, q33, h⟩ := p_bvE h
      have t34 := tF_Step_addTrace K l v0 (sw_tab 3 (v3 : Int).toNat) s0 _ q33
      refine g_callV (a := v0) (ci := 8) (q0 := (RX8, TX8, 5)) (As := [p_i (sw_tab 3 (v3 : Int).toNat)]) (rest := []) [] mt_Step_addTrace rfl rfl tw_4_228 ts_22 tw_4_226 ⟨Nat.le_of_ble_eq_true rfl, Nat.le_of_ble_eq_true rfl⟩ rfl (Nat.le_of_ble_eq_true rfl) (dk_Step_act 30 rfl) rfl c31 rfl t34 ?_
      have hs35 : p_x s0 s32 := t34.1
      show p_Go K l m_Step_act 51 [(0, p_r v0), (1, p_i v1), (2, p_r v2), (3, p_i v3)] [] s32 _
      exact tB_Step_act_51 K l k22 hk22 v0 v1 v2 v3 s32 _ h
set_option maxRecDepth 100000 in
set_option maxHeartbeats 4000000 in
theorem tO_Step_act_22 (K : p_K) (l : Launch)  : ∀ (n : Nat) (v0 : Nat) (v1 : Int) (v2 : Nat) (v3 : Int) (s0 : p_Hp) (r : p_Hp), O_Step_act_22 n v0 v1 v2 v3 s0 = some r → p_Go K l m_Step_act 22 [(0, p_r v0), (1, p_i v1), (2, p_r v2), (3, p_i v3)] [] s0 (none, r) := by
  intro n
  induction n with
  | zero => intro v0 v1 v2 v3 s0 r h; cases (show (none : Option p_Hp) = some r from h)
  | succ n ih => intro v0 v1 v2 v3 s0 r h; exact tL_Step_act_22 K l _ ih v0 v1 v2 v3 s0 r h
set_option maxRecDepth 100000 in
set_option maxHeartbeats 4000000 in
theorem tF_Step_act (K : p_K) (l : Launch) (v0 : Nat) (v1 : Int) (s0 : p_Hp) (r : p_Hp) (h : F_Step_act v0 v1 s0 = some r) : p_Ct K l m_Step_act [p_r v0, p_i v1] s0 (none, r) := by
  refine p_Ct.of (by decide +kernel) (Nat.le_of_ble_eq_true rfl) ?_
  unfold F_Step_act at h
  show p_Go K l m_Step_act 0 [(0, p_r v0), (1, p_i v1)] [] s0 _
  refine g_aload_n (i := 0) (j := 0) (dk_Step_act 0 rfl) rfl rfl ?_
  obtain ⟨c1, h⟩ := p_gdE h
  refine g_getR fl_Step_28 (Or.inl ⟨_, rfl⟩) (dk_Step_act 1 rfl) c1 ?_
  obtain ⟨c2, h⟩ := p_gdE h
  refine g_getR fl_Step_82 (Or.inr ⟨_, rfl⟩) (dk_Step_act 2 rfl) c2 ?_
  refine g_iload_n (i := 1) (j := 1) (dk_Step_act 3 rfl) rfl rfl ?_
  obtain ⟨c3, h⟩ := p_gdE h
  obtain ⟨c4, h⟩ := p_gdE h
  refine g_aaload (i := 5) rfl (Or.inl ⟨_, rfl⟩) (dk_Step_act 4 rfl) c3 c4.1 c4.2 ?_
  refine g_astore_n (i := 2) [(2, p_r (p_R s0 (p_R s0 (p_R s0 v0 3) 4) (v1 : Int).toNat)), (0, p_r v0), (1, p_i v1)] (dk_Step_act 5 rfl) rfl (by decide) rfl ?_
  refine p_ltG (P := fun q => p_Go K l m_Step_act 10 [(2, p_r q), (0, p_r v0), (1, p_i v1)] [] s0 _) ?_ h
  intro x5 h
  refine g_aload_n (i := 0) (j := 1) (dk_Step_act 6 rfl) rfl rfl ?_
  refine g_iconst (dk_Step_act 7 rfl) (by decide) ?_
  refine g_putB fl_Step_106 (Or.inl rfl) (dk_Step_act 8 rfl) c1 (Or.inl rfl) ?_
  refine p_ltS (P := fun q => p_Go K l m_Step_act 15 [(2, p_r x5), (0, p_r v0), (1, p_i v1)] [] q _) (p_xZ _ _ _ _) ?_ h
  intro s6 hs7 h
  refine g_iconst (dk_Step_act 9 rfl) (by decide) ?_
  refine g_aload_n (i := 2) (j := 0) (dk_Step_act 10 rfl) rfl rfl ?_
  obtain ⟨c8, h⟩ := p_gdE h
  refine g_getI fl_Step_97 (Or.inl rfl) (dk_Step_act 11 rfl) c8 ?_
  refine g_imul (dk_Step_act 12 rfl) ?_
  refine g_istore_n (i := 3) [(3, p_i (p_w (3 * (p_Z s6 x5 0)))), (2, p_r x5), (0, p_r v0), (1, p_i v1)] (dk_Step_act 13 rfl) rfl (by decide) rfl ?_
  refine p_ltG (P := fun q => p_Go K l m_Step_act 22 [(3, p_i q), (2, p_r x5), (0, p_r v0), (1, p_i v1)] [] s6 _) ?_ h
  intro x9 h
  refine g_sub [(0, p_r v0), (1, p_i v1), (2, p_r x5), (3, p_i x9)] [2, 3, 1, 0] rfl ?_
  exact tO_Step_act_22 K l 3000 v0 v1 x5 x9 s6 _ h
def m_Step_isForPlan : p_Me := (⟨"SortWorks$Step", "isForPlan", "(LSortWorks$Gear;I)Z"⟩, prog_10_method_8_code, 2, (some .boolean), 1, 20)
theorem mt_Step_isForPlan : p_Mt m_Step_isForPlan 2 := ⟨p_mem (p_tb4 (List.mem_of_getElem? (i := 172) rfl)) rfl, tw_1_9, by decide +kernel, by decide +kernel, by decide +kernel⟩
def dt_Step_isForPlan : List (Nat × Instr × Nat) := [(0, .iload_n 1, 1), (1, .ifCond .ne 20, 3), (4, .aload_n 0, 1), (5, .getfield 97, 3), (8, .bipush 9, 2), (10, .if_icmp .ne 7, 3), (13, .iconst 1, 1), (14, .goto 33, 3), (17, .iconst 0, 1), (18, .goto 29, 3), (21, .iload_n 1, 1), (22, .iconst 1, 1), (23, .if_icmp .ne 10, 3), (26, .aload_n 0, 1), (27, .invokevirtual 141, 3), (30, .goto 17, 3), (33, .aload_n 0, 1), (34, .getfield 97, 3), (37, .bipush 8, 2), (39, .if_icmp .ne 7, 3), (42, .iconst 1, 1), (43, .goto 4, 3), (46, .iconst 0, 1), (47, .ireturn, 1)]
theorem dk_Step_isForPlan (i : Nat) {pc : Nat} {ins : Instr} {len : Nat} (h : dt_Step_isForPlan[i]? = some (pc, ins, len)) : decode m_Step_isForPlan.2.1 pc = .ok (ins, len) := p_dk (b := m_Step_isForPlan.2.1) (t := dt_Step_isForPlan) (by decide +kernel) i h
def F_Step_isForPlan (v0 : Nat) (v1 : Int) (s0 : p_Hp) : Option (Int × p_Hp) :=
  if v1 ≠ 0 then
    if v1 ≠ 1 then
      p_gd (p_is s0 v0 0) <|
      if (p_Z s0 v0 0) ≠ 8 then
        some (0, s0)
      else
        some (1, s0)
    else
      p_gd (p_is s0 v0 0) <|
      p_bd (F_Gear_isDivert v0 s0) fun r10 s6 =>
      p_gd (r10 = 0 ∨ r10 = 1) <|
      some (r10, s6)
  else
    p_gd (p_is s0 v0 0) <|
    if (p_Z s0 v0 0) ≠ 9 then
      some (0, s0)
    else
      some (1, s0)
set_option maxRecDepth 100000 in
set_option maxHeartbeats 4000000 in
theorem tF_Step_isForPlan (K : p_K) (l : Launch) (v0 : Nat) (v1 : Int) (s0 : p_Hp) (r : (Int × p_Hp)) (h : F_Step_isForPlan v0 v1 s0 = some r) : p_Ct K l m_Step_isForPlan [p_r v0, p_i v1] s0 (some (p_i r.1), r.2) := by
  refine p_Ct.of (by decide +kernel) (Nat.le_of_ble_eq_true rfl) ?_
  unfold F_Step_isForPlan at h
  show p_Go K l m_Step_isForPlan 0 [(0, p_r v0), (1, p_i v1)] [] s0 _
  refine g_iload_n (i := 1) (j := 1) (dk_Step_isForPlan 0 rfl) rfl rfl ?_
  refine g_if_ne 21 (dk_Step_isForPlan 1 rfl) (by decide) (fun b1 => ?_) (fun b1 => ?_)
  · have h := p_ifT b1 h
    refine g_iload_n (i := 1) (j := 1) (dk_Step_isForPlan 10 rfl) rfl rfl ?_
    refine g_iconst (dk_Step_isForPlan 11 rfl) (by decide) ?_
    refine g_icmp_ne 33 (dk_Step_isForPlan 12 rfl) (by decide) (fun b2 => ?_) (fun b2 => ?_)
    · have h := p_ifT b2 h
      refine g_aload_n (i := 0) (j := 0) (dk_Step_isForPlan 16 rfl) rfl rfl ?_
      obtain ⟨c3, h⟩ := p_gdE h
      refine g_getI fl_Step_97 (Or.inl rfl) (dk_Step_isForPlan 17 rfl) c3 ?_
      refine g_bipush (dk_Step_isForPlan 18 rfl) (by decide +kernel) (by decide) ?_
      refine g_icmp_ne 46 (dk_Step_isForPlan 19 rfl) (by decide) (fun b4 => ?_) (fun b4 => ?_)
      · have h := p_ifT b4 h
        refine g_iconst (dk_Step_isForPlan 22 rfl) (by decide) ?_
        cases h
        exact g_ret rfl rfl (dk_Step_isForPlan 23 rfl) (fun _ => ⟨_, rfl, Or.inl rfl⟩)
      · have h := p_ifF b4 h
        refine g_iconst (dk_Step_isForPlan 20 rfl) (by decide) ?_
        refine g_goto 47 (dk_Step_isForPlan 21 rfl) (by decide) ?_
        cases h
        exact g_ret rfl rfl (dk_Step_isForPlan 23 rfl) (fun _ => ⟨_, rfl, Or.inr rfl⟩)
    · have h := p_ifF b2 h
      refine g_aload_n (i := 0) (j := 0) (dk_Step_isForPlan 13 rfl) rfl rfl ?_
      obtain ⟨c5, h⟩ := p_gdE h
      obtain ⟨r10, s6, q7, h⟩ := p_bdE h
      have t8 := tF_Gear_isDivert K l v0 s0 _ q7
      refine g_callV (a := v0) (ci := 0) (q0 := (RX0, TX0, 20)) (As := []) (rest := []) [p_i r10] mt_Gear_isDivert rfl rfl tw_3_119 tw_3_120 tw_4_173 ⟨Nat.le_of_ble_eq_true rfl, Nat.le_of_ble_eq_true rfl⟩ rfl (Nat.le_of_ble_eq_true rfl) (dk_Step_isForPlan 14 rfl) rfl c5 rfl t8 ?_
      have hs9 : p_x s0 s6 := t8.1
      show p_Go K l m_Step_isForPlan 30 [(0, p_r v0), (1, p_i v1)] [p_i r10] s6 _
      refine g_goto 47 (dk_Step_isForPlan 15 rfl) (by decide) ?_
      obtain ⟨c11, h⟩ := p_gdE h
      cases h
      exact g_ret rfl rfl (dk_Step_isForPlan 23 rfl) (fun _ => ⟨_, rfl, c11⟩)
  · have h := p_ifF b1 h
    refine g_aload_n (i := 0) (j := 0) (dk_Step_isForPlan 2 rfl) rfl rfl ?_
    obtain ⟨c12, h⟩ := p_gdE h
    refine g_getI fl_Step_97 (Or.inl rfl) (dk_Step_isForPlan 3 rfl) c12 ?_
    refine g_bipush (dk_Step_isForPlan 4 rfl) (by decide +kernel) (by decide) ?_
    refine g_icmp_ne 17 (dk_Step_isForPlan 5 rfl) (by decide) (fun b13 => ?_) (fun b13 => ?_)
    · have h := p_ifT b13 h
      refine g_iconst (dk_Step_isForPlan 8 rfl) (by decide) ?_
      refine g_goto 47 (dk_Step_isForPlan 9 rfl) (by decide) ?_
      cases h
      exact g_ret rfl rfl (dk_Step_isForPlan 23 rfl) (fun _ => ⟨_, rfl, Or.inl rfl⟩)
    · have h := p_ifF b13 h
      refine g_iconst (dk_Step_isForPlan 6 rfl) (by decide) ?_
      refine g_goto 47 (dk_Step_isForPlan 7 rfl) (by decide) ?_
      cases h
      exact g_ret rfl rfl (dk_Step_isForPlan 23 rfl) (fun _ => ⟨_, rfl, Or.inr rfl⟩)
def m_Step_planByNumber : p_Me := (⟨"SortWorks$Step", "planByNumber", "(LSortWorks$Gear;II)I"⟩, prog_10_method_9_code, 3, (some .int), 1, 22)
theorem mt_Step_planByNumber : p_Mt m_Step_planByNumber 3 := ⟨p_mem (p_tb4 (List.mem_of_getElem? (i := 176) rfl)) rfl, tw_1_9, by decide +kernel, by decide +kernel, by decide +kernel⟩
def dt_Step_planByNumber : List (Nat × Instr × Nat) := [(0, .iload_n 1, 1), (1, .ifCond .ne 18, 3), (4, .aload_n 0, 1), (5, .iload_n 2, 1), (6, .ifCond .eq 7, 3), (9, .iconst 1, 1), (10, .goto 4, 3), (13, .iconst 0, 1), (14, .putfield 145, 3), (17, .iconst 0, 1), (18, .ireturn, 1), (19, .iload_n 1, 1), (20, .iconst 1, 1), (21, .if_icmp .ne 30, 3), (24, .aload_n 0, 1), (25, .invokevirtual 148, 3), (28, .ifCond .le 5, 3), (31, .iconst 0, 1), (32, .ireturn, 1), (33, .aload_n 0, 1), (34, .iload_n 2, 1), (35, .invokevirtual 151, 3), (38, .ifCond .ne 6, 3), (41, .bipush (-13), 2), (43, .ireturn, 1), (44, .aload_n 0, 1), (45, .iload_n 2, 1), (46, .putfield 155, 3), (49, .iconst 0, 1), (50, .ireturn, 1), (51, .iload_n 2, 1), (52, .ifCond .lt 9, 3), (55, .iload_n 2, 1), (56, .bipush 20, 2), (58, .if_icmp .le 6, 3), (61, .bipush (-13), 2), (63, .ireturn, 1), (64, .aload_n 0, 1), (65, .iload_n 2, 1), (66, .putfield 158, 3), (69, .iconst 0, 1), (70, .ireturn, 1)]
theorem dk_Step_planByNumber (i : Nat) {pc : Nat} {ins : Instr} {len : Nat} (h : dt_Step_planByNumber[i]? = some (pc, ins, len)) : decode m_Step_planByNumber.2.1 pc = .ok (ins, len) := p_dk (b := m_Step_planByNumber.2.1) (t := dt_Step_planByNumber) (by decide +kernel) i h
def F_Step_planByNumber (v0 : Nat) (v1 : Int) (v2 : Int) (s0 : p_Hp) : Option (Int × p_Hp) :=
  if v1 ≠ 0 then
    if v1 ≠ 1 then
      if v2 < 0 then
        some ((-13), s0)
      else
        if v2 ≤ 20 then
          p_gd (p_is s0 v0 0) <|
          p_bi (p_wZ s0 v0 14 v2) fun s6 =>
          some (0, s6)
        else
          some ((-13), s0)
    else
      p_gd (p_is s0 v0 0) <|
      p_bd (F_Gear_parcels v0 s0) fun r13 s9 =>
      if r13 ≤ 0 then
        p_bd (F_Gear_hasSide v0 v2 s9) fun r19 s15 =>
        if r19 ≠ 0 then
          p_bi (p_wZ s15 v0 6 v2) fun s21 =>
          some (0, s21)
        else
          some ((-13), s15)
      else
        some (0, s9)
  else
    if v2 = 0 then
      p_gd (p_is s0 v0 0) <|
      p_bi (p_wZ s0 v0 7 0) fun s25 =>
      some (0, s25)
    else
      p_gd (p_is s0 v0 0) <|
      p_bi (p_wZ s0 v0 7 1) fun s28 =>
      some (0, s28)
set_option maxRecDepth 100000 in
set_option maxHeartbeats 4000000 in
theorem tF_Step_planByNumber (K : p_K) (l : Launch) (v0 : Nat) (v1 : Int) (v2 : Int) (s0 : p_Hp) (r : (Int × p_Hp)) (h : F_Step_planByNumber v0 v1 v2 s0 = some r) : p_Ct K l m_Step_planByNumber [p_r v0, p_i v1, p_i v2] s0 (some (p_i r.1), r.2) := by
  refine p_Ct.of (by decide +kernel) (Nat.le_of_ble_eq_true rfl) ?_
  unfold F_Step_planByNumber at h
  show p_Go K l m_Step_planByNumber 0 [(0, p_r v0), (1, p_i v1), (2, p_i v2)] [] s0 _
  refine g_iload_n (i := 1) (j := 1) (dk_Step_planByNumber 0 rfl) rfl rfl ?_
  refine g_if_ne 19 (dk_Step_planByNumber 1 rfl) (by decide) (fun b1 => ?_) (fun b1 => ?_)
  · have h := p_ifT b1 h
    refine g_iload_n (i := 1) (j := 1) (dk_Step_planByNumber 11 rfl) rfl rfl ?_
    refine g_iconst (dk_Step_planByNumber 12 rfl) (by decide) ?_
    refine g_icmp_ne 51 (dk_Step_planByNumber 13 rfl) (by decide) (fun b2 => ?_) (fun b2 => ?_)
    · have h := p_ifT b2 h
      refine g_iload_n (i := 2) (j := 2) (dk_Step_planByNumber 30 rfl) rfl rfl ?_
      refine g_if_lt 61 (dk_Step_planByNumber 31 rfl) (by decide) (fun b3 => ?_) (fun b3 => ?_)
      · have h := p_ifT b3 h
        refine g_bipush (dk_Step_planByNumber 35 rfl) (by decide +kernel) (by decide) ?_
        cases h
        exact g_ret rfl rfl (dk_Step_planByNumber 36 rfl) (fun os => ⟨_, rfl, p_okh os⟩)
      · have h := p_ifF b3 h
        refine g_iload_n (i := 2) (j := 2) (dk_Step_planByNumber 32 rfl) rfl rfl ?_
        refine g_bipush (dk_Step_planByNumber 33 rfl) (by decide +kernel) (by decide) ?_
        refine g_icmp_le 64 (dk_Step_planByNumber 34 rfl) (by decide) (fun b4 => ?_) (fun b4 => ?_)
        · have h := p_ifT b4 h
          refine g_aload_n (i := 0) (j := 0) (dk_Step_planByNumber 37 rfl) rfl rfl ?_
          refine g_iload_n (i := 2) (j := 2) (dk_Step_planByNumber 38 rfl) rfl rfl ?_
          obtain ⟨c5, h⟩ := p_gdE h
          refine g_putI fl_Step_158 (Or.inl rfl) (dk_Step_planByNumber 39 rfl) c5 ?_
          refine p_ltS (P := fun q => p_Go K l m_Step_planByNumber 69 [(0, p_r v0), (1, p_i v1), (2, p_i v2)] [] q _) (p_xZ _ _ _ _) ?_ h
          intro s6 hs7 h
          refine g_iconst (dk_Step_planByNumber 40 rfl) (by decide) ?_
          cases h
          exact g_ret rfl rfl (dk_Step_planByNumber 41 rfl) (fun os => ⟨_, rfl, p_okh os⟩)
        · have h := p_ifF b4 h
          refine g_bipush (dk_Step_planByNumber 35 rfl) (by decide +kernel) (by decide) ?_
          cases h
          exact g_ret rfl rfl (dk_Step_planByNumber 36 rfl) (fun os => ⟨_, rfl, p_okh os⟩)
    · have h := p_ifF b2 h
      refine g_aload_n (i := 0) (j := 0) (dk_Step_planByNumber 14 rfl) rfl rfl ?_
      obtain ⟨c8, h⟩ := p_gdE h
      obtain ⟨r13, s9, q10, h⟩ := p_bdE h
      have t11 := tF_Gear_parcels K l v0 s0 _ q10
      refine g_callV (a := v0) (ci := 0) (q0 := (RX0, TX0, 20)) (As := []) (rest := []) [p_i r13] mt_Gear_parcels rfl rfl tw_3_151 tw_3_152 tw_4_177 ⟨Nat.le_of_ble_eq_true rfl, Nat.le_of_ble_eq_true rfl⟩ rfl (Nat.le_of_ble_eq_true rfl) (dk_Step_planByNumber 15 rfl) rfl c8 rfl t11 ?_
      have hs12 : p_x s0 s9 := t11.1
      show p_Go K l m_Step_planByNumber 28 [(0, p_r v0), (1, p_i v1), (2, p_i v2)] [p_i r13] s9 _
      refine g_if_le 33 (dk_Step_planByNumber 16 rfl) (by decide) (fun b14 => ?_) (fun b14 => ?_)
      · have h := p_ifT b14 h
        refine g_aload_n (i := 0) (j := 0) (dk_Step_planByNumber 19 rfl) rfl rfl ?_
        refine g_iload_n (i := 2) (j := 2) (dk_Step_planByNumber 20 rfl) rfl rfl ?_
        obtain ⟨r19, s15, q16, h⟩ := p_bdE h
        have t17 := tF_Gear_hasSide K l v0 v2 s9 _ q16
        refine g_callV (a := v0) (ci := 0) (q0 := (RX0, TX0, 20)) (As := [p_i v2]) (rest := []) [p_i r19] mt_Gear_hasSide rfl rfl tw_3_123 tw_3_124 tw_4_178 ⟨Nat.le_of_ble_eq_true rfl, Nat.le_of_ble_eq_true rfl⟩ rfl (Nat.le_of_ble_eq_true rfl) (dk_Step_planByNumber 21 rfl) rfl (c8.up hs12) rfl t17 ?_
        have hs18 : p_x s9 s15 := t17.1
        show p_Go K l m_Step_planByNumber 38 [(0, p_r v0), (1, p_i v1), (2, p_i v2)] [p_i r19] s15 _
        refine g_if_ne 44 (dk_Step_planByNumber 22 rfl) (by decide) (fun b20 => ?_) (fun b20 => ?_)
        · have h := p_ifT b20 h
          refine g_aload_n (i := 0) (j := 0) (dk_Step_planByNumber 25 rfl) rfl rfl ?_
          refine g_iload_n (i := 2) (j := 2) (dk_Step_planByNumber 26 rfl) rfl rfl ?_
          refine g_putI fl_Step_155 (Or.inl rfl) (dk_Step_planByNumber 27 rfl) (c8.up (hs12.trans hs18)) ?_
          refine p_ltS (P := fun q => p_Go K l m_Step_planByNumber 49 [(0, p_r v0), (1, p_i v1), (2, p_i v2)] [] q _) (p_xZ _ _ _ _) ?_ h
          intro s21 hs22 h
          refine g_iconst (dk_Step_planByNumber 28 rfl) (by decide) ?_
          cases h
          exact g_ret rfl rfl (dk_Step_planByNumber 29 rfl) (fun os => ⟨_, rfl, p_okh os⟩)
        · have h := p_ifF b20 h
          refine g_bipush (dk_Step_planByNumber 23 rfl) (by decide +kernel) (by decide) ?_
          cases h
          exact g_ret rfl rfl (dk_Step_planByNumber 24 rfl) (fun os => ⟨_, rfl, p_okh os⟩)
      · have h := p_ifF b14 h
        refine g_iconst (dk_Step_planByNumber 17 rfl) (by decide) ?_
        cases h
        exact g_ret rfl rfl (dk_Step_planByNumber 18 rfl) (fun os => ⟨_, rfl, p_okh os⟩)
  · have h := p_ifF b1 h
    refine g_aload_n (i := 0) (j := 0) (dk_Step_planByNumber 2 rfl) rfl rfl ?_
    refine g_iload_n (i := 2) (j := 2) (dk_Step_planByNumber 3 rfl) rfl rfl ?_
    refine g_if_eq 13 (dk_Step_planByNumber 4 rfl) (by decide) (fun b23 => ?_) (fun b23 => ?_)
    · have h := p_ifT b23 h
      refine g_iconst (dk_Step_planByNumber 7 rfl) (by decide) ?_
      obtain ⟨c24, h⟩ := p_gdE h
      refine g_putB fl_Step_145 (Or.inl rfl) (dk_Step_planByNumber 8 rfl) c24 (Or.inl rfl) ?_
      refine p_ltS (P := fun q => p_Go K l m_Step_planByNumber 17 [(0, p_r v0), (1, p_i v1), (2, p_i v2)] [] q _) (p_xZ _ _ _ _) ?_ h
      intro s25 hs26 h
      refine g_iconst (dk_Step_planByNumber 9 rfl) (by decide) ?_
      cases h
      exact g_ret rfl rfl (dk_Step_planByNumber 10 rfl) (fun os => ⟨_, rfl, p_okh os⟩)
    · have h := p_ifF b23 h
      refine g_iconst (dk_Step_planByNumber 5 rfl) (by decide) ?_
      refine g_goto 14 (dk_Step_planByNumber 6 rfl) (by decide) ?_
      obtain ⟨c27, h⟩ := p_gdE h
      refine g_putB fl_Step_145 (Or.inl rfl) (dk_Step_planByNumber 8 rfl) c27 (Or.inr rfl) ?_
      refine p_ltS (P := fun q => p_Go K l m_Step_planByNumber 17 [(0, p_r v0), (1, p_i v1), (2, p_i v2)] [] q _) (p_xZ _ _ _ _) ?_ h
      intro s28 hs29 h
      refine g_iconst (dk_Step_planByNumber 9 rfl) (by decide) ?_
      cases h
      exact g_ret rfl rfl (dk_Step_planByNumber 10 rfl) (fun os => ⟨_, rfl, p_okh os⟩)
def m_Step_planFault : p_Me := (⟨"SortWorks$Step", "planFault", "([II)I"⟩, prog_10_method_7_code, 4, (some .int), 2, 44)
theorem mt_Step_planFault : p_Mt m_Step_planFault 2 := ⟨p_mem (p_tb4 (List.mem_of_getElem? (i := 168) rfl)) rfl, tw_1_9, by decide +kernel, by decide +kernel, by decide +kernel⟩
def dt_Step_planFault : List (Nat × Instr × Nat) := [(0, .iload_n 2, 1), (1, .iconst 2, 1), (2, .if_icmp .lt 16, 3), (5, .aload_n 1, 1), (6, .iconst 1, 1), (7, .iaload, 1), (8, .ifCond .lt 10, 3), (11, .aload_n 1, 1), (12, .iconst 1, 1), (13, .iaload, 1), (14, .iconst 2, 1), (15, .if_icmp .le 6, 3), (18, .bipush (-13), 2), (20, .ireturn, 1), (21, .iload_n 2, 1), (22, .iconst 3, 1), (23, .if_icmp .lt 17, 3), (26, .aload_n 1, 1), (27, .iconst 2, 1), (28, .iaload, 1), (29, .ifCond .lt 11, 3), (32, .aload_n 1, 1), (33, .iconst 2, 1), (34, .iaload, 1), (35, .bipush 40, 2), (37, .if_icmp .lt 6, 3), (40, .bipush (-13), 2), (42, .ireturn, 1), (43, .aload_n 0, 1), (44, .getfield 18, 3), (47, .aload_n 1, 1), (48, .iconst 2, 1), (49, .iaload, 1), (50, .invokevirtual 129, 3), (53, .astore_n 3, 1), (54, .aload_n 3, 1), (55, .ifnonnull 6, 3), (58, .bipush (-11), 2), (60, .ireturn, 1), (61, .aload_n 3, 1), (62, .aload_n 1, 1), (63, .iconst 1, 1), (64, .iaload, 1), (65, .invokestatic 133, 3), (68, .ifCond .ne 6, 3), (71, .bipush (-12), 2), (73, .ireturn, 1), (74, .iload_n 2, 1), (75, .iconst 4, 1), (76, .if_icmp .ge 8, 3), (79, .bipush (-13), 2), (81, .goto 13, 3), (84, .aload_n 3, 1), (85, .aload_n 1, 1), (86, .iconst 1, 1), (87, .iaload, 1), (88, .aload_n 1, 1), (89, .iconst 3, 1), (90, .iaload, 1), (91, .invokestatic 137, 3), (94, .ireturn, 1)]
theorem dk_Step_planFault (i : Nat) {pc : Nat} {ins : Instr} {len : Nat} (h : dt_Step_planFault[i]? = some (pc, ins, len)) : decode m_Step_planFault.2.1 pc = .ok (ins, len) := p_dk (b := m_Step_planFault.2.1) (t := dt_Step_planFault) (by decide +kernel) i h
def F_Step_planFault (v0 : Nat) (v1 : Nat) (v2 : Int) (s0 : p_Hp) : Option (Int × p_Hp) :=
  if v2 < 2 then
    some ((-13), s0)
  else
    p_gd (p_is s0 v1 100) <|
    p_gd ((0 : Int) ≤ 1 ∧ 1 < (p_L s0 v1 : Int)) <|
    if (p_Z s0 v1 (1 : Int).toNat) < 0 then
      some ((-13), s0)
    else
      p_gd ((0 : Int) ≤ 1 ∧ 1 < (p_L s0 v1 : Int)) <|
      if (p_Z s0 v1 (1 : Int).toNat) ≤ 2 then
        if v2 < 3 then
          some ((-13), s0)
        else
          p_gd ((0 : Int) ≤ 2 ∧ 2 < (p_L s0 v1 : Int)) <|
          if (p_Z s0 v1 (2 : Int).toNat) < 0 then
            some ((-13), s0)
          else
            p_gd ((0 : Int) ≤ 2 ∧ 2 < (p_L s0 v1 : Int)) <|
            if (p_Z s0 v1 (2 : Int).toNat) < 40 then
              p_gd (p_is s0 v0 8) <|
              p_gd ((0 : Int) ≤ 2 ∧ 2 < (p_L s0 v1 : Int)) <|
              p_gd (p_is s0 (p_R s0 v0 2) 9) <|
              p_bd (F_Works_gearOf (p_R s0 v0 2) (p_Z s0 v1 (2 : Int).toNat) s0) fun r19 s15 =>
              if r19 ≠ 0 then
                p_gd ((0 : Int) ≤ 1 ∧ 1 < (p_L s15 v1 : Int)) <|
                p_bd (F_Step_isForPlan r19 (p_Z s15 v1 (1 : Int).toNat) s15) fun r26 s22 =>
                if r26 ≠ 0 then
                  if 4 ≤ v2 then
                    p_gd ((0 : Int) ≤ 1 ∧ 1 < (p_L s22 v1 : Int)) <|
                    p_gd ((0 : Int) ≤ 3 ∧ 3 < (p_L s22 v1 : Int)) <|
                    p_bd (F_Step_planByNumber r19 (p_Z s22 v1 (1 : Int).toNat) (p_Z s22 v1 (3 : Int).toNat) s22) fun r35 s31 =>
                    some (r35, s31)
                  else
                    some ((-13), s22)
                else
                  some ((-12), s22)
              else
                some ((-11), s15)
            else
              some ((-13), s0)
      else
        some ((-13), s0)
set_option maxRecDepth 100000 in
set_option maxHeartbeats 4000000 in
theorem tF_Step_planFault (K : p_K) (l : Launch) (v0 : Nat) (v1 : Nat) (v2 : Int) (s0 : p_Hp) (r : (Int × p_Hp)) (h : F_Step_planFault v0 v1 v2 s0 = some r) : p_Ct K l m_Step_planFault [p_r v0, p_r v1, p_i v2] s0 (some (p_i r.1), r.2) := by
  refine p_Ct.of (by decide +kernel) (Nat.le_of_ble_eq_true rfl) ?_
  unfold F_Step_planFault at h
  show p_Go K l m_Step_planFault 0 [(0, p_r v0), (1, p_r v1), (2, p_i v2)] [] s0 _
  refine g_iload_n (i := 2) (j := 2) (dk_Step_planFault 0 rfl) rfl rfl ?_
  refine g_iconst (dk_Step_planFault 1 rfl) (by decide) ?_
  refine g_icmp_lt 18 (dk_Step_planFault 2 rfl) (by decide) (fun b1 => ?_) (fun b1 => ?_)
  · have h := p_ifT b1 h
    refine g_bipush (dk_Step_planFault 12 rfl) (by decide +kernel) (by decide) ?_
    cases h
    exact g_ret rfl rfl (dk_Step_planFault 13 rfl) (fun os => ⟨_, rfl, p_okh os⟩)
  · have h := p_ifF b1 h
    refine g_aload_n (i := 1) (j := 1) (dk_Step_planFault 3 rfl) rfl rfl ?_
    refine g_iconst (dk_Step_planFault 4 rfl) (by decide) ?_
    obtain ⟨c2, h⟩ := p_gdE h
    obtain ⟨c3, h⟩ := p_gdE h
    refine g_iaload (dk_Step_planFault 5 rfl) c2 c3.1 c3.2 ?_
    refine g_if_lt 18 (dk_Step_planFault 6 rfl) (by decide) (fun b4 => ?_) (fun b4 => ?_)
    · have h := p_ifT b4 h
      refine g_bipush (dk_Step_planFault 12 rfl) (by decide +kernel) (by decide) ?_
      cases h
      exact g_ret rfl rfl (dk_Step_planFault 13 rfl) (fun os => ⟨_, rfl, p_okh os⟩)
    · have h := p_ifF b4 h
      refine g_aload_n (i := 1) (j := 1) (dk_Step_planFault 7 rfl) rfl rfl ?_
      refine g_iconst (dk_Step_planFault 8 rfl) (by decide) ?_
      obtain ⟨c5, h⟩ := p_gdE h
      refine g_iaload (dk_Step_planFault 9 rfl) c2 c5.1 c5.2 ?_
      refine g_iconst (dk_Step_planFault 10 rfl) (by decide) ?_
      refine g_icmp_le 21 (dk_Step_planFault 11 rfl) (by decide) (fun b6 => ?_) (fun b6 => ?_)
      · have h := p_ifT b6 h
        refine g_iload_n (i := 2) (j := 2) (dk_Step_planFault 14 rfl) rfl rfl ?_
        refine g_iconst (dk_Step_planFault 15 rfl) (by decide) ?_
        refine g_icmp_lt 40 (dk_Step_planFault 16 rfl) (by decide) (fun b7 => ?_) (fun b7 => ?_)
        · have h := p_ifT b7 h
          refine g_bipush (dk_Step_planFault 26 rfl) (by decide +kernel) (by decide) ?_
          cases h
          exact g_ret rfl rfl (dk_Step_planFault 27 rfl) (fun os => ⟨_, rfl, p_okh os⟩)
        · have h := p_ifF b7 h
          refine g_aload_n (i := 1) (j := 1) (dk_Step_planFault 17 rfl) rfl rfl ?_
          refine g_iconst (dk_Step_planFault 18 rfl) (by decide) ?_
          obtain ⟨c8, h⟩ := p_gdE h
          refine g_iaload (dk_Step_planFault 19 rfl) c2 c8.1 c8.2 ?_
          refine g_if_lt 40 (dk_Step_planFault 20 rfl) (by decide) (fun b9 => ?_) (fun b9 => ?_)
          · have h := p_ifT b9 h
            refine g_bipush (dk_Step_planFault 26 rfl) (by decide +kernel) (by decide) ?_
            cases h
            exact g_ret rfl rfl (dk_Step_planFault 27 rfl) (fun os => ⟨_, rfl, p_okh os⟩)
          · have h := p_ifF b9 h
            refine g_aload_n (i := 1) (j := 1) (dk_Step_planFault 21 rfl) rfl rfl ?_
            refine g_iconst (dk_Step_planFault 22 rfl) (by decide) ?_
            obtain ⟨c10, h⟩ := p_gdE h
            refine g_iaload (dk_Step_planFault 23 rfl) c2 c10.1 c10.2 ?_
            refine g_bipush (dk_Step_planFault 24 rfl) (by decide +kernel) (by decide) ?_
            refine g_icmp_lt 43 (dk_Step_planFault 25 rfl) (by decide) (fun b11 => ?_) (fun b11 => ?_)
            · have h := p_ifT b11 h
              refine g_aload_n (i := 0) (j := 0) (dk_Step_planFault 28 rfl) rfl rfl ?_
              obtain ⟨c12, h⟩ := p_gdE h
              refine g_getR fl_Step_18 (Or.inl ⟨_, rfl⟩) (dk_Step_planFault 29 rfl) c12 ?_
              refine g_aload_n (i := 1) (j := 1) (dk_Step_planFault 30 rfl) rfl rfl ?_
              refine g_iconst (dk_Step_planFault 31 rfl) (by decide) ?_
              obtain ⟨c13, h⟩ := p_gdE h
              refine g_iaload (dk_Step_planFault 32 rfl) c2 c13.1 c13.2 ?_
              obtain ⟨c14, h⟩ := p_gdE h
              obtain ⟨r19, s15, q16, h⟩ := p_bdE h
              have t17 := tF_Works_gearOf K l (p_R s0 v0 2) (p_Z s0 v1 (2 : Int).toNat) s0 _ q16
              refine g_callV (a := (p_R s0 v0 2)) (ci := 9) (q0 := (RX9, TX9, 15)) (As := [p_i (p_Z s0 v1 (2 : Int).toNat)]) (rest := []) [p_r r19] mt_Works_gearOf rfl rfl tw_3_104 tw_3_105 tw_4_169 ⟨Nat.le_of_ble_eq_true rfl, Nat.le_of_ble_eq_true rfl⟩ rfl (Nat.le_of_ble_eq_true rfl) (dk_Step_planFault 33 rfl) rfl c14 rfl t17 ?_
              have hs18 : p_x s0 s15 := t17.1
              show p_Go K l m_Step_planFault 53 [(0, p_r v0), (1, p_r v1), (2, p_i v2)] [p_r r19] s15 _
              refine g_astore_n (i := 3) [(3, p_r r19), (0, p_r v0), (1, p_r v1), (2, p_i v2)] (dk_Step_planFault 34 rfl) rfl (by decide) rfl ?_
              refine g_aload_n (i := 3) (j := 0) (dk_Step_planFault 35 rfl) rfl rfl ?_
              refine g_ifnonnull 61 (dk_Step_planFault 36 rfl) (by decide) (fun b20 => ?_) (fun b20 => ?_)
              · have h := p_ifT b20 h
                refine g_aload_n (i := 3) (j := 0) (dk_Step_planFault 39 rfl) rfl rfl ?_
                refine g_aload_n (i := 1) (j := 2) (dk_Step_planFault 40 rfl) rfl rfl ?_
                refine g_iconst (dk_Step_planFault 41 rfl) (by decide) ?_
                obtain ⟨c21, h⟩ := p_gdE h
                refine g_iaload (dk_Step_planFault 42 rfl) (c2.up hs18) c21.1 c21.2 ?_
                obtain ⟨r26, s22, q23, h⟩ := p_bdE h
                have t24 := tF_Step_isForPlan K l r19 (p_Z s15 v1 (1 : Int).toNat) s15 _ q23
                refine g_callS (av := [p_r r19, p_i (p_Z s15 v1 (1 : Int).toNat)]) (rest := []) [p_i r26] mt_Step_isForPlan tw_4_171 tw_4_170 ⟨Nat.le_of_ble_eq_true rfl, Nat.le_of_ble_eq_true rfl⟩ rfl (Nat.le_of_ble_eq_true rfl) (dk_Step_planFault 43 rfl) rfl rfl t24 ?_
                have hs25 : p_x s15 s22 := t24.1
                show p_Go K l m_Step_planFault 68 [(3, p_r r19), (0, p_r v0), (1, p_r v1), (2, p_i v2)] [p_i r26] s22 _
                refine g_if_ne 74 (dk_Step_planFault 44 rfl) (by decide) (fun b27 => ?_) (fun b27 => ?_)
                · have h := p_ifT b27 h
                  refine g_iload_n (i := 2) (j := 3) (dk_Step_planFault 47 rfl) rfl rfl ?_
                  refine g_iconst (dk_Step_planFault 48 rfl) (by decide) ?_
                  refine g_icmp_ge 84 (dk_Step_planFault 49 rfl) (by decide) (fun b28 => ?_) (fun b28 => ?_)
                  · have h := p_ifT b28 h
                    refine g_aload_n (i := 3) (j := 0) (dk_Step_planFault 52 rfl) rfl rfl ?_
                    refine g_aload_n (i := 1) (j := 2) (dk_Step_planFault 53 rfl) rfl rfl ?_
                    refine g_iconst (dk_Step_planFault 54 rfl) (by decide) ?_
                    obtain ⟨c29, h⟩ := p_gdE h
                    refine g_iaload (dk_Step_planFault 55 rfl) (c2.up (hs18.trans hs25)) c29.1 c29.2 ?_
                    refine g_aload_n (i := 1) (j := 2) (dk_Step_planFault 56 rfl) rfl rfl ?_
                    refine g_iconst (dk_Step_planFault 57 rfl) (by decide) ?_
                    obtain ⟨c30, h⟩ := p_gdE h
                    refine g_iaload (dk_Step_planFault 58 rfl) (c2.up (hs18.trans hs25)) c30.1 c30.2 ?_
                    obtain ⟨r35, s31, q32, h⟩ := p_bdE h
                    have t33 := tF_Step_planByNumber K l r19 (p_Z s22 v1 (1 : Int).toNat) (p_Z s22 v1 (3 : Int).toNat) s22 _ q32
                    refine g_callS (av := [p_r r19, p_i (p_Z s22 v1 (1 : Int).toNat), p_i (p_Z s22 v1 (3 : Int).toNat)]) (rest := []) [p_i r35] mt_Step_planByNumber tw_4_175 tw_4_174 ⟨Nat.le_of_ble_eq_true rfl, Nat.le_of_ble_eq_true rfl⟩ rfl (Nat.le_of_ble_eq_true rfl) (dk_Step_planFault 59 rfl) rfl rfl t33 ?_
                    have hs34 : p_x s22 s31 := t33.1
                    show p_Go K l m_Step_planFault 94 [(3, p_r r19), (0, p_r v0), (1, p_r v1), (2, p_i v2)] [p_i r35] s31 _
                    cases h
                    exact g_ret rfl rfl (dk_Step_planFault 60 rfl) (fun os => ⟨_, rfl, p_okh os⟩)
                  · have h := p_ifF b28 h
                    refine g_bipush (dk_Step_planFault 50 rfl) (by decide +kernel) (by decide) ?_
                    refine g_goto 94 (dk_Step_planFault 51 rfl) (by decide) ?_
                    cases h
                    exact g_ret rfl rfl (dk_Step_planFault 60 rfl) (fun os => ⟨_, rfl, p_okh os⟩)
                · have h := p_ifF b27 h
                  refine g_bipush (dk_Step_planFault 45 rfl) (by decide +kernel) (by decide) ?_
                  cases h
                  exact g_ret rfl rfl (dk_Step_planFault 46 rfl) (fun os => ⟨_, rfl, p_okh os⟩)
              · have h := p_ifF b20 h
                refine g_bipush (dk_Step_planFault 37 rfl) (by decide +kernel) (by decide) ?_
                cases h
                exact g_ret rfl rfl (dk_Step_planFault 38 rfl) (fun os => ⟨_, rfl, p_okh os⟩)
            · have h := p_ifF b11 h
              refine g_bipush (dk_Step_planFault 26 rfl) (by decide +kernel) (by decide) ?_
              cases h
              exact g_ret rfl rfl (dk_Step_planFault 27 rfl) (fun os => ⟨_, rfl, p_okh os⟩)
      · have h := p_ifF b6 h
        refine g_bipush (dk_Step_planFault 12 rfl) (by decide +kernel) (by decide) ?_
        cases h
        exact g_ret rfl rfl (dk_Step_planFault 13 rfl) (fun os => ⟨_, rfl, p_okh os⟩)
def m_Step_doPlan : p_Me := (⟨"SortWorks$Step", "doPlan", "(I)V"⟩, prog_10_method_6_code, 4, none, 3, 67)
theorem mt_Step_doPlan : p_Mt m_Step_doPlan 1 := ⟨p_mem (p_tb4 (List.mem_of_getElem? (i := 164) rfl)) rfl, tw_1_9, by decide +kernel, by decide +kernel, by decide +kernel⟩
def dt_Step_doPlan : List (Nat × Instr × Nat) := [(0, .aload_n 0, 1), (1, .getfield 18, 3), (4, .getfield 114, 3), (7, .iload_n 1, 1), (8, .aaload, 1), (9, .astore_n 2, 1), (10, .aload_n 2, 1), (11, .iconst 0, 1), (12, .iaload, 1), (13, .aload_n 0, 1), (14, .getfield 28, 3), (17, .getfield 54, 3), (20, .if_icmp .eq 4, 3), (23, .return_, 1), (24, .aload_n 0, 1), (25, .aload_n 2, 1), (26, .aload_n 0, 1), (27, .getfield 18, 3), (30, .getfield 118, 3), (33, .iload_n 1, 1), (34, .iaload, 1), (35, .invokevirtual 121, 3), (38, .istore_n 3, 1), (39, .iload_n 3, 1), (40, .ifCond .eq 12, 3), (43, .aload_n 0, 1), (44, .bipush (-9), 2), (46, .iconst 5, 1), (47, .iload_n 3, 1), (48, .iload_n 1, 1), (49, .invokevirtual 125, 3), (52, .return_, 1)]
theorem dk_Step_doPlan (i : Nat) {pc : Nat} {ins : Instr} {len : Nat} (h : dt_Step_doPlan[i]? = some (pc, ins, len)) : decode m_Step_doPlan.2.1 pc = .ok (ins, len) := p_dk (b := m_Step_doPlan.2.1) (t := dt_Step_doPlan) (by decide +kernel) i h
def F_Step_doPlan (v0 : Nat) (v1 : Int) (s0 : p_Hp) : Option p_Hp :=
  p_gd (p_is s0 v0 8) <|
  p_gd (p_is s0 (p_R s0 v0 2) 9) <|
  p_gd (p_is s0 (p_R s0 (p_R s0 v0 2) 4) 103) <|
  p_gd ((0 : Int) ≤ v1 ∧ v1 < (p_L s0 (p_R s0 (p_R s0 v0 2) 4) : Int)) <|
  p_bi ((p_R s0 (p_R s0 (p_R s0 v0 2) 4) (v1 : Int).toNat)) fun x5 =>
  p_gd (p_is s0 x5 100) <|
  p_gd ((0 : Int) ≤ 0 ∧ 0 < (p_L s0 x5 : Int)) <|
  p_gd (p_is s0 (p_R s0 v0 3) 7) <|
  if (p_Z s0 x5 (0 : Int).toNat) = (p_Z s0 (p_R s0 v0 3) 0) then
    p_gd (p_is s0 (p_R s0 (p_R s0 v0 2) 5) 100) <|
    p_gd ((0 : Int) ≤ v1 ∧ v1 < (p_L s0 (p_R s0 (p_R s0 v0 2) 5) : Int)) <|
    p_bd (F_Step_planFault v0 x5 (p_Z s0 (p_R s0 (p_R s0 v0 2) 5) (v1 : Int).toNat) s0) fun r16 s12 =>
    if r16 = 0 then
      some s12
    else
      p_bv (F_Step_addFinding v0 (-9) 5 r16 v1 s12) fun s18 =>
      some s18
  else
    some s0
set_option maxRecDepth 100000 in
set_option maxHeartbeats 4000000 in
theorem tF_Step_doPlan (K : p_K) (l : Launch) (v0 : Nat) (v1 : Int) (s0 : p_Hp) (r : p_Hp) (h : F_Step_doPlan v0 v1 s0 = some r) : p_Ct K l m_Step_doPlan [p_r v0, p_i v1] s0 (none, r) := by
  refine p_Ct.of (by decide +kernel) (Nat.le_of_ble_eq_true rfl) ?_
  unfold F_Step_doPlan at h
  show p_Go K l m_Step_doPlan 0 [(0, p_r v0), (1, p_i v1)] [] s0 _
  refine g_aload_n (i := 0) (j := 0) (dk_Step_doPlan 0 rfl) rfl rfl ?_
  obtain ⟨c1, h⟩ := p_gdE h
  refine g_getR fl_Step_18 (Or.inl ⟨_, rfl⟩) (dk_Step_doPlan 1 rfl) c1 ?_
  obtain ⟨c2, h⟩ := p_gdE h
  refine g_getR fl_Step_114 (Or.inr ⟨_, rfl⟩) (dk_Step_doPlan 2 rfl) c2 ?_
  refine g_iload_n (i := 1) (j := 1) (dk_Step_doPlan 3 rfl) rfl rfl ?_
  obtain ⟨c3, h⟩ := p_gdE h
  obtain ⟨c4, h⟩ := p_gdE h
  refine g_aaload (i := 3) rfl (Or.inr ⟨_, rfl⟩) (dk_Step_doPlan 4 rfl) c3 c4.1 c4.2 ?_
  refine g_astore_n (i := 2) [(2, p_r (p_R s0 (p_R s0 (p_R s0 v0 2) 4) (v1 : Int).toNat)), (0, p_r v0), (1, p_i v1)] (dk_Step_doPlan 5 rfl) rfl (by decide) rfl ?_
  refine p_ltG (P := fun q => p_Go K l m_Step_doPlan 10 [(2, p_r q), (0, p_r v0), (1, p_i v1)] [] s0 _) ?_ h
  intro x5 h
  refine g_aload_n (i := 2) (j := 0) (dk_Step_doPlan 6 rfl) rfl rfl ?_
  refine g_iconst (dk_Step_doPlan 7 rfl) (by decide) ?_
  obtain ⟨c6, h⟩ := p_gdE h
  obtain ⟨c7, h⟩ := p_gdE h
  refine g_iaload (dk_Step_doPlan 8 rfl) c6 c7.1 c7.2 ?_
  refine g_aload_n (i := 0) (j := 1) (dk_Step_doPlan 9 rfl) rfl rfl ?_
  refine g_getR fl_Step_28 (Or.inl ⟨_, rfl⟩) (dk_Step_doPlan 10 rfl) c1 ?_
  obtain ⟨c8, h⟩ := p_gdE h
  refine g_getI fl_Step_54 (Or.inl rfl) (dk_Step_doPlan 11 rfl) c8 ?_
  refine g_icmp_eq 24 (dk_Step_doPlan 12 rfl) (by decide) (fun b9 => ?_) (fun b9 => ?_)
  · have h := p_ifT b9 h
    refine g_aload_n (i := 0) (j := 1) (dk_Step_doPlan 14 rfl) rfl rfl ?_
    refine g_aload_n (i := 2) (j := 0) (dk_Step_doPlan 15 rfl) rfl rfl ?_
    refine g_aload_n (i := 0) (j := 1) (dk_Step_doPlan 16 rfl) rfl rfl ?_
    refine g_getR fl_Step_18 (Or.inl ⟨_, rfl⟩) (dk_Step_doPlan 17 rfl) c1 ?_
    refine g_getR fl_Step_118 (Or.inr ⟨_, rfl⟩) (dk_Step_doPlan 18 rfl) c2 ?_
    refine g_iload_n (i := 1) (j := 2) (dk_Step_doPlan 19 rfl) rfl rfl ?_
    obtain ⟨c10, h⟩ := p_gdE h
    obtain ⟨c11, h⟩ := p_gdE h
    refine g_iaload (dk_Step_doPlan 20 rfl) c10 c11.1 c11.2 ?_
    obtain ⟨r16, s12, q13, h⟩ := p_bdE h
    have t14 := tF_Step_planFault K l v0 x5 (p_Z s0 (p_R s0 (p_R s0 v0 2) 5) (v1 : Int).toNat) s0 _ q13
    refine g_callV (a := v0) (ci := 8) (q0 := (RX8, TX8, 5)) (As := [p_r x5, p_i (p_Z s0 (p_R s0 (p_R s0 v0 2) 5) (v1 : Int).toNat)]) (rest := []) [p_i r16] mt_Step_planFault rfl rfl tw_4_167 ts_15 tw_4_165 ⟨Nat.le_of_ble_eq_true rfl, Nat.le_of_ble_eq_true rfl⟩ rfl (Nat.le_of_ble_eq_true rfl) (dk_Step_doPlan 21 rfl) rfl c1 rfl t14 ?_
    have hs15 : p_x s0 s12 := t14.1
    show p_Go K l m_Step_doPlan 38 [(2, p_r x5), (0, p_r v0), (1, p_i v1)] [p_i r16] s12 _
    refine g_istore_n (i := 3) [(3, p_i r16), (2, p_r x5), (0, p_r v0), (1, p_i v1)] (dk_Step_doPlan 22 rfl) rfl (by decide) rfl ?_
    refine g_iload_n (i := 3) (j := 0) (dk_Step_doPlan 23 rfl) rfl rfl ?_
    refine g_if_eq 52 (dk_Step_doPlan 24 rfl) (by decide) (fun b17 => ?_) (fun b17 => ?_)
    · have h := p_ifT b17 h
      cases h
      exact g_ret rfl rfl (dk_Step_doPlan 31 rfl) (fun _ => rfl)
    · have h := p_ifF b17 h
      refine g_aload_n (i := 0) (j := 2) (dk_Step_doPlan 25 rfl) rfl rfl ?_
      refine g_bipush (dk_Step_doPlan 26 rfl) (by decide +kernel) (by decide) ?_
      refine g_iconst (dk_Step_doPlan 27 rfl) (by decide) ?_
      refine g_iload_n (i := 3) (j := 0) (dk_Step_doPlan 28 rfl) rfl rfl ?_
      refine g_iload_n (i := 1) (j := 3) (dk_Step_doPlan 29 rfl) rfl rfl ?_
      obtain ⟨s18, q19, h⟩ := p_bvE h
      have t20 := tF_Step_addFinding K l v0 (-9) 5 r16 v1 s12 _ q19
      refine g_callV (a := v0) (ci := 8) (q0 := (RX8, TX8, 5)) (As := [p_i (-9), p_i 5, p_i r16, p_i v1]) (rest := []) [] mt_Step_addFinding rfl rfl tw_4_181 ts_16 tw_4_179 ⟨Nat.le_of_ble_eq_true rfl, Nat.le_of_ble_eq_true rfl⟩ rfl (Nat.le_of_ble_eq_true rfl) (dk_Step_doPlan 30 rfl) rfl (c1.up hs15) rfl t20 ?_
      have hs21 : p_x s12 s18 := t20.1
      show p_Go K l m_Step_doPlan 52 [(3, p_i r16), (2, p_r x5), (0, p_r v0), (1, p_i v1)] [] s18 _
      cases h
      exact g_ret rfl rfl (dk_Step_doPlan 31 rfl) (fun _ => rfl)
  · have h := p_ifF b9 h
    cases h
    exact g_ret rfl rfl (dk_Step_doPlan 13 rfl) (fun _ => rfl)
def m_Step_isInStep : p_Me := (⟨"SortWorks$Step", "isInStep", "(LSortWorks$Gear;)Z"⟩, prog_10_method_3_code, 2, (some .boolean), 0, 0)
theorem mt_Step_isInStep : p_Mt m_Step_isInStep 1 := ⟨p_mem (p_tb4 (List.mem_of_getElem? (i := 199) rfl)) rfl, tw_1_9, by decide +kernel, by decide +kernel, by decide +kernel⟩
def dt_Step_isInStep : List (Nat × Instr × Nat) := [(0, .aload_n 0, 1), (1, .getfield 28, 3), (4, .getfield 54, 3), (7, .getstatic 93, 3), (10, .aload_n 1, 1), (11, .getfield 97, 3), (14, .iaload, 1), (15, .irem, 1), (16, .ifCond .ne 7, 3), (19, .iconst 1, 1), (20, .goto 4, 3), (23, .iconst 0, 1), (24, .ireturn, 1)]
theorem dk_Step_isInStep (i : Nat) {pc : Nat} {ins : Instr} {len : Nat} (h : dt_Step_isInStep[i]? = some (pc, ins, len)) : decode m_Step_isInStep.2.1 pc = .ok (ins, len) := p_dk (b := m_Step_isInStep.2.1) (t := dt_Step_isInStep) (by decide +kernel) i h
def F_Step_isInStep (v0 : Nat) (v1 : Nat) (s0 : p_Hp) : Option (Int × p_Hp) :=
  p_gd (p_is s0 v0 8) <|
  p_gd (p_is s0 (p_R s0 v0 3) 7) <|
  p_gd (p_is s0 v1 0) <|
  p_gd ((0 : Int) ≤ (p_Z s0 v1 0) ∧ (p_Z s0 v1 0) < (sw_tl 2 : Int)) <|
  p_gd ((sw_tab 2 ((p_Z s0 v1 0) : Int).toNat) ≠ 0) <|
  if (p_rem (p_Z s0 (p_R s0 v0 3) 0) (sw_tab 2 ((p_Z s0 v1 0) : Int).toNat)) ≠ 0 then
    some (0, s0)
  else
    some (1, s0)
set_option maxRecDepth 100000 in
set_option maxHeartbeats 4000000 in
theorem tF_Step_isInStep (K : p_K) (l : Launch) (v0 : Nat) (v1 : Nat) (s0 : p_Hp) (r : (Int × p_Hp)) (h : F_Step_isInStep v0 v1 s0 = some r) : p_Ct K l m_Step_isInStep [p_r v0, p_r v1] s0 (some (p_i r.1), r.2) := by
  refine p_Ct.of (by decide +kernel) (Nat.le_of_ble_eq_true rfl) ?_
  unfold F_Step_isInStep at h
  show p_Go K l m_Step_isInStep 0 [(0, p_r v0), (1, p_r v1)] [] s0 _
  refine g_aload_n (i := 0) (j := 0) (dk_Step_isInStep 0 rfl) rfl rfl ?_
  obtain ⟨c1, h⟩ := p_gdE h
  refine g_getR fl_Step_28 (Or.inl ⟨_, rfl⟩) (dk_Step_isInStep 1 rfl) c1 ?_
  obtain ⟨c2, h⟩ := p_gdE h
  refine g_getI fl_Step_54 (Or.inl rfl) (dk_Step_isInStep 2 rfl) c2 ?_
  refine g_getstatic (j := 2) rfl (by decide) (dk_Step_isInStep 3 rfl) ?_
  refine g_aload_n (i := 1) (j := 1) (dk_Step_isInStep 4 rfl) rfl rfl ?_
  obtain ⟨c3, h⟩ := p_gdE h
  refine g_getI fl_Step_97 (Or.inl rfl) (dk_Step_isInStep 5 rfl) c3 ?_
  obtain ⟨c4, h⟩ := p_gdE h
  refine g_tabS (by decide) (dk_Step_isInStep 6 rfl) c4.1 c4.2 ?_
  obtain ⟨c5, h⟩ := p_gdE h
  refine g_irem (dk_Step_isInStep 7 rfl) c5 ?_
  refine g_if_ne 23 (dk_Step_isInStep 8 rfl) (by decide) (fun b6 => ?_) (fun b6 => ?_)
  · have h := p_ifT b6 h
    refine g_iconst (dk_Step_isInStep 11 rfl) (by decide) ?_
    cases h
    exact g_ret rfl rfl (dk_Step_isInStep 12 rfl) (fun _ => ⟨_, rfl, Or.inl rfl⟩)
  · have h := p_ifF b6 h
    refine g_iconst (dk_Step_isInStep 9 rfl) (by decide) ?_
    refine g_goto 24 (dk_Step_isInStep 10 rfl) (by decide) ?_
    cases h
    exact g_ret rfl rfl (dk_Step_isInStep 12 rfl) (fun _ => ⟨_, rfl, Or.inr rfl⟩)
def m_Step_isBetter : p_Me := (⟨"SortWorks$Step", "isBetter", "(ILSortWorks$Gear;)Z"⟩, prog_10_method_12_code, 5, (some .boolean), 0, 0)
theorem mt_Step_isBetter : p_Mt m_Step_isBetter 2 := ⟨p_mem (p_tb4 (List.mem_of_getElem? (i := 219) rfl)) rfl, tw_1_9, by decide +kernel, by decide +kernel, by decide +kernel⟩
def dt_Step_isBetter : List (Nat × Instr × Nat) := [(0, .aload_n 2, 1), (1, .getfield 161, 3), (4, .iconst (-1), 1), (5, .if_icmp .ne 5, 3), (8, .iconst 1, 1), (9, .ireturn, 1), (10, .aload_n 0, 1), (11, .getfield 28, 3), (14, .getfield 82, 3), (17, .iload_n 1, 1), (18, .aaload, 1), (19, .getfield 188, 3), (22, .istore_n 3, 1), (23, .aload_n 0, 1), (24, .getfield 28, 3), (27, .getfield 82, 3), (30, .aload_n 2, 1), (31, .getfield 161, 3), (34, .aaload, 1), (35, .getfield 188, 3), (38, .istore 4, 2), (40, .iload_n 3, 1), (41, .iload 4, 2), (43, .if_icmp .gt 28, 3), (46, .iload_n 3, 1), (47, .iload 4, 2), (49, .if_icmp .ne 26, 3), (52, .aload_n 2, 1), (53, .getfield 161, 3), (56, .aload_n 2, 1), (57, .getfield 191, 3), (60, .if_icmp .gt 15, 3), (63, .iload_n 1, 1), (64, .aload_n 2, 1), (65, .getfield 191, 3), (68, .if_icmp .le 7, 3), (71, .iconst 1, 1), (72, .goto 4, 3), (75, .iconst 0, 1), (76, .ireturn, 1)]
theorem dk_Step_isBetter (i : Nat) {pc : Nat} {ins : Instr} {len : Nat} (h : dt_Step_isBetter[i]? = some (pc, ins, len)) : decode m_Step_isBetter.2.1 pc = .ok (ins, len) := p_dk (b := m_Step_isBetter.2.1) (t := dt_Step_isBetter) (by decide +kernel) i h
def B_Step_isBetter_71   (s0 : p_Hp) : Option (Int × p_Hp) :=
  some (1, s0)
def F_Step_isBetter (v0 : Nat) (v1 : Int) (v2 : Nat) (s0 : p_Hp) : Option (Int × p_Hp) :=
  p_gd (p_is s0 v2 0) <|
  if (p_Z s0 v2 19) ≠ (-1) then
    p_gd (p_is s0 v0 8) <|
    p_gd (p_is s0 (p_R s0 v0 3) 7) <|
    p_gd (p_is s0 (p_R s0 (p_R s0 v0 3) 4) 105) <|
    p_gd ((0 : Int) ≤ v1 ∧ v1 < (p_L s0 (p_R s0 (p_R s0 v0 3) 4) : Int)) <|
    p_gd (p_is s0 (p_R s0 (p_R s0 (p_R s0 v0 3) 4) (v1 : Int).toNat) 0) <|
    p_bi ((p_Z s0 (p_R s0 (p_R s0 (p_R s0 v0 3) 4) (v1 : Int).toNat) 2)) fun x8 =>
    p_gd ((0 : Int) ≤ (p_Z s0 v2 19) ∧ (p_Z s0 v2 19) < (p_L s0 (p_R s0 (p_R s0 v0 3) 4) : Int)) <|
    p_gd (p_is s0 (p_R s0 (p_R s0 (p_R s0 v0 3) 4) ((p_Z s0 v2 19) : Int).toNat) 0) <|
    p_bi ((p_Z s0 (p_R s0 (p_R s0 (p_R s0 v0 3) 4) ((p_Z s0 v2 19) : Int).toNat) 2)) fun x11 =>
    if x11 < x8 then
      B_Step_isBetter_71 s0
    else
      if x8 ≠ x11 then
        some (0, s0)
      else
        if (p_Z s0 v2 15) < (p_Z s0 v2 19) then
          some (0, s0)
        else
          if v1 ≤ (p_Z s0 v2 15) then
            some (0, s0)
          else
            B_Step_isBetter_71 s0
  else
    some (1, s0)
set_option maxRecDepth 100000 in
set_option maxHeartbeats 4000000 in
theorem tB_Step_isBetter_71 (K : p_K) (l : Launch)   (s0 : p_Hp) (r : (Int × p_Hp)) (h : B_Step_isBetter_71  s0 = some r) : p_Go K l m_Step_isBetter 71 [] [] s0 (some (p_i r.1), r.2) := by
  unfold B_Step_isBetter_71 at h
  refine g_iconst (dk_Step_isBetter 36 rfl) (by decide) ?_
  refine g_goto 76 (dk_Step_isBetter 37 rfl) (by decide) ?_
  cases h
  exact g_ret rfl rfl (dk_Step_isBetter 39 rfl) (fun _ => ⟨_, rfl, Or.inr rfl⟩)
set_option maxRecDepth 100000 in
set_option maxHeartbeats 4000000 in
theorem tF_Step_isBetter (K : p_K) (l : Launch) (v0 : Nat) (v1 : Int) (v2 : Nat) (s0 : p_Hp) (r : (Int × p_Hp)) (h : F_Step_isBetter v0 v1 v2 s0 = some r) : p_Ct K l m_Step_isBetter [p_r v0, p_i v1, p_r v2] s0 (some (p_i r.1), r.2) := by
  refine p_Ct.of (by decide +kernel) (Nat.le_of_ble_eq_true rfl) ?_
  unfold F_Step_isBetter at h
  show p_Go K l m_Step_isBetter 0 [(0, p_r v0), (1, p_i v1), (2, p_r v2)] [] s0 _
  refine g_aload_n (i := 2) (j := 2) (dk_Step_isBetter 0 rfl) rfl rfl ?_
  obtain ⟨c1, h⟩ := p_gdE h
  refine g_getI fl_Step_161 (Or.inl rfl) (dk_Step_isBetter 1 rfl) c1 ?_
  refine g_iconst (dk_Step_isBetter 2 rfl) (by decide) ?_
  refine g_icmp_ne 10 (dk_Step_isBetter 3 rfl) (by decide) (fun b2 => ?_) (fun b2 => ?_)
  · have h := p_ifT b2 h
    refine g_aload_n (i := 0) (j := 0) (dk_Step_isBetter 6 rfl) rfl rfl ?_
    obtain ⟨c3, h⟩ := p_gdE h
    refine g_getR fl_Step_28 (Or.inl ⟨_, rfl⟩) (dk_Step_isBetter 7 rfl) c3 ?_
    obtain ⟨c4, h⟩ := p_gdE h
    refine g_getR fl_Step_82 (Or.inr ⟨_, rfl⟩) (dk_Step_isBetter 8 rfl) c4 ?_
    refine g_iload_n (i := 1) (j := 1) (dk_Step_isBetter 9 rfl) rfl rfl ?_
    obtain ⟨c5, h⟩ := p_gdE h
    obtain ⟨c6, h⟩ := p_gdE h
    refine g_aaload (i := 5) rfl (Or.inl ⟨_, rfl⟩) (dk_Step_isBetter 10 rfl) c5 c6.1 c6.2 ?_
    obtain ⟨c7, h⟩ := p_gdE h
    refine g_getI fl_Step_188 (Or.inl rfl) (dk_Step_isBetter 11 rfl) c7 ?_
    refine g_istore_n (i := 3) [(3, p_i (p_Z s0 (p_R s0 (p_R s0 (p_R s0 v0 3) 4) (v1 : Int).toNat) 2)), (0, p_r v0), (1, p_i v1), (2, p_r v2)] (dk_Step_isBetter 12 rfl) rfl (by decide) rfl ?_
    refine p_ltG (P := fun q => p_Go K l m_Step_isBetter 23 [(3, p_i q), (0, p_r v0), (1, p_i v1), (2, p_r v2)] [] s0 _) ?_ h
    intro x8 h
    refine g_aload_n (i := 0) (j := 1) (dk_Step_isBetter 13 rfl) rfl rfl ?_
    refine g_getR fl_Step_28 (Or.inl ⟨_, rfl⟩) (dk_Step_isBetter 14 rfl) c3 ?_
    refine g_getR fl_Step_82 (Or.inr ⟨_, rfl⟩) (dk_Step_isBetter 15 rfl) c4 ?_
    refine g_aload_n (i := 2) (j := 3) (dk_Step_isBetter 16 rfl) rfl rfl ?_
    refine g_getI fl_Step_161 (Or.inl rfl) (dk_Step_isBetter 17 rfl) c1 ?_
    obtain ⟨c9, h⟩ := p_gdE h
    refine g_aaload (i := 5) rfl (Or.inl ⟨_, rfl⟩) (dk_Step_isBetter 18 rfl) c5 c9.1 c9.2 ?_
    obtain ⟨c10, h⟩ := p_gdE h
    refine g_getI fl_Step_188 (Or.inl rfl) (dk_Step_isBetter 19 rfl) c10 ?_
    refine g_istore [(4, p_i (p_Z s0 (p_R s0 (p_R s0 (p_R s0 v0 3) 4) ((p_Z s0 v2 19) : Int).toNat) 2)), (3, p_i x8), (0, p_r v0), (1, p_i v1), (2, p_r v2)] (dk_Step_isBetter 20 rfl) (by decide) rfl ?_
    refine p_ltG (P := fun q => p_Go K l m_Step_isBetter 40 [(4, p_i q), (3, p_i x8), (0, p_r v0), (1, p_i v1), (2, p_r v2)] [] s0 _) ?_ h
    intro x11 h
    refine g_iload_n (i := 3) (j := 1) (dk_Step_isBetter 21 rfl) rfl rfl ?_
    refine g_iload (j := 0) (dk_Step_isBetter 22 rfl) rfl ?_
    refine g_icmp_gt 71 (dk_Step_isBetter 23 rfl) (by decide) (fun b12 => ?_) (fun b12 => ?_)
    · have h := p_ifT b12 h
      refine g_sub [] [] rfl ?_
      exact tB_Step_isBetter_71 K l s0 _ h
    · have h := p_ifF b12 h
      refine g_iload_n (i := 3) (j := 1) (dk_Step_isBetter 24 rfl) rfl rfl ?_
      refine g_iload (j := 0) (dk_Step_isBetter 25 rfl) rfl ?_
      refine g_icmp_ne 75 (dk_Step_isBetter 26 rfl) (by decide) (fun b13 => ?_) (fun b13 => ?_)
      · have h := p_ifT b13 h
        refine g_iconst (dk_Step_isBetter 38 rfl) (by decide) ?_
        cases h
        exact g_ret rfl rfl (dk_Step_isBetter 39 rfl) (fun _ => ⟨_, rfl, Or.inl rfl⟩)
      · have h := p_ifF b13 h
        refine g_aload_n (i := 2) (j := 4) (dk_Step_isBetter 27 rfl) rfl rfl ?_
        refine g_getI fl_Step_161 (Or.inl rfl) (dk_Step_isBetter 28 rfl) c1 ?_
        refine g_aload_n (i := 2) (j := 4) (dk_Step_isBetter 29 rfl) rfl rfl ?_
        refine g_getI fl_Step_191 (Or.inl rfl) (dk_Step_isBetter 30 rfl) c1 ?_
        refine g_icmp_gt 75 (dk_Step_isBetter 31 rfl) (by decide) (fun b14 => ?_) (fun b14 => ?_)
        · have h := p_ifT b14 h
          refine g_iconst (dk_Step_isBetter 38 rfl) (by decide) ?_
          cases h
          exact g_ret rfl rfl (dk_Step_isBetter 39 rfl) (fun _ => ⟨_, rfl, Or.inl rfl⟩)
        · have h := p_ifF b14 h
          refine g_iload_n (i := 1) (j := 3) (dk_Step_isBetter 32 rfl) rfl rfl ?_
          refine g_aload_n (i := 2) (j := 4) (dk_Step_isBetter 33 rfl) rfl rfl ?_
          refine g_getI fl_Step_191 (Or.inl rfl) (dk_Step_isBetter 34 rfl) c1 ?_
          refine g_icmp_le 75 (dk_Step_isBetter 35 rfl) (by decide) (fun b15 => ?_) (fun b15 => ?_)
          · have h := p_ifT b15 h
            refine g_iconst (dk_Step_isBetter 38 rfl) (by decide) ?_
            cases h
            exact g_ret rfl rfl (dk_Step_isBetter 39 rfl) (fun _ => ⟨_, rfl, Or.inl rfl⟩)
          · have h := p_ifF b15 h
            refine g_sub [] [] rfl ?_
            exact tB_Step_isBetter_71 K l s0 _ h
  · have h := p_ifF b2 h
    refine g_iconst (dk_Step_isBetter 4 rfl) (by decide) ?_
    cases h
    exact g_ret rfl rfl (dk_Step_isBetter 5 rfl) (fun _ => ⟨_, rfl, Or.inr rfl⟩)
