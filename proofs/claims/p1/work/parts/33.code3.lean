def m_Reading_readFormB : p_Me := (⟨"SortWorks$Reading", "readFormB", "(LSortWorks$Parcel;)I"⟩, prog_7_method_4_code, 2, (some .int), 0, 0)
theorem mt_Reading_readFormB : p_Mt m_Reading_readFormB 1 := ⟨p_mem (p_tb5 (List.mem_of_getElem? (i := 1) rfl)) rfl, tw_1_10, by decide +kernel, by decide +kernel, by decide +kernel⟩
def dt_Reading_readFormB : List (Nat × Instr × Nat) := [(0, .aload_n 1, 1), (1, .getfield 15, 3), (4, .bipush 6, 2), (6, .if_icmp .ge 6, 3), (9, .bipush (-13), 2), (11, .ireturn, 1), (12, .aload_n 0, 1), (13, .aload_n 1, 1), (14, .getfield 21, 3), (17, .iconst 1, 1), (18, .iaload, 1), (19, .putfield 35, 3), (22, .aload_n 0, 1), (23, .sipush 256, 3), (26, .aload_n 1, 1), (27, .getfield 21, 3), (30, .iconst 2, 1), (31, .iaload, 1), (32, .imul, 1), (33, .aload_n 1, 1), (34, .getfield 21, 3), (37, .iconst 3, 1), (38, .iaload, 1), (39, .iadd, 1), (40, .putfield 38, 3), (43, .aload_n 0, 1), (44, .aload_n 1, 1), (45, .getfield 21, 3), (48, .iconst 4, 1), (49, .iaload, 1), (50, .putfield 41, 3), (53, .aload_n 0, 1), (54, .aload_n 1, 1), (55, .getfield 21, 3), (58, .iconst 5, 1), (59, .iaload, 1), (60, .bipush 7, 2), (62, .aload_n 0, 1), (63, .getfield 35, 3), (66, .imul, 1), (67, .iconst 5, 1), (68, .aload_n 1, 1), (69, .getfield 21, 3), (72, .iconst 2, 1), (73, .iaload, 1), (74, .imul, 1), (75, .iadd, 1), (76, .iconst 3, 1), (77, .aload_n 1, 1), (78, .getfield 21, 3), (81, .iconst 3, 1), (82, .iaload, 1), (83, .imul, 1), (84, .iadd, 1), (85, .aload_n 0, 1), (86, .getfield 41, 3), (89, .iadd, 1), (90, .bipush 97, 2), (92, .irem, 1), (93, .if_icmp .eq 7, 3), (96, .iconst 1, 1), (97, .goto 4, 3), (100, .iconst 0, 1), (101, .putfield 31, 3), (104, .iconst 0, 1), (105, .ireturn, 1)]
theorem dk_Reading_readFormB (i : Nat) {pc : Nat} {ins : Instr} {len : Nat} (h : dt_Reading_readFormB[i]? = some (pc, ins, len)) : decode m_Reading_readFormB.2.1 pc = .ok (ins, len) := p_dk (b := m_Reading_readFormB.2.1) (t := dt_Reading_readFormB) (by decide +kernel) i h
def F_Reading_readFormB (v0 : Nat) (v1 : Nat) (s0 : p_Hp) : Option (Int × p_Hp) :=
  p_gd (p_is s0 v1 4) <|
  if 6 ≤ (p_Z s0 v1 11) then
    p_gd (p_is s0 (p_R s0 v1 12) 100) <|
    p_gd (0 ≤ 1 ∧ 1 < (p_L s0 (p_R s0 v1 12) : Int)) <|
    p_gd (p_is s0 v0 5) <|
    p_bi (p_wZ s0 v0 1 (p_Z s0 (p_R s0 v1 12) (1).toNat)) fun s6 =>
    p_gd (p_is s6 (p_R s6 v1 12) 100) <|
    p_gd (0 ≤ 2 ∧ 2 < (p_L s6 (p_R s6 v1 12) : Int)) <|
    p_gd (0 ≤ 3 ∧ 3 < (p_L s6 (p_R s6 v1 12) : Int)) <|
    p_bi (p_wZ s6 v0 2 (p_w ((p_w (256 * (p_Z s6 (p_R s6 v1 12) (2).toNat))) + (p_Z s6 (p_R s6 v1 12) (3).toNat)))) fun s11 =>
    p_gd (p_is s11 (p_R s11 v1 12) 100) <|
    p_gd (0 ≤ 4 ∧ 4 < (p_L s11 (p_R s11 v1 12) : Int)) <|
    p_bi (p_wZ s11 v0 3 (p_Z s11 (p_R s11 v1 12) (4).toNat)) fun s15 =>
    p_gd (p_is s15 (p_R s15 v1 12) 100) <|
    p_gd (0 ≤ 5 ∧ 5 < (p_L s15 (p_R s15 v1 12) : Int)) <|
    p_gd (0 ≤ 2 ∧ 2 < (p_L s15 (p_R s15 v1 12) : Int)) <|
    p_gd (0 ≤ 3 ∧ 3 < (p_L s15 (p_R s15 v1 12) : Int)) <|
    if (p_Z s15 (p_R s15 v1 12) (5).toNat) = (p_rem (p_w ((p_w ((p_w ((p_w (7 * (p_Z s15 v0 1))) + (p_w (5 * (p_Z s15 (p_R s15 v1 12) (2).toNat))))) + (p_w (3 * (p_Z s15 (p_R s15 v1 12) (3).toNat))))) + (p_Z s15 v0 3))) 97) then
      p_bi (p_wZ s15 v0 0 0) fun s22 =>
      some (0, s22)
    else
      p_bi (p_wZ s15 v0 0 1) fun s24 =>
      some (0, s24)
  else
    some ((-13), s0)
set_option maxRecDepth 100000 in
set_option maxHeartbeats 4000000 in
theorem tF_Reading_readFormB (K : p_K) (l : Launch) (v0 : Nat) (v1 : Nat) (s0 : p_Hp) (r : (Int × p_Hp)) (h : F_Reading_readFormB v0 v1 s0 = some r) : p_Ct K l m_Reading_readFormB [p_r v0, p_r v1] s0 (some (p_i r.1), r.2) := by
  refine p_Ct.of (by decide) (Nat.le_of_ble_eq_true rfl) ?_
  unfold F_Reading_readFormB at h
  show p_Go K l m_Reading_readFormB 0 [(0, p_r v0), (1, p_r v1)] [] s0 _
  refine g_aload_n (i := 1) (j := 1) (dk_Reading_readFormB 0 rfl) rfl rfl ?_
  obtain ⟨c1, h⟩ := p_gdE h
  refine g_getI fl_Reading_15 (Or.inl rfl) (dk_Reading_readFormB 1 rfl) c1 ?_
  refine g_bipush (dk_Reading_readFormB 2 rfl) rfl (by decide) ?_
  refine g_icmp_ge 12 (dk_Reading_readFormB 3 rfl) (by decide) (fun b2 => ?_) (fun b2 => ?_)
  · have h := p_ifT b2 h
    refine g_aload_n (i := 0) (j := 0) (dk_Reading_readFormB 6 rfl) rfl rfl ?_
    refine g_aload_n (i := 1) (j := 1) (dk_Reading_readFormB 7 rfl) rfl rfl ?_
    refine g_getR fl_Reading_21 (Or.inr ⟨_, rfl⟩) (dk_Reading_readFormB 8 rfl) c1 ?_
    refine g_iconst (dk_Reading_readFormB 9 rfl) (by decide) ?_
    obtain ⟨c3, h⟩ := p_gdE h
    obtain ⟨c4, h⟩ := p_gdE h
    refine g_iaload (dk_Reading_readFormB 10 rfl) c3 c4.1 c4.2 ?_
    obtain ⟨c5, h⟩ := p_gdE h
    refine g_putI fl_Reading_35 (Or.inl rfl) (dk_Reading_readFormB 11 rfl) c5 ?_
    refine p_ltS (P := fun q => p_Go K l m_Reading_readFormB 22 [(0, p_r v0), (1, p_r v1)] [] q _) (p_xZ _ _ _ _) ?_ h
    intro s6 hs7 h
    refine g_aload_n (i := 0) (j := 0) (dk_Reading_readFormB 12 rfl) rfl rfl ?_
    refine g_sipush (dk_Reading_readFormB 13 rfl) rfl (by decide) ?_
    refine g_aload_n (i := 1) (j := 1) (dk_Reading_readFormB 14 rfl) rfl rfl ?_
    refine g_getR fl_Reading_21 (Or.inr ⟨_, rfl⟩) (dk_Reading_readFormB 15 rfl) (c1.up hs7) ?_
    refine g_iconst (dk_Reading_readFormB 16 rfl) (by decide) ?_
    obtain ⟨c8, h⟩ := p_gdE h
    obtain ⟨c9, h⟩ := p_gdE h
    refine g_iaload (dk_Reading_readFormB 17 rfl) c8 c9.1 c9.2 ?_
    refine g_imul (dk_Reading_readFormB 18 rfl) ?_
    refine g_aload_n (i := 1) (j := 1) (dk_Reading_readFormB 19 rfl) rfl rfl ?_
    refine g_getR fl_Reading_21 (Or.inr ⟨_, rfl⟩) (dk_Reading_readFormB 20 rfl) (c1.up hs7) ?_
    refine g_iconst (dk_Reading_readFormB 21 rfl) (by decide) ?_
    obtain ⟨c10, h⟩ := p_gdE h
    refine g_iaload (dk_Reading_readFormB 22 rfl) c8 c10.1 c10.2 ?_
    refine g_iadd (dk_Reading_readFormB 23 rfl) ?_
    refine g_putI fl_Reading_38 (Or.inl rfl) (dk_Reading_readFormB 24 rfl) (c5.up hs7) ?_
    refine p_ltS (P := fun q => p_Go K l m_Reading_readFormB 43 [(0, p_r v0), (1, p_r v1)] [] q _) (p_xZ _ _ _ _) ?_ h
    intro s11 hs12 h
    refine g_aload_n (i := 0) (j := 0) (dk_Reading_readFormB 25 rfl) rfl rfl ?_
    refine g_aload_n (i := 1) (j := 1) (dk_Reading_readFormB 26 rfl) rfl rfl ?_
    refine g_getR fl_Reading_21 (Or.inr ⟨_, rfl⟩) (dk_Reading_readFormB 27 rfl) (c1.up (hs7.trans hs12)) ?_
    refine g_iconst (dk_Reading_readFormB 28 rfl) (by decide) ?_
    obtain ⟨c13, h⟩ := p_gdE h
    obtain ⟨c14, h⟩ := p_gdE h
    refine g_iaload (dk_Reading_readFormB 29 rfl) c13 c14.1 c14.2 ?_
    refine g_putI fl_Reading_41 (Or.inl rfl) (dk_Reading_readFormB 30 rfl) (c5.up (hs7.trans hs12)) ?_
    refine p_ltS (P := fun q => p_Go K l m_Reading_readFormB 53 [(0, p_r v0), (1, p_r v1)] [] q _) (p_xZ _ _ _ _) ?_ h
    intro s15 hs16 h
    refine g_aload_n (i := 0) (j := 0) (dk_Reading_readFormB 31 rfl) rfl rfl ?_
    refine g_aload_n (i := 1) (j := 1) (dk_Reading_readFormB 32 rfl) rfl rfl ?_
    refine g_getR fl_Reading_21 (Or.inr ⟨_, rfl⟩) (dk_Reading_readFormB 33 rfl) (c1.up (hs7.trans (hs12.trans hs16))) ?_
    refine g_iconst (dk_Reading_readFormB 34 rfl) (by decide) ?_
    obtain ⟨c17, h⟩ := p_gdE h
    obtain ⟨c18, h⟩ := p_gdE h
    refine g_iaload (dk_Reading_readFormB 35 rfl) c17 c18.1 c18.2 ?_
    refine g_bipush (dk_Reading_readFormB 36 rfl) rfl (by decide) ?_
    refine g_aload_n (i := 0) (j := 0) (dk_Reading_readFormB 37 rfl) rfl rfl ?_
    refine g_getI fl_Reading_35 (Or.inl rfl) (dk_Reading_readFormB 38 rfl) (c5.up (hs7.trans (hs12.trans hs16))) ?_
    refine g_imul (dk_Reading_readFormB 39 rfl) ?_
    refine g_iconst (dk_Reading_readFormB 40 rfl) (by decide) ?_
    refine g_aload_n (i := 1) (j := 1) (dk_Reading_readFormB 41 rfl) rfl rfl ?_
    refine g_getR fl_Reading_21 (Or.inr ⟨_, rfl⟩) (dk_Reading_readFormB 42 rfl) (c1.up (hs7.trans (hs12.trans hs16))) ?_
    refine g_iconst (dk_Reading_readFormB 43 rfl) (by decide) ?_
    obtain ⟨c19, h⟩ := p_gdE h
    refine g_iaload (dk_Reading_readFormB 44 rfl) c17 c19.1 c19.2 ?_
    refine g_imul (dk_Reading_readFormB 45 rfl) ?_
    refine g_iadd (dk_Reading_readFormB 46 rfl) ?_
    refine g_iconst (dk_Reading_readFormB 47 rfl) (by decide) ?_
    refine g_aload_n (i := 1) (j := 1) (dk_Reading_readFormB 48 rfl) rfl rfl ?_
    refine g_getR fl_Reading_21 (Or.inr ⟨_, rfl⟩) (dk_Reading_readFormB 49 rfl) (c1.up (hs7.trans (hs12.trans hs16))) ?_
    refine g_iconst (dk_Reading_readFormB 50 rfl) (by decide) ?_
    obtain ⟨c20, h⟩ := p_gdE h
    refine g_iaload (dk_Reading_readFormB 51 rfl) c17 c20.1 c20.2 ?_
    refine g_imul (dk_Reading_readFormB 52 rfl) ?_
    refine g_iadd (dk_Reading_readFormB 53 rfl) ?_
    refine g_aload_n (i := 0) (j := 0) (dk_Reading_readFormB 54 rfl) rfl rfl ?_
    refine g_getI fl_Reading_41 (Or.inl rfl) (dk_Reading_readFormB 55 rfl) (c5.up (hs7.trans (hs12.trans hs16))) ?_
    refine g_iadd (dk_Reading_readFormB 56 rfl) ?_
    refine g_bipush (dk_Reading_readFormB 57 rfl) rfl (by decide) ?_
    refine g_irem (dk_Reading_readFormB 58 rfl) (by decide) ?_
    refine g_icmp_eq 100 (dk_Reading_readFormB 59 rfl) (by decide) (fun b21 => ?_) (fun b21 => ?_)
    · have h := p_ifT b21 h
      refine g_iconst (dk_Reading_readFormB 62 rfl) (by decide) ?_
      refine g_putB fl_Reading_31 (Or.inl rfl) (dk_Reading_readFormB 63 rfl) (c5.up (hs7.trans (hs12.trans hs16))) (Or.inl rfl) ?_
      refine p_ltS (P := fun q => p_Go K l m_Reading_readFormB 104 [(0, p_r v0), (1, p_r v1)] [] q _) (p_xZ _ _ _ _) ?_ h
      intro s22 hs23 h
      refine g_iconst (dk_Reading_readFormB 64 rfl) (by decide) ?_
      cases h
      exact g_ret rfl rfl (dk_Reading_readFormB 65 rfl) (fun os => ⟨_, rfl, p_okh os⟩)
    · have h := p_ifF b21 h
      refine g_iconst (dk_Reading_readFormB 60 rfl) (by decide) ?_
      refine g_goto 101 (dk_Reading_readFormB 61 rfl) (by decide) ?_
      refine g_putB fl_Reading_31 (Or.inl rfl) (dk_Reading_readFormB 63 rfl) (c5.up (hs7.trans (hs12.trans hs16))) (Or.inr rfl) ?_
      refine p_ltS (P := fun q => p_Go K l m_Reading_readFormB 104 [(0, p_r v0), (1, p_r v1)] [] q _) (p_xZ _ _ _ _) ?_ h
      intro s24 hs25 h
      refine g_iconst (dk_Reading_readFormB 64 rfl) (by decide) ?_
      cases h
      exact g_ret rfl rfl (dk_Reading_readFormB 65 rfl) (fun os => ⟨_, rfl, p_okh os⟩)
  · have h := p_ifF b2 h
    refine g_bipush (dk_Reading_readFormB 4 rfl) rfl (by decide) ?_
    cases h
    exact g_ret rfl rfl (dk_Reading_readFormB 5 rfl) (fun os => ⟨_, rfl, p_okh os⟩)
def m_Reading_read : p_Me := (⟨"SortWorks$Reading", "read", "(LSortWorks$Parcel;)I"⟩, prog_7_method_2_code, 2, (some .int), 1, 22)
theorem mt_Reading_read : p_Mt m_Reading_read 1 := ⟨p_mem (p_tb4 (List.mem_of_getElem? (i := 233) rfl)) rfl, tw_1_10, by decide +kernel, by decide +kernel, by decide +kernel⟩
def dt_Reading_read : List (Nat × Instr × Nat) := [(0, .aload_n 1, 1), (1, .getfield 15, 3), (4, .iconst (-1), 1), (5, .if_icmp .ne 6, 3), (8, .bipush (-11), 2), (10, .ireturn, 1), (11, .aload_n 1, 1), (12, .getfield 15, 3), (15, .ifCond .ne 6, 3), (18, .bipush (-13), 2), (20, .ireturn, 1), (21, .aload_n 1, 1), (22, .getfield 21, 3), (25, .iconst 0, 1), (26, .iaload, 1), (27, .bipush 65, 2), (29, .if_icmp .ne 9, 3), (32, .aload_n 0, 1), (33, .aload_n 1, 1), (34, .invokevirtual 24, 3), (37, .ireturn, 1), (38, .aload_n 1, 1), (39, .getfield 21, 3), (42, .iconst 0, 1), (43, .iaload, 1), (44, .bipush 66, 2), (46, .if_icmp .ne 9, 3), (49, .aload_n 0, 1), (50, .aload_n 1, 1), (51, .invokevirtual 28, 3), (54, .ireturn, 1), (55, .aload_n 0, 1), (56, .iconst 1, 1), (57, .putfield 31, 3), (60, .iconst 0, 1), (61, .ireturn, 1)]
theorem dk_Reading_read (i : Nat) {pc : Nat} {ins : Instr} {len : Nat} (h : dt_Reading_read[i]? = some (pc, ins, len)) : decode m_Reading_read.2.1 pc = .ok (ins, len) := p_dk (b := m_Reading_read.2.1) (t := dt_Reading_read) (by decide +kernel) i h
def F_Reading_read (v0 : Nat) (v1 : Nat) (s0 : p_Hp) : Option (Int × p_Hp) :=
  p_gd (p_is s0 v1 4) <|
  if (p_Z s0 v1 11) ≠ (-1) then
    if (p_Z s0 v1 11) ≠ 0 then
      p_gd (p_is s0 (p_R s0 v1 12) 100) <|
      p_gd (0 ≤ 0 ∧ 0 < (p_L s0 (p_R s0 v1 12) : Int)) <|
      if (p_Z s0 (p_R s0 v1 12) (0).toNat) ≠ 65 then
        p_gd (0 ≤ 0 ∧ 0 < (p_L s0 (p_R s0 v1 12) : Int)) <|
        if (p_Z s0 (p_R s0 v1 12) (0).toNat) ≠ 66 then
          p_gd (p_is s0 v0 5) <|
          p_bi (p_wZ s0 v0 0 1) fun s10 =>
          some (0, s10)
        else
          p_gd (p_is s0 v0 5) <|
          p_bd (F_Reading_readFormB v0 v1 s0) fun r17 s13 =>
          some (r17, s13)
      else
        p_gd (p_is s0 v0 5) <|
        p_bd (F_Reading_readFormA v0 v1 s0) fun r23 s19 =>
        some (r23, s19)
    else
      some ((-13), s0)
  else
    some ((-11), s0)
set_option maxRecDepth 100000 in
set_option maxHeartbeats 4000000 in
theorem tF_Reading_read (K : p_K) (l : Launch) (v0 : Nat) (v1 : Nat) (s0 : p_Hp) (r : (Int × p_Hp)) (h : F_Reading_read v0 v1 s0 = some r) : p_Ct K l m_Reading_read [p_r v0, p_r v1] s0 (some (p_i r.1), r.2) := by
  refine p_Ct.of (by decide) (Nat.le_of_ble_eq_true rfl) ?_
  unfold F_Reading_read at h
  show p_Go K l m_Reading_read 0 [(0, p_r v0), (1, p_r v1)] [] s0 _
  refine g_aload_n (i := 1) (j := 1) (dk_Reading_read 0 rfl) rfl rfl ?_
  obtain ⟨c1, h⟩ := p_gdE h
  refine g_getI fl_Reading_15 (Or.inl rfl) (dk_Reading_read 1 rfl) c1 ?_
  refine g_iconst (dk_Reading_read 2 rfl) (by decide) ?_
  refine g_icmp_ne 11 (dk_Reading_read 3 rfl) (by decide) (fun b2 => ?_) (fun b2 => ?_)
  · have h := p_ifT b2 h
    refine g_aload_n (i := 1) (j := 1) (dk_Reading_read 6 rfl) rfl rfl ?_
    refine g_getI fl_Reading_15 (Or.inl rfl) (dk_Reading_read 7 rfl) c1 ?_
    refine g_if_ne 21 (dk_Reading_read 8 rfl) (by decide) (fun b3 => ?_) (fun b3 => ?_)
    · have h := p_ifT b3 h
      refine g_aload_n (i := 1) (j := 1) (dk_Reading_read 11 rfl) rfl rfl ?_
      refine g_getR fl_Reading_21 (Or.inr ⟨_, rfl⟩) (dk_Reading_read 12 rfl) c1 ?_
      refine g_iconst (dk_Reading_read 13 rfl) (by decide) ?_
      obtain ⟨c4, h⟩ := p_gdE h
      obtain ⟨c5, h⟩ := p_gdE h
      refine g_iaload (dk_Reading_read 14 rfl) c4 c5.1 c5.2 ?_
      refine g_bipush (dk_Reading_read 15 rfl) rfl (by decide) ?_
      refine g_icmp_ne 38 (dk_Reading_read 16 rfl) (by decide) (fun b6 => ?_) (fun b6 => ?_)
      · have h := p_ifT b6 h
        refine g_aload_n (i := 1) (j := 1) (dk_Reading_read 21 rfl) rfl rfl ?_
        refine g_getR fl_Reading_21 (Or.inr ⟨_, rfl⟩) (dk_Reading_read 22 rfl) c1 ?_
        refine g_iconst (dk_Reading_read 23 rfl) (by decide) ?_
        obtain ⟨c7, h⟩ := p_gdE h
        refine g_iaload (dk_Reading_read 24 rfl) c4 c7.1 c7.2 ?_
        refine g_bipush (dk_Reading_read 25 rfl) rfl (by decide) ?_
        refine g_icmp_ne 55 (dk_Reading_read 26 rfl) (by decide) (fun b8 => ?_) (fun b8 => ?_)
        · have h := p_ifT b8 h
          refine g_aload_n (i := 0) (j := 0) (dk_Reading_read 31 rfl) rfl rfl ?_
          refine g_iconst (dk_Reading_read 32 rfl) (by decide) ?_
          obtain ⟨c9, h⟩ := p_gdE h
          refine g_putB fl_Reading_31 (Or.inl rfl) (dk_Reading_read 33 rfl) c9 (Or.inr rfl) ?_
          refine p_ltS (P := fun q => p_Go K l m_Reading_read 60 [(0, p_r v0), (1, p_r v1)] [] q _) (p_xZ _ _ _ _) ?_ h
          intro s10 hs11 h
          refine g_iconst (dk_Reading_read 34 rfl) (by decide) ?_
          cases h
          exact g_ret rfl rfl (dk_Reading_read 35 rfl) (fun os => ⟨_, rfl, p_okh os⟩)
        · have h := p_ifF b8 h
          refine g_aload_n (i := 0) (j := 0) (dk_Reading_read 27 rfl) rfl rfl ?_
          refine g_aload_n (i := 1) (j := 1) (dk_Reading_read 28 rfl) rfl rfl ?_
          obtain ⟨c12, h⟩ := p_gdE h
          obtain ⟨r17, s13, q14, h⟩ := p_bdE h
          have t15 := tF_Reading_readFormB K l v0 v1 s0 _ q14
          refine g_callV (a := v0) (ci := 5) (q0 := (RX5, TX5, 5)) (As := [p_r v1]) (rest := []) [p_i r17] mt_Reading_readFormB rfl rfl tw_5_0 ts_25 tw_4_238 ⟨Nat.le_of_ble_eq_true rfl, Nat.le_of_ble_eq_true rfl⟩ rfl (Nat.le_of_ble_eq_true rfl) (dk_Reading_read 29 rfl) rfl c12 rfl t15 ?_
          have hs16 : p_x s0 s13 := t15.1
          show p_Go K l m_Reading_read 54 [(0, p_r v0), (1, p_r v1)] [p_i r17] s13 _
          cases h
          exact g_ret rfl rfl (dk_Reading_read 30 rfl) (fun os => ⟨_, rfl, p_okh os⟩)
      · have h := p_ifF b6 h
        refine g_aload_n (i := 0) (j := 0) (dk_Reading_read 17 rfl) rfl rfl ?_
        refine g_aload_n (i := 1) (j := 1) (dk_Reading_read 18 rfl) rfl rfl ?_
        obtain ⟨c18, h⟩ := p_gdE h
        obtain ⟨r23, s19, q20, h⟩ := p_bdE h
        have t21 := tF_Reading_readFormA K l v0 v1 s0 _ q20
        refine g_callV (a := v0) (ci := 5) (q0 := (RX5, TX5, 5)) (As := [p_r v1]) (rest := []) [p_i r23] mt_Reading_readFormA rfl rfl tw_4_236 ts_24 tw_4_234 ⟨Nat.le_of_ble_eq_true rfl, Nat.le_of_ble_eq_true rfl⟩ rfl (Nat.le_of_ble_eq_true rfl) (dk_Reading_read 19 rfl) rfl c18 rfl t21 ?_
        have hs22 : p_x s0 s19 := t21.1
        show p_Go K l m_Reading_read 37 [(0, p_r v0), (1, p_r v1)] [p_i r23] s19 _
        cases h
        exact g_ret rfl rfl (dk_Reading_read 20 rfl) (fun os => ⟨_, rfl, p_okh os⟩)
    · have h := p_ifF b3 h
      refine g_bipush (dk_Reading_read 9 rfl) rfl (by decide) ?_
      cases h
      exact g_ret rfl rfl (dk_Reading_read 10 rfl) (fun os => ⟨_, rfl, p_okh os⟩)
  · have h := p_ifF b2 h
    refine g_bipush (dk_Reading_read 4 rfl) rfl (by decide) ?_
    cases h
    exact g_ret rfl rfl (dk_Reading_read 5 rfl) (fun os => ⟨_, rfl, p_okh os⟩)
def m_Step_plainValue : p_Me := (⟨"SortWorks$Step", "plainValue", "(I)I"⟩, prog_10_method_20_code, 2, (some .int), 0, 0)
theorem mt_Step_plainValue : p_Mt m_Step_plainValue 1 := ⟨p_mem (p_tb5 (List.mem_of_getElem? (i := 18) rfl)) rfl, tw_1_9, by decide +kernel, by decide +kernel, by decide +kernel⟩
def dt_Step_plainValue : List (Nat × Instr × Nat) := [(0, .iload_n 1, 1), (1, .lookupswitch 59 #[(68, 35), (83, 51), (87, 43)], 35), (36, .aload_n 0, 1), (37, .getfield 12, 3), (40, .getfield 320, 3), (43, .ireturn, 1), (44, .aload_n 0, 1), (45, .getfield 12, 3), (48, .getfield 269, 3), (51, .ireturn, 1), (52, .aload_n 0, 1), (53, .getfield 12, 3), (56, .getfield 321, 3), (59, .ireturn, 1), (60, .aload_n 0, 1), (61, .getfield 28, 3), (64, .getfield 54, 3), (67, .ireturn, 1)]
theorem dk_Step_plainValue (i : Nat) {pc : Nat} {ins : Instr} {len : Nat} (h : dt_Step_plainValue[i]? = some (pc, ins, len)) : decode m_Step_plainValue.2.1 pc = .ok (ins, len) := p_dk (b := m_Step_plainValue.2.1) (t := dt_Step_plainValue) (by decide +kernel) i h
def F_Step_plainValue (v0 : Nat) (v1 : Int) (s0 : p_Hp) : Option (Int × p_Hp) :=
  if v1 = 68 then
    p_gd (p_is s0 v0 8) <|
    p_gd (p_is s0 (p_R s0 v0 0) 5) <|
    some ((p_Z s0 (p_R s0 v0 0) 1), s0)
  else if v1 = 83 then
    p_gd (p_is s0 v0 8) <|
    p_gd (p_is s0 (p_R s0 v0 0) 5) <|
    some ((p_Z s0 (p_R s0 v0 0) 3), s0)
  else if v1 = 87 then
    p_gd (p_is s0 v0 8) <|
    p_gd (p_is s0 (p_R s0 v0 0) 5) <|
    some ((p_Z s0 (p_R s0 v0 0) 2), s0)
  else 
  p_gd (p_is s0 v0 8) <|
  p_gd (p_is s0 (p_R s0 v0 3) 7) <|
  some ((p_Z s0 (p_R s0 v0 3) 0), s0)
set_option maxRecDepth 100000 in
set_option maxHeartbeats 4000000 in
theorem tF_Step_plainValue (K : p_K) (l : Launch) (v0 : Nat) (v1 : Int) (s0 : p_Hp) (r : (Int × p_Hp)) (h : F_Step_plainValue v0 v1 s0 = some r) : p_Ct K l m_Step_plainValue [p_r v0, p_i v1] s0 (some (p_i r.1), r.2) := by
  refine p_Ct.of (by decide) (Nat.le_of_ble_eq_true rfl) ?_
  unfold F_Step_plainValue at h
  show p_Go K l m_Step_plainValue 0 [(0, p_r v0), (1, p_i v1)] [] s0 _
  refine g_iload_n (i := 1) (j := 1) (dk_Step_plainValue 0 rfl) rfl rfl ?_
  rcases p_iteE h with ⟨b1, h⟩ | ⟨b1, h⟩
  · refine g_lookup 36 (dk_Step_plainValue 1 rfl) (by decide) (by rw [b1]; rfl) (by decide) ?_
    refine g_aload_n (i := 0) (j := 0) (dk_Step_plainValue 2 rfl) rfl rfl ?_
    obtain ⟨c2, h⟩ := p_gdE h
    refine g_getR fl_Step_12 (Or.inl ⟨_, rfl⟩) (dk_Step_plainValue 3 rfl) c2 ?_
    obtain ⟨c3, h⟩ := p_gdE h
    refine g_getI fl_Step_320 (Or.inl rfl) (dk_Step_plainValue 4 rfl) c3 ?_
    cases h
    exact g_ret rfl rfl (dk_Step_plainValue 5 rfl) (fun os => ⟨_, rfl, p_okh os⟩)
  rcases p_iteE h with ⟨b4, h⟩ | ⟨b4, h⟩
  · refine g_lookup 52 (dk_Step_plainValue 1 rfl) (by decide) (by rw [b4]; rfl) (by decide) ?_
    refine g_aload_n (i := 0) (j := 0) (dk_Step_plainValue 10 rfl) rfl rfl ?_
    obtain ⟨c5, h⟩ := p_gdE h
    refine g_getR fl_Step_12 (Or.inl ⟨_, rfl⟩) (dk_Step_plainValue 11 rfl) c5 ?_
    obtain ⟨c6, h⟩ := p_gdE h
    refine g_getI fl_Step_321 (Or.inl rfl) (dk_Step_plainValue 12 rfl) c6 ?_
    cases h
    exact g_ret rfl rfl (dk_Step_plainValue 13 rfl) (fun os => ⟨_, rfl, p_okh os⟩)
  rcases p_iteE h with ⟨b7, h⟩ | ⟨b7, h⟩
  · refine g_lookup 44 (dk_Step_plainValue 1 rfl) (by decide) (by rw [b7]; rfl) (by decide) ?_
    refine g_aload_n (i := 0) (j := 0) (dk_Step_plainValue 6 rfl) rfl rfl ?_
    obtain ⟨c8, h⟩ := p_gdE h
    refine g_getR fl_Step_12 (Or.inl ⟨_, rfl⟩) (dk_Step_plainValue 7 rfl) c8 ?_
    obtain ⟨c9, h⟩ := p_gdE h
    refine g_getI fl_Step_269 (Or.inl rfl) (dk_Step_plainValue 8 rfl) c9 ?_
    cases h
    exact g_ret rfl rfl (dk_Step_plainValue 9 rfl) (fun os => ⟨_, rfl, p_okh os⟩)
  refine g_lookup 60 (dk_Step_plainValue 1 rfl) (by decide) (by simp [Op.lookupswitch.offset, b1, b4, b7]) (by decide) ?_
  refine g_aload_n (i := 0) (j := 0) (dk_Step_plainValue 14 rfl) rfl rfl ?_
  obtain ⟨c10, h⟩ := p_gdE h
  refine g_getR fl_Step_28 (Or.inl ⟨_, rfl⟩) (dk_Step_plainValue 15 rfl) c10 ?_
  obtain ⟨c11, h⟩ := p_gdE h
  refine g_getI fl_Step_54 (Or.inl rfl) (dk_Step_plainValue 16 rfl) c11 ?_
  cases h
  exact g_ret rfl rfl (dk_Step_plainValue 17 rfl) (fun os => ⟨_, rfl, p_okh os⟩)
def m_Step_quotient : p_Me := (⟨"SortWorks$Step", "quotient", "(I)I"⟩, prog_10_method_21_code, 7, (some .int), 1, 22)
theorem mt_Step_quotient : p_Mt m_Step_quotient 1 := ⟨p_mem (p_tb5 (List.mem_of_getElem? (i := 13) rfl)) rfl, tw_1_9, by decide +kernel, by decide +kernel, by decide +kernel⟩
def dt_Step_quotient : List (Nat × Instr × Nat) := [(0, .iload_n 1, 1), (1, .ifCond .lt 9, 3), (4, .iload_n 1, 1), (5, .bipush 40, 2), (7, .if_icmp .lt 6, 3), (10, .bipush (-13), 2), (12, .ireturn, 1), (13, .iload_n 1, 1), (14, .aload_n 0, 1), (15, .getfield 18, 3), (18, .getfield 79, 3), (21, .if_icmp .lt 6, 3), (24, .bipush (-11), 2), (26, .ireturn, 1), (27, .aload_n 0, 1), (28, .getfield 28, 3), (31, .getfield 82, 3), (34, .iload_n 1, 1), (35, .aaload, 1), (36, .astore_n 2, 1), (37, .aload_n 2, 1), (38, .invokevirtual 324, 3), (41, .ifCond .ne 6, 3), (44, .bipush (-12), 2), (46, .ireturn, 1), (47, .iconst 0, 1), (48, .istore_n 3, 1), (49, .aload_n 2, 1), (50, .getfield 247, 3), (53, .ifnonnull 7, 3), (56, .iconst 0, 1), (57, .goto 8, 3), (60, .aload_n 2, 1), (61, .getfield 247, 3), (64, .arraylength, 1), (65, .istore 4, 2), (67, .iconst 0, 1), (68, .istore 5, 2), (70, .iload 5, 2), (72, .iload 4, 2), (74, .if_icmp .ge 63, 3), (77, .aload_n 0, 1), (78, .getfield 18, 3), (81, .aload_n 2, 1), (82, .iload 5, 2), (84, .invokevirtual 170, 3), (87, .istore 6, 2), (89, .iload 6, 2), (91, .ifCond .lt 40, 3), (94, .aload_n 0, 1), (95, .getfield 28, 3), (98, .getfield 82, 3), (101, .iload 6, 2), (103, .aaload, 1), (104, .getfield 97, 3), (107, .bipush 9, 2), (109, .if_icmp .ne 22, 3), (112, .aload_n 0, 1), (113, .getfield 28, 3), (116, .getfield 82, 3), (119, .iload 6, 2), (121, .aaload, 1), (122, .getfield 145, 3), (125, .ifCond .eq 6, 3), (128, .iinc 3 1, 3), (131, .iinc 5 1, 3), (134, .goto (-64), 3), (137, .iload_n 3, 1), (138, .ifCond .ne 8, 3), (141, .bipush (-16), 2), (143, .goto 9, 3), (146, .aload_n 2, 1), (147, .invokevirtual 148, 3), (150, .iload_n 3, 1), (151, .idiv, 1), (152, .ireturn, 1)]
theorem dk_Step_quotient (i : Nat) {pc : Nat} {ins : Instr} {len : Nat} (h : dt_Step_quotient[i]? = some (pc, ins, len)) : decode m_Step_quotient.2.1 pc = .ok (ins, len) := p_dk (b := m_Step_quotient.2.1) (t := dt_Step_quotient) (by decide +kernel) i h
def B_Step_quotient_131 (k70 : Nat → Nat → Int → Int → Int → p_Hp → Option (Int × p_Hp)) (v0 : Nat) (v2 : Nat) (v3 : Int) (v4 : Int) (v5 : Int) (s0 : p_Hp) : Option (Int × p_Hp) :=
  p_bi (p_w (v5 + 1)) fun x1 =>
  k70 v0 v2 v3 v4 x1 s0
def L_Step_quotient_70 (k70 : Nat → Nat → Int → Int → Int → p_Hp → Option (Int × p_Hp)) (v0 : Nat) (v2 : Nat) (v3 : Int) (v4 : Int) (v5 : Int) (s0 : p_Hp) : Option (Int × p_Hp) :=
  if v4 ≤ v5 then
    if v3 ≠ 0 then
      p_gd (p_is s0 v2 0) <|
      p_bd (F_Gear_parcels v2 s0) fun r8 s4 =>
      p_gd (v3 ≠ 0) <|
      some ((p_div r8 v3), s4)
    else
      some ((-16), s0)
  else
    p_gd (p_is s0 v0 8) <|
    p_gd (p_is s0 (p_R s0 v0 2) 9) <|
    p_bd (F_Works_follow (p_R s0 v0 2) v2 v5 s0) fun r16 s12 =>
    if r16 < 0 then
      B_Step_quotient_131 k70 v0 v2 v3 v4 v5 s12
    else
      p_gd (p_is s12 (p_R s12 v0 3) 7) <|
      p_gd (p_is s12 (p_R s12 (p_R s12 v0 3) 4) 106) <|
      p_gd (0 ≤ r16 ∧ r16 < (p_L s12 (p_R s12 (p_R s12 v0 3) 4) : Int)) <|
      p_gd (p_is s12 (p_R s12 (p_R s12 (p_R s12 v0 3) 4) (r16).toNat) 0) <|
      if (p_Z s12 (p_R s12 (p_R s12 (p_R s12 v0 3) 4) (r16).toNat) 0) ≠ 9 then
        B_Step_quotient_131 k70 v0 v2 v3 v4 v5 s12
      else
        p_gd (0 ≤ r16 ∧ r16 < (p_L s12 (p_R s12 (p_R s12 v0 3) 4) : Int)) <|
        if (p_Z s12 (p_R s12 (p_R s12 (p_R s12 v0 3) 4) (r16).toNat) 7) = 0 then
          B_Step_quotient_131 k70 v0 v2 v3 v4 v5 s12
        else
          p_bi (p_w (v3 + 1)) fun x25 =>
          B_Step_quotient_131 k70 v0 v2 x25 v4 v5 s12
def O_Step_quotient_70  : Nat → Nat → Nat → Int → Int → Int → p_Hp → Option (Int × p_Hp)
  | 0 => fun _ _ _ _ _ _ => none
  | n + 1 => L_Step_quotient_70 (O_Step_quotient_70 n)
def B_Step_quotient_65  (v0 : Nat) (v2 : Nat) (v3 : Int) (w0 : Int) (s0 : p_Hp) : Option (Int × p_Hp) :=
  O_Step_quotient_70 3000 v0 v2 v3 w0 0 s0
def F_Step_quotient (v0 : Nat) (v1 : Int) (s0 : p_Hp) : Option (Int × p_Hp) :=
  if v1 < 0 then
    some ((-13), s0)
  else
    if v1 < 40 then
      p_gd (p_is s0 v0 8) <|
      p_gd (p_is s0 (p_R s0 v0 2) 9) <|
      if v1 < (p_Z s0 (p_R s0 v0 2) 2) then
        p_gd (p_is s0 (p_R s0 v0 3) 7) <|
        p_gd (p_is s0 (p_R s0 (p_R s0 v0 3) 4) 106) <|
        p_gd (0 ≤ v1 ∧ v1 < (p_L s0 (p_R s0 (p_R s0 v0 3) 4) : Int)) <|
        p_bi ((p_R s0 (p_R s0 (p_R s0 v0 3) 4) (v1).toNat)) fun x9 =>
        p_gd (p_is s0 x9 0) <|
        p_bd (F_Gear_isChute x9 s0) fun r15 s11 =>
        if r15 ≠ 0 then
          if (p_R s11 x9 3) ≠ 0 then
            p_gd (p_is s11 (p_R s11 x9 3) 100) <|
            B_Step_quotient_65 v0 x9 0 (p_L s11 (p_R s11 x9 3) : Int) s11
          else
            B_Step_quotient_65 v0 x9 0 0 s11
        else
          some ((-12), s11)
      else
        some ((-11), s0)
    else
      some ((-13), s0)
set_option maxRecDepth 100000 in
set_option maxHeartbeats 4000000 in
theorem tB_Step_quotient_131 (K : p_K) (l : Launch) (k70 : Nat → Nat → Int → Int → Int → p_Hp → Option (Int × p_Hp)) (hk70 : ∀ (v0 : Nat) (v2 : Nat) (v3 : Int) (v4 : Int) (v5 : Int)  (s0 : p_Hp) (r : (Int × p_Hp)), k70 v0 v2 v3 v4 v5 s0 = some r → p_Go K l m_Step_quotient 70 [(0, p_r v0), (2, p_r v2), (3, p_i v3), (4, p_i v4), (5, p_i v5)] [] s0 (some (p_i r.1), r.2)) (v0 : Nat) (v2 : Nat) (v3 : Int) (v4 : Int) (v5 : Int) (s0 : p_Hp) (r : (Int × p_Hp)) (h : B_Step_quotient_131 k70 v0 v2 v3 v4 v5 s0 = some r) : p_Go K l m_Step_quotient 131 [(0, p_r v0), (2, p_r v2), (3, p_i v3), (4, p_i v4), (5, p_i v5)] [] s0 (some (p_i r.1), r.2) := by
  unfold B_Step_quotient_131 at h
  refine g_iinc (j := 4) [(5, p_i (p_w (v5 + 1))), (0, p_r v0), (2, p_r v2), (3, p_i v3), (4, p_i v4)] (dk_Step_quotient 65 rfl) rfl (by decide) rfl ?_
  refine p_ltG (P := fun q => p_Go K l m_Step_quotient 134 [(5, p_i q), (0, p_r v0), (2, p_r v2), (3, p_i v3), (4, p_i v4)] [] s0 _) ?_ h
  intro x1 h
  refine g_goto 70 (dk_Step_quotient 66 rfl) (by decide) ?_
  refine g_sub [(0, p_r v0), (2, p_r v2), (3, p_i v3), (4, p_i v4), (5, p_i x1)] [1, 2, 3, 4, 0] rfl ?_
  exact hk70 v0 v2 v3 v4 x1 s0 _ h
set_option maxRecDepth 100000 in
set_option maxHeartbeats 4000000 in
theorem tL_Step_quotient_70 (K : p_K) (l : Launch) (k70 : Nat → Nat → Int → Int → Int → p_Hp → Option (Int × p_Hp)) (hk70 : ∀ (v0 : Nat) (v2 : Nat) (v3 : Int) (v4 : Int) (v5 : Int)  (s0 : p_Hp) (r : (Int × p_Hp)), k70 v0 v2 v3 v4 v5 s0 = some r → p_Go K l m_Step_quotient 70 [(0, p_r v0), (2, p_r v2), (3, p_i v3), (4, p_i v4), (5, p_i v5)] [] s0 (some (p_i r.1), r.2)) (v0 : Nat) (v2 : Nat) (v3 : Int) (v4 : Int) (v5 : Int) (s0 : p_Hp) (r : (Int × p_Hp)) (h : L_Step_quotient_70 k70 v0 v2 v3 v4 v5 s0 = some r) : p_Go K l m_Step_quotient 70 [(0, p_r v0), (2, p_r v2), (3, p_i v3), (4, p_i v4), (5, p_i v5)] [] s0 (some (p_i r.1), r.2) := by
  unfold L_Step_quotient_70 at h
  refine g_iload (j := 4) (dk_Step_quotient 38 rfl) rfl ?_
  refine g_iload (j := 3) (dk_Step_quotient 39 rfl) rfl ?_
  refine g_icmp_ge 137 (dk_Step_quotient 40 rfl) (by decide) (fun b1 => ?_) (fun b1 => ?_)
  · have h := p_ifT b1 h
    refine g_iload_n (i := 3) (j := 2) (dk_Step_quotient 67 rfl) rfl rfl ?_
    refine g_if_ne 146 (dk_Step_quotient 68 rfl) (by decide) (fun b2 => ?_) (fun b2 => ?_)
    · have h := p_ifT b2 h
      refine g_aload_n (i := 2) (j := 1) (dk_Step_quotient 71 rfl) rfl rfl ?_
      obtain ⟨c3, h⟩ := p_gdE h
      obtain ⟨r8, s4, q5, h⟩ := p_bdE h
      have t6 := tF_Gear_parcels K l v2 s0 _ q5
      refine g_callV (a := v2) (ci := 0) (q0 := (RX0, TX0, 19)) (As := []) (rest := []) [p_i r8] mt_Gear_parcels rfl rfl tw_3_134 tw_3_135 tw_4_172 ⟨Nat.le_of_ble_eq_true rfl, Nat.le_of_ble_eq_true rfl⟩ rfl (Nat.le_of_ble_eq_true rfl) (dk_Step_quotient 72 rfl) rfl c3 rfl t6 ?_
      have hs7 : p_x s0 s4 := t6.1
      show p_Go K l m_Step_quotient 150 [(0, p_r v0), (2, p_r v2), (3, p_i v3), (4, p_i v4), (5, p_i v5)] [p_i r8] s4 _
      refine g_iload_n (i := 3) (j := 2) (dk_Step_quotient 73 rfl) rfl rfl ?_
      obtain ⟨c9, h⟩ := p_gdE h
      refine g_idiv (dk_Step_quotient 74 rfl) c9 ?_
      cases h
      exact g_ret rfl rfl (dk_Step_quotient 75 rfl) (fun os => ⟨_, rfl, p_okh os⟩)
    · have h := p_ifF b2 h
      refine g_bipush (dk_Step_quotient 69 rfl) rfl (by decide) ?_
      refine g_goto 152 (dk_Step_quotient 70 rfl) (by decide) ?_
      cases h
      exact g_ret rfl rfl (dk_Step_quotient 75 rfl) (fun os => ⟨_, rfl, p_okh os⟩)
  · have h := p_ifF b1 h
    refine g_aload_n (i := 0) (j := 0) (dk_Step_quotient 41 rfl) rfl rfl ?_
    obtain ⟨c10, h⟩ := p_gdE h
    refine g_getR fl_Step_18 (Or.inl ⟨_, rfl⟩) (dk_Step_quotient 42 rfl) c10 ?_
    refine g_aload_n (i := 2) (j := 1) (dk_Step_quotient 43 rfl) rfl rfl ?_
    refine g_iload (j := 4) (dk_Step_quotient 44 rfl) rfl ?_
    obtain ⟨c11, h⟩ := p_gdE h
    obtain ⟨r16, s12, q13, h⟩ := p_bdE h
    have t14 := tF_Works_follow K l (p_R s0 v0 2) v2 v5 s0 _ q13
    refine g_callV (a := (p_R s0 v0 2)) (ci := 9) (q0 := (RX9, TX9, 16)) (As := [p_r v2, p_i v5]) (rest := []) [p_i r16] mt_Works_follow rfl rfl tw_4_208 tw_4_209 tw_4_207 ⟨Nat.le_of_ble_eq_true rfl, Nat.le_of_ble_eq_true rfl⟩ rfl (Nat.le_of_ble_eq_true rfl) (dk_Step_quotient 45 rfl) rfl c11 rfl t14 ?_
    have hs15 : p_x s0 s12 := t14.1
    show p_Go K l m_Step_quotient 87 [(0, p_r v0), (2, p_r v2), (3, p_i v3), (4, p_i v4), (5, p_i v5)] [p_i r16] s12 _
    refine g_istore [(6, p_i r16), (0, p_r v0), (2, p_r v2), (3, p_i v3), (4, p_i v4), (5, p_i v5)] (dk_Step_quotient 46 rfl) (by decide) rfl ?_
    refine g_iload (j := 0) (dk_Step_quotient 47 rfl) rfl ?_
    refine g_if_lt 131 (dk_Step_quotient 48 rfl) (by decide) (fun b17 => ?_) (fun b17 => ?_)
    · have h := p_ifT b17 h
      refine g_sub [(0, p_r v0), (2, p_r v2), (3, p_i v3), (4, p_i v4), (5, p_i v5)] [1, 2, 3, 4, 5] rfl ?_
      exact tB_Step_quotient_131 K l k70 hk70 v0 v2 v3 v4 v5 s12 _ h
    · have h := p_ifF b17 h
      refine g_aload_n (i := 0) (j := 1) (dk_Step_quotient 49 rfl) rfl rfl ?_
      refine g_getR fl_Step_28 (Or.inl ⟨_, rfl⟩) (dk_Step_quotient 50 rfl) (c10.up hs15) ?_
      obtain ⟨c18, h⟩ := p_gdE h
      refine g_getR fl_Step_82 (Or.inr ⟨_, rfl⟩) (dk_Step_quotient 51 rfl) c18 ?_
      refine g_iload (j := 0) (dk_Step_quotient 52 rfl) rfl ?_
      obtain ⟨c19, h⟩ := p_gdE h
      obtain ⟨c20, h⟩ := p_gdE h
      refine g_aaload (i := 6) rfl (Or.inl ⟨_, rfl⟩) (dk_Step_quotient 53 rfl) c19 c20.1 c20.2 ?_
      obtain ⟨c21, h⟩ := p_gdE h
      refine g_getI fl_Step_97 (Or.inl rfl) (dk_Step_quotient 54 rfl) c21 ?_
      refine g_bipush (dk_Step_quotient 55 rfl) rfl (by decide) ?_
      refine g_icmp_ne 131 (dk_Step_quotient 56 rfl) (by decide) (fun b22 => ?_) (fun b22 => ?_)
      · have h := p_ifT b22 h
        refine g_sub [(0, p_r v0), (2, p_r v2), (3, p_i v3), (4, p_i v4), (5, p_i v5)] [1, 2, 3, 4, 5] rfl ?_
        exact tB_Step_quotient_131 K l k70 hk70 v0 v2 v3 v4 v5 s12 _ h
      · have h := p_ifF b22 h
        refine g_aload_n (i := 0) (j := 1) (dk_Step_quotient 57 rfl) rfl rfl ?_
        refine g_getR fl_Step_28 (Or.inl ⟨_, rfl⟩) (dk_Step_quotient 58 rfl) (c10.up hs15) ?_
        refine g_getR fl_Step_82 (Or.inr ⟨_, rfl⟩) (dk_Step_quotient 59 rfl) c18 ?_
        refine g_iload (j := 0) (dk_Step_quotient 60 rfl) rfl ?_
        obtain ⟨c23, h⟩ := p_gdE h
        refine g_aaload (i := 6) rfl (Or.inl ⟨_, rfl⟩) (dk_Step_quotient 61 rfl) c19 c23.1 c23.2 ?_
        refine g_getI fl_Step_145 (Or.inr rfl) (dk_Step_quotient 62 rfl) c21 ?_
        refine g_if_eq 131 (dk_Step_quotient 63 rfl) (by decide) (fun b24 => ?_) (fun b24 => ?_)
        · have h := p_ifT b24 h
          refine g_sub [(0, p_r v0), (2, p_r v2), (3, p_i v3), (4, p_i v4), (5, p_i v5)] [1, 2, 3, 4, 5] rfl ?_
          exact tB_Step_quotient_131 K l k70 hk70 v0 v2 v3 v4 v5 s12 _ h
        · have h := p_ifF b24 h
          refine g_iinc (j := 3) [(3, p_i (p_w (v3 + 1))), (6, p_i r16), (0, p_r v0), (2, p_r v2), (4, p_i v4), (5, p_i v5)] (dk_Step_quotient 64 rfl) rfl (by decide) rfl ?_
          refine p_ltG (P := fun q => p_Go K l m_Step_quotient 131 [(3, p_i q), (6, p_i r16), (0, p_r v0), (2, p_r v2), (4, p_i v4), (5, p_i v5)] [] s12 _) ?_ h
          intro x25 h
          refine g_sub [(0, p_r v0), (2, p_r v2), (3, p_i x25), (4, p_i v4), (5, p_i v5)] [2, 3, 0, 4, 5] rfl ?_
          exact tB_Step_quotient_131 K l k70 hk70 v0 v2 x25 v4 v5 s12 _ h
set_option maxRecDepth 100000 in
set_option maxHeartbeats 4000000 in
theorem tO_Step_quotient_70 (K : p_K) (l : Launch)  : ∀ (n : Nat) (v0 : Nat) (v2 : Nat) (v3 : Int) (v4 : Int) (v5 : Int) (s0 : p_Hp) (r : (Int × p_Hp)), O_Step_quotient_70 n v0 v2 v3 v4 v5 s0 = some r → p_Go K l m_Step_quotient 70 [(0, p_r v0), (2, p_r v2), (3, p_i v3), (4, p_i v4), (5, p_i v5)] [] s0 (some (p_i r.1), r.2) := by
  intro n
  induction n with
  | zero => intro v0 v2 v3 v4 v5 s0 r h; cases (show (none : Option (Int × p_Hp)) = some r from h)
  | succ n ih => intro v0 v2 v3 v4 v5 s0 r h; exact tL_Step_quotient_70 K l _ ih v0 v2 v3 v4 v5 s0 r h
set_option maxRecDepth 100000 in
set_option maxHeartbeats 4000000 in
theorem tB_Step_quotient_65 (K : p_K) (l : Launch)  (v0 : Nat) (v2 : Nat) (v3 : Int) (w0 : Int) (s0 : p_Hp) (r : (Int × p_Hp)) (h : B_Step_quotient_65 v0 v2 v3 w0 s0 = some r) : p_Go K l m_Step_quotient 65 [(0, p_r v0), (2, p_r v2), (3, p_i v3)] [p_i w0] s0 (some (p_i r.1), r.2) := by
  unfold B_Step_quotient_65 at h
  refine g_istore [(4, p_i w0), (0, p_r v0), (2, p_r v2), (3, p_i v3)] (dk_Step_quotient 35 rfl) (by decide) rfl ?_
  refine g_iconst (dk_Step_quotient 36 rfl) (by decide) ?_
  refine g_istore [(5, p_i 0), (4, p_i w0), (0, p_r v0), (2, p_r v2), (3, p_i v3)] (dk_Step_quotient 37 rfl) (by decide) rfl ?_
  refine g_sub [(0, p_r v0), (2, p_r v2), (3, p_i v3), (4, p_i w0), (5, p_i 0)] [2, 3, 4, 1, 0] rfl ?_
  exact tO_Step_quotient_70 K l 3000 v0 v2 v3 w0 0 s0 _ h
set_option maxRecDepth 100000 in
set_option maxHeartbeats 4000000 in
theorem tF_Step_quotient (K : p_K) (l : Launch) (v0 : Nat) (v1 : Int) (s0 : p_Hp) (r : (Int × p_Hp)) (h : F_Step_quotient v0 v1 s0 = some r) : p_Ct K l m_Step_quotient [p_r v0, p_i v1] s0 (some (p_i r.1), r.2) := by
  refine p_Ct.of (by decide) (Nat.le_of_ble_eq_true rfl) ?_
  unfold F_Step_quotient at h
  show p_Go K l m_Step_quotient 0 [(0, p_r v0), (1, p_i v1)] [] s0 _
  refine g_iload_n (i := 1) (j := 1) (dk_Step_quotient 0 rfl) rfl rfl ?_
  refine g_if_lt 10 (dk_Step_quotient 1 rfl) (by decide) (fun b1 => ?_) (fun b1 => ?_)
  · have h := p_ifT b1 h
    refine g_bipush (dk_Step_quotient 5 rfl) rfl (by decide) ?_
    cases h
    exact g_ret rfl rfl (dk_Step_quotient 6 rfl) (fun os => ⟨_, rfl, p_okh os⟩)
  · have h := p_ifF b1 h
    refine g_iload_n (i := 1) (j := 1) (dk_Step_quotient 2 rfl) rfl rfl ?_
    refine g_bipush (dk_Step_quotient 3 rfl) rfl (by decide) ?_
    refine g_icmp_lt 13 (dk_Step_quotient 4 rfl) (by decide) (fun b2 => ?_) (fun b2 => ?_)
    · have h := p_ifT b2 h
      refine g_iload_n (i := 1) (j := 1) (dk_Step_quotient 7 rfl) rfl rfl ?_
      refine g_aload_n (i := 0) (j := 0) (dk_Step_quotient 8 rfl) rfl rfl ?_
      obtain ⟨c3, h⟩ := p_gdE h
      refine g_getR fl_Step_18 (Or.inl ⟨_, rfl⟩) (dk_Step_quotient 9 rfl) c3 ?_
      obtain ⟨c4, h⟩ := p_gdE h
      refine g_getI fl_Step_79 (Or.inl rfl) (dk_Step_quotient 10 rfl) c4 ?_
      refine g_icmp_lt 27 (dk_Step_quotient 11 rfl) (by decide) (fun b5 => ?_) (fun b5 => ?_)
      · have h := p_ifT b5 h
        refine g_aload_n (i := 0) (j := 0) (dk_Step_quotient 14 rfl) rfl rfl ?_
        refine g_getR fl_Step_28 (Or.inl ⟨_, rfl⟩) (dk_Step_quotient 15 rfl) c3 ?_
        obtain ⟨c6, h⟩ := p_gdE h
        refine g_getR fl_Step_82 (Or.inr ⟨_, rfl⟩) (dk_Step_quotient 16 rfl) c6 ?_
        refine g_iload_n (i := 1) (j := 1) (dk_Step_quotient 17 rfl) rfl rfl ?_
        obtain ⟨c7, h⟩ := p_gdE h
        obtain ⟨c8, h⟩ := p_gdE h
        refine g_aaload (i := 6) rfl (Or.inl ⟨_, rfl⟩) (dk_Step_quotient 18 rfl) c7 c8.1 c8.2 ?_
        refine g_astore_n (i := 2) [(2, p_r (p_R s0 (p_R s0 (p_R s0 v0 3) 4) (v1).toNat)), (0, p_r v0), (1, p_i v1)] (dk_Step_quotient 19 rfl) rfl (by decide) rfl ?_
        refine p_ltG (P := fun q => p_Go K l m_Step_quotient 37 [(2, p_r q), (0, p_r v0), (1, p_i v1)] [] s0 _) ?_ h
        intro x9 h
        refine g_aload_n (i := 2) (j := 0) (dk_Step_quotient 20 rfl) rfl rfl ?_
        obtain ⟨c10, h⟩ := p_gdE h
        obtain ⟨r15, s11, q12, h⟩ := p_bdE h
        have t13 := tF_Gear_isChute K l x9 s0 _ q12
        refine g_callV (a := x9) (ci := 0) (q0 := (RX0, TX0, 19)) (As := []) (rest := []) [p_i r15] mt_Gear_isChute rfl rfl tw_3_227 tw_3_228 tw_5_14 ⟨Nat.le_of_ble_eq_true rfl, Nat.le_of_ble_eq_true rfl⟩ rfl (Nat.le_of_ble_eq_true rfl) (dk_Step_quotient 21 rfl) rfl c10 rfl t13 ?_
        have hs14 : p_x s0 s11 := t13.1
        show p_Go K l m_Step_quotient 41 [(2, p_r x9), (0, p_r v0), (1, p_i v1)] [p_i r15] s11 _
        refine g_if_ne 47 (dk_Step_quotient 22 rfl) (by decide) (fun b16 => ?_) (fun b16 => ?_)
        · have h := p_ifT b16 h
          refine g_iconst (dk_Step_quotient 25 rfl) (by decide) ?_
          refine g_istore_n (i := 3) [(3, p_i 0), (2, p_r x9), (0, p_r v0), (1, p_i v1)] (dk_Step_quotient 26 rfl) rfl (by decide) rfl ?_
          refine g_aload_n (i := 2) (j := 1) (dk_Step_quotient 27 rfl) rfl rfl ?_
          refine g_getR fl_Step_247 (Or.inr ⟨_, rfl⟩) (dk_Step_quotient 28 rfl) (c10.up hs14) ?_
          refine g_ifnonnull 60 (dk_Step_quotient 29 rfl) (by decide) (fun b17 => ?_) (fun b17 => ?_)
          · have h := p_ifT b17 h
            refine g_aload_n (i := 2) (j := 1) (dk_Step_quotient 32 rfl) rfl rfl ?_
            refine g_getR fl_Step_247 (Or.inr ⟨_, rfl⟩) (dk_Step_quotient 33 rfl) (c10.up hs14) ?_
            obtain ⟨c18, h⟩ := p_gdE h
            refine g_alen (i := 0) rfl (dk_Step_quotient 34 rfl) c18 ?_
            refine g_sub [(0, p_r v0), (2, p_r x9), (3, p_i 0)] [2, 1, 0] rfl ?_
            exact tB_Step_quotient_65 K l v0 x9 0 (p_L s11 (p_R s11 x9 3) : Int) s11 _ h
          · have h := p_ifF b17 h
            refine g_iconst (dk_Step_quotient 30 rfl) (by decide) ?_
            refine g_goto 65 (dk_Step_quotient 31 rfl) (by decide) ?_
            refine g_sub [(0, p_r v0), (2, p_r x9), (3, p_i 0)] [2, 1, 0] rfl ?_
            exact tB_Step_quotient_65 K l v0 x9 0 0 s11 _ h
        · have h := p_ifF b16 h
          refine g_bipush (dk_Step_quotient 23 rfl) rfl (by decide) ?_
          cases h
          exact g_ret rfl rfl (dk_Step_quotient 24 rfl) (fun os => ⟨_, rfl, p_okh os⟩)
      · have h := p_ifF b5 h
        refine g_bipush (dk_Step_quotient 12 rfl) rfl (by decide) ?_
        cases h
        exact g_ret rfl rfl (dk_Step_quotient 13 rfl) (fun os => ⟨_, rfl, p_okh os⟩)
    · have h := p_ifF b2 h
      refine g_bipush (dk_Step_quotient 5 rfl) rfl (by decide) ?_
      cases h
      exact g_ret rfl rfl (dk_Step_quotient 6 rfl) (fun os => ⟨_, rfl, p_okh os⟩)
def m_In_compare : p_Me := (⟨"java/lang/Integer", "compare", "(II)I"⟩, prog_15_method_40_code, 2, (some .int), 0, 0)
theorem mt_In_compare : p_Mt m_In_compare 2 := ⟨p_mem (p_tb5 (List.mem_of_getElem? (i := 21) rfl)) rfl, tw_1_16, by decide +kernel, by decide +kernel, by decide +kernel⟩
def dt_In_compare : List (Nat × Instr × Nat) := [(0, .iload_n 0, 1), (1, .iload_n 1, 1), (2, .if_icmp .ge 7, 3), (5, .iconst (-1), 1), (6, .goto 13, 3), (9, .iload_n 0, 1), (10, .iload_n 1, 1), (11, .if_icmp .ne 7, 3), (14, .iconst 0, 1), (15, .goto 4, 3), (18, .iconst 1, 1), (19, .ireturn, 1)]
theorem dk_In_compare (i : Nat) {pc : Nat} {ins : Instr} {len : Nat} (h : dt_In_compare[i]? = some (pc, ins, len)) : decode m_In_compare.2.1 pc = .ok (ins, len) := p_dk (b := m_In_compare.2.1) (t := dt_In_compare) (by decide +kernel) i h
def F_In_compare (v0 : Int) (v1 : Int) (s0 : p_Hp) : Option (Int × p_Hp) :=
  if v1 ≤ v0 then
    if v0 ≠ v1 then
      some (1, s0)
    else
      some (0, s0)
  else
    some ((-1), s0)
set_option maxRecDepth 100000 in
set_option maxHeartbeats 4000000 in
theorem tF_In_compare (K : p_K) (l : Launch) (v0 : Int) (v1 : Int) (s0 : p_Hp) (r : (Int × p_Hp)) (h : F_In_compare v0 v1 s0 = some r) : p_Ct K l m_In_compare [p_i v0, p_i v1] s0 (some (p_i r.1), r.2) := by
  refine p_Ct.of (by decide) (Nat.le_of_ble_eq_true rfl) ?_
  unfold F_In_compare at h
  show p_Go K l m_In_compare 0 [(0, p_i v0), (1, p_i v1)] [] s0 _
  refine g_iload_n (i := 0) (j := 0) (dk_In_compare 0 rfl) rfl rfl ?_
  refine g_iload_n (i := 1) (j := 1) (dk_In_compare 1 rfl) rfl rfl ?_
  refine g_icmp_ge 9 (dk_In_compare 2 rfl) (by decide) (fun b1 => ?_) (fun b1 => ?_)
  · have h := p_ifT b1 h
    refine g_iload_n (i := 0) (j := 0) (dk_In_compare 5 rfl) rfl rfl ?_
    refine g_iload_n (i := 1) (j := 1) (dk_In_compare 6 rfl) rfl rfl ?_
    refine g_icmp_ne 18 (dk_In_compare 7 rfl) (by decide) (fun b2 => ?_) (fun b2 => ?_)
    · have h := p_ifT b2 h
      refine g_iconst (dk_In_compare 10 rfl) (by decide) ?_
      cases h
      exact g_ret rfl rfl (dk_In_compare 11 rfl) (fun os => ⟨_, rfl, p_okh os⟩)
    · have h := p_ifF b2 h
      refine g_iconst (dk_In_compare 8 rfl) (by decide) ?_
      refine g_goto 19 (dk_In_compare 9 rfl) (by decide) ?_
      cases h
      exact g_ret rfl rfl (dk_In_compare 11 rfl) (fun os => ⟨_, rfl, p_okh os⟩)
  · have h := p_ifF b1 h
    refine g_iconst (dk_In_compare 3 rfl) (by decide) ?_
    refine g_goto 19 (dk_In_compare 4 rfl) (by decide) ?_
    cases h
    exact g_ret rfl rfl (dk_In_compare 11 rfl) (fun os => ⟨_, rfl, p_okh os⟩)
def m_Step_holds : p_Me := (⟨"SortWorks$Step", "holds", "(I)I"⟩, prog_10_method_19_code, 9, (some .int), 2, 48)
theorem mt_Step_holds : p_Mt m_Step_holds 1 := ⟨p_mem (p_tb5 (List.mem_of_getElem? (i := 9) rfl)) rfl, tw_1_9, by decide +kernel, by decide +kernel, by decide +kernel⟩
def dt_Step_holds : List (Nat × Instr × Nat) := [(0, .aload_n 0, 1), (1, .getfield 18, 3), (4, .getfield 277, 3), (7, .astore_n 2, 1), (8, .iconst 4, 1), (9, .iload_n 1, 1), (10, .imul, 1), (11, .istore_n 3, 1), (12, .iload_n 3, 1), (13, .iconst 4, 1), (14, .iload_n 1, 1), (15, .imul, 1), (16, .aload_n 2, 1), (17, .getfield 293, 3), (20, .iload_n 1, 1), (21, .iaload, 1), (22, .iadd, 1), (23, .if_icmp .ge 133, 3), (26, .aload_n 2, 1), (27, .getfield 296, 3), (30, .iload_n 3, 1), (31, .iaload, 1), (32, .istore 4, 2), (34, .iload 4, 2), (36, .bipush 81, 2), (38, .if_icmp .ne 16, 3), (41, .aload_n 0, 1), (42, .aload_n 2, 1), (43, .getfield 299, 3), (46, .iload_n 3, 1), (47, .iaload, 1), (48, .invokevirtual 302, 3), (51, .goto 9, 3), (54, .aload_n 0, 1), (55, .iload 4, 2), (57, .invokevirtual 305, 3), (60, .istore 5, 2), (62, .iload 5, 2), (64, .ifCond .ge 6, 3), (67, .iload 5, 2), (69, .ireturn, 1), (70, .iload 5, 2), (72, .aload_n 2, 1), (73, .getfield 308, 3), (76, .iload_n 3, 1), (77, .iaload, 1), (78, .invokestatic 311, 3), (81, .istore 6, 2), (83, .aload_n 2, 1), (84, .getfield 317, 3), (87, .iload_n 3, 1), (88, .iaload, 1), (89, .istore 7, 2), (91, .iload 7, 2), (93, .bipush 60, 2), (95, .if_icmp .ne 16, 3), (98, .iload 6, 2), (100, .ifCond .ge 7, 3), (103, .iconst 1, 1), (104, .goto 37, 3), (107, .iconst 0, 1), (108, .goto 33, 3), (111, .iload 7, 2), (113, .bipush 61, 2), (115, .if_icmp .ne 16, 3), (118, .iload 6, 2), (120, .ifCond .ne 7, 3), (123, .iconst 1, 1), (124, .goto 17, 3), (127, .iconst 0, 1), (128, .goto 13, 3), (131, .iload 6, 2), (133, .ifCond .le 7, 3), (136, .iconst 1, 1), (137, .goto 4, 3), (140, .iconst 0, 1), (141, .istore 8, 2), (143, .iload 8, 2), (145, .ifCond .ne 5, 3), (148, .iconst 0, 1), (149, .ireturn, 1), (150, .iinc 3 1, 3), (153, .goto (-141), 3), (156, .iconst 1, 1), (157, .ireturn, 1)]
theorem dk_Step_holds (i : Nat) {pc : Nat} {ins : Instr} {len : Nat} (h : dt_Step_holds[i]? = some (pc, ins, len)) : decode m_Step_holds.2.1 pc = .ok (ins, len) := p_dk (b := m_Step_holds.2.1) (t := dt_Step_holds) (by decide +kernel) i h
def B_Step_holds_141 (k12 : Nat → Int → Nat → Int → p_Hp → Option (Int × p_Hp)) (v0 : Nat) (v1 : Int) (v2 : Nat) (v3 : Int) (w0 : Int) (s0 : p_Hp) : Option (Int × p_Hp) :=
  if w0 ≠ 0 then
    p_bi (p_w (v3 + 1)) fun x2 =>
    k12 v0 v1 v2 x2 s0
  else
    some (0, s0)
def B_Step_holds_60 (k12 : Nat → Int → Nat → Int → p_Hp → Option (Int × p_Hp)) (v0 : Nat) (v1 : Int) (v2 : Nat) (v3 : Int) (w0 : Int) (s0 : p_Hp) : Option (Int × p_Hp) :=
  if 0 ≤ w0 then
    p_gd (p_is s0 v2 6) <|
    p_gd (p_is s0 (p_R s0 v2 6) 100) <|
    p_gd (0 ≤ v3 ∧ v3 < (p_L s0 (p_R s0 v2 6) : Int)) <|
    p_bd (F_In_compare w0 (p_Z s0 (p_R s0 v2 6) (v3).toNat) s0) fun r9 s5 =>
    p_gd (p_is s5 (p_R s5 v2 5) 100) <|
    p_gd (0 ≤ v3 ∧ v3 < (p_L s5 (p_R s5 v2 5) : Int)) <|
    p_bi ((p_Z s5 (p_R s5 v2 5) (v3).toNat)) fun x12 =>
    if x12 ≠ 60 then
      if x12 ≠ 61 then
        if r9 ≤ 0 then
          B_Step_holds_141 k12 v0 v1 v2 v3 0 s5
        else
          B_Step_holds_141 k12 v0 v1 v2 v3 1 s5
      else
        if r9 ≠ 0 then
          B_Step_holds_141 k12 v0 v1 v2 v3 0 s5
        else
          B_Step_holds_141 k12 v0 v1 v2 v3 1 s5
    else
      if 0 ≤ r9 then
        B_Step_holds_141 k12 v0 v1 v2 v3 0 s5
      else
        B_Step_holds_141 k12 v0 v1 v2 v3 1 s5
  else
    some (w0, s0)
def L_Step_holds_12 (k12 : Nat → Int → Nat → Int → p_Hp → Option (Int × p_Hp)) (v0 : Nat) (v1 : Int) (v2 : Nat) (v3 : Int) (s0 : p_Hp) : Option (Int × p_Hp) :=
  p_gd (p_is s0 v2 6) <|
  p_gd (p_is s0 (p_R s0 v2 2) 100) <|
  p_gd (0 ≤ v1 ∧ v1 < (p_L s0 (p_R s0 v2 2) : Int)) <|
  if (p_w ((p_w (4 * v1)) + (p_Z s0 (p_R s0 v2 2) (v1).toNat))) ≤ v3 then
    some (1, s0)
  else
    p_gd (p_is s0 (p_R s0 v2 3) 100) <|
    p_gd (0 ≤ v3 ∧ v3 < (p_L s0 (p_R s0 v2 3) : Int)) <|
    p_bi ((p_Z s0 (p_R s0 v2 3) (v3).toNat)) fun x7 =>
    if x7 ≠ 81 then
      p_gd (p_is s0 v0 8) <|
      p_bd (F_Step_plainValue v0 x7 s0) fun r14 s10 =>
      B_Step_holds_60 k12 v0 v1 v2 v3 r14 s10
    else
      p_gd (p_is s0 (p_R s0 v2 4) 100) <|
      p_gd (0 ≤ v3 ∧ v3 < (p_L s0 (p_R s0 v2 4) : Int)) <|
      p_gd (p_is s0 v0 8) <|
      p_bd (F_Step_quotient v0 (p_Z s0 (p_R s0 v2 4) (v3).toNat) s0) fun r22 s18 =>
      B_Step_holds_60 k12 v0 v1 v2 v3 r22 s18
def O_Step_holds_12  : Nat → Nat → Int → Nat → Int → p_Hp → Option (Int × p_Hp)
  | 0 => fun _ _ _ _ _ => none
  | n + 1 => L_Step_holds_12 (O_Step_holds_12 n)
def F_Step_holds (v0 : Nat) (v1 : Int) (s0 : p_Hp) : Option (Int × p_Hp) :=
  p_gd (p_is s0 v0 8) <|
  p_gd (p_is s0 (p_R s0 v0 2) 9) <|
  p_bi ((p_R s0 (p_R s0 v0 2) 3)) fun x3 =>
  p_bi ((p_w (4 * v1))) fun x4 =>
  O_Step_holds_12 3000 v0 v1 x3 x4 s0
set_option maxRecDepth 100000 in
set_option maxHeartbeats 4000000 in
theorem tB_Step_holds_141 (K : p_K) (l : Launch) (k12 : Nat → Int → Nat → Int → p_Hp → Option (Int × p_Hp)) (hk12 : ∀ (v0 : Nat) (v1 : Int) (v2 : Nat) (v3 : Int)  (s0 : p_Hp) (r : (Int × p_Hp)), k12 v0 v1 v2 v3 s0 = some r → p_Go K l m_Step_holds 12 [(0, p_r v0), (1, p_i v1), (2, p_r v2), (3, p_i v3)] [] s0 (some (p_i r.1), r.2)) (v0 : Nat) (v1 : Int) (v2 : Nat) (v3 : Int) (w0 : Int) (s0 : p_Hp) (r : (Int × p_Hp)) (h : B_Step_holds_141 k12 v0 v1 v2 v3 w0 s0 = some r) : p_Go K l m_Step_holds 141 [(0, p_r v0), (1, p_i v1), (2, p_r v2), (3, p_i v3)] [p_i w0] s0 (some (p_i r.1), r.2) := by
  unfold B_Step_holds_141 at h
  refine g_istore [(8, p_i w0), (0, p_r v0), (1, p_i v1), (2, p_r v2), (3, p_i v3)] (dk_Step_holds 76 rfl) (by decide) rfl ?_
  refine g_iload (j := 0) (dk_Step_holds 77 rfl) rfl ?_
  refine g_if_ne 150 (dk_Step_holds 78 rfl) (by decide) (fun b1 => ?_) (fun b1 => ?_)
  · have h := p_ifT b1 h
    refine g_iinc (j := 4) [(3, p_i (p_w (v3 + 1))), (8, p_i w0), (0, p_r v0), (1, p_i v1), (2, p_r v2)] (dk_Step_holds 81 rfl) rfl (by decide) rfl ?_
    refine p_ltG (P := fun q => p_Go K l m_Step_holds 153 [(3, p_i q), (8, p_i w0), (0, p_r v0), (1, p_i v1), (2, p_r v2)] [] s0 _) ?_ h
    intro x2 h
    refine g_goto 12 (dk_Step_holds 82 rfl) (by decide) ?_
    refine g_sub [(0, p_r v0), (1, p_i v1), (2, p_r v2), (3, p_i x2)] [2, 3, 4, 0] rfl ?_
    exact hk12 v0 v1 v2 x2 s0 _ h
  · have h := p_ifF b1 h
    refine g_iconst (dk_Step_holds 79 rfl) (by decide) ?_
    cases h
    exact g_ret rfl rfl (dk_Step_holds 80 rfl) (fun os => ⟨_, rfl, p_okh os⟩)
set_option maxRecDepth 100000 in
set_option maxHeartbeats 4000000 in
theorem tB_Step_holds_60 (K : p_K) (l : Launch) (k12 : Nat → Int → Nat → Int → p_Hp → Option (Int × p_Hp)) (hk12 : ∀ (v0 : Nat) (v1 : Int) (v2 : Nat) (v3 : Int)  (s0 : p_Hp) (r : (Int × p_Hp)), k12 v0 v1 v2 v3 s0 = some r → p_Go K l m_Step_holds 12 [(0, p_r v0), (1, p_i v1), (2, p_r v2), (3, p_i v3)] [] s0 (some (p_i r.1), r.2)) (v0 : Nat) (v1 : Int) (v2 : Nat) (v3 : Int) (w0 : Int) (s0 : p_Hp) (r : (Int × p_Hp)) (h : B_Step_holds_60 k12 v0 v1 v2 v3 w0 s0 = some r) : p_Go K l m_Step_holds 60 [(0, p_r v0), (1, p_i v1), (2, p_r v2), (3, p_i v3)] [p_i w0] s0 (some (p_i r.1), r.2) := by
  unfold B_Step_holds_60 at h
  refine g_istore [(5, p_i w0), (0, p_r v0), (1, p_i v1), (2, p_r v2), (3, p_i v3)] (dk_Step_holds 36 rfl) (by decide) rfl ?_
  refine g_iload (j := 0) (dk_Step_holds 37 rfl) rfl ?_
  refine g_if_ge 70 (dk_Step_holds 38 rfl) (by decide) (fun b1 => ?_) (fun b1 => ?_)
  · have h := p_ifT b1 h
    refine g_iload (j := 0) (dk_Step_holds 41 rfl) rfl ?_
    refine g_aload_n (i := 2) (j := 3) (dk_Step_holds 42 rfl) rfl rfl ?_
    obtain ⟨c2, h⟩ := p_gdE h
    refine g_getR fl_Step_308 (Or.inr ⟨_, rfl⟩) (dk_Step_holds 43 rfl) c2 ?_
    refine g_iload_n (i := 3) (j := 4) (dk_Step_holds 44 rfl) rfl rfl ?_
    obtain ⟨c3, h⟩ := p_gdE h
    obtain ⟨c4, h⟩ := p_gdE h
    refine g_iaload (dk_Step_holds 45 rfl) c3 c4.1 c4.2 ?_
    obtain ⟨r9, s5, q6, h⟩ := p_bdE h
    have t7 := tF_In_compare K l w0 (p_Z s0 (p_R s0 v2 6) (v3).toNat) s0 _ q6
    refine g_callS (av := [p_i w0, p_i (p_Z s0 (p_R s0 v2 6) (v3).toNat)]) (rest := []) [p_i r9] mt_In_compare tw_5_20 tw_5_19 ⟨Nat.le_of_ble_eq_true rfl, Nat.le_of_ble_eq_true rfl⟩ rfl (Nat.le_of_ble_eq_true rfl) (dk_Step_holds 46 rfl) rfl rfl t7 ?_
    have hs8 : p_x s0 s5 := t7.1
    show p_Go K l m_Step_holds 81 [(5, p_i w0), (0, p_r v0), (1, p_i v1), (2, p_r v2), (3, p_i v3)] [p_i r9] s5 _
    refine g_istore [(6, p_i r9), (5, p_i w0), (0, p_r v0), (1, p_i v1), (2, p_r v2), (3, p_i v3)] (dk_Step_holds 47 rfl) (by decide) rfl ?_
    refine g_aload_n (i := 2) (j := 4) (dk_Step_holds 48 rfl) rfl rfl ?_
    refine g_getR fl_Step_317 (Or.inr ⟨_, rfl⟩) (dk_Step_holds 49 rfl) (c2.up hs8) ?_
    refine g_iload_n (i := 3) (j := 5) (dk_Step_holds 50 rfl) rfl rfl ?_
    obtain ⟨c10, h⟩ := p_gdE h
    obtain ⟨c11, h⟩ := p_gdE h
    refine g_iaload (dk_Step_holds 51 rfl) c10 c11.1 c11.2 ?_
    refine g_istore [(7, p_i (p_Z s5 (p_R s5 v2 5) (v3).toNat)), (6, p_i r9), (5, p_i w0), (0, p_r v0), (1, p_i v1), (2, p_r v2), (3, p_i v3)] (dk_Step_holds 52 rfl) (by decide) rfl ?_
    refine p_ltG (P := fun q => p_Go K l m_Step_holds 91 [(7, p_i q), (6, p_i r9), (5, p_i w0), (0, p_r v0), (1, p_i v1), (2, p_r v2), (3, p_i v3)] [] s5 _) ?_ h
    intro x12 h
    refine g_iload (j := 0) (dk_Step_holds 53 rfl) rfl ?_
    refine g_bipush (dk_Step_holds 54 rfl) rfl (by decide) ?_
    refine g_icmp_ne 111 (dk_Step_holds 55 rfl) (by decide) (fun b13 => ?_) (fun b13 => ?_)
    · have h := p_ifT b13 h
      refine g_iload (j := 0) (dk_Step_holds 62 rfl) rfl ?_
      refine g_bipush (dk_Step_holds 63 rfl) rfl (by decide) ?_
      refine g_icmp_ne 131 (dk_Step_holds 64 rfl) (by decide) (fun b14 => ?_) (fun b14 => ?_)
      · have h := p_ifT b14 h
        refine g_iload (j := 1) (dk_Step_holds 71 rfl) rfl ?_
        refine g_if_le 140 (dk_Step_holds 72 rfl) (by decide) (fun b15 => ?_) (fun b15 => ?_)
        · have h := p_ifT b15 h
          refine g_iconst (dk_Step_holds 75 rfl) (by decide) ?_
          refine g_sub [(0, p_r v0), (1, p_i v1), (2, p_r v2), (3, p_i v3)] [3, 4, 5, 6] rfl ?_
          exact tB_Step_holds_141 K l k12 hk12 v0 v1 v2 v3 0 s5 _ h
        · have h := p_ifF b15 h
          refine g_iconst (dk_Step_holds 73 rfl) (by decide) ?_
          refine g_goto 141 (dk_Step_holds 74 rfl) (by decide) ?_
          refine g_sub [(0, p_r v0), (1, p_i v1), (2, p_r v2), (3, p_i v3)] [3, 4, 5, 6] rfl ?_
          exact tB_Step_holds_141 K l k12 hk12 v0 v1 v2 v3 1 s5 _ h
      · have h := p_ifF b14 h
        refine g_iload (j := 1) (dk_Step_holds 65 rfl) rfl ?_
        refine g_if_ne 127 (dk_Step_holds 66 rfl) (by decide) (fun b16 => ?_) (fun b16 => ?_)
        · have h := p_ifT b16 h
          refine g_iconst (dk_Step_holds 69 rfl) (by decide) ?_
          refine g_goto 141 (dk_Step_holds 70 rfl) (by decide) ?_
          refine g_sub [(0, p_r v0), (1, p_i v1), (2, p_r v2), (3, p_i v3)] [3, 4, 5, 6] rfl ?_
          exact tB_Step_holds_141 K l k12 hk12 v0 v1 v2 v3 0 s5 _ h
        · have h := p_ifF b16 h
          refine g_iconst (dk_Step_holds 67 rfl) (by decide) ?_
          refine g_goto 141 (dk_Step_holds 68 rfl) (by decide) ?_
          refine g_sub [(0, p_r v0), (1, p_i v1), (2, p_r v2), (3, p_i v3)] [3, 4, 5, 6] rfl ?_
          exact tB_Step_holds_141 K l k12 hk12 v0 v1 v2 v3 1 s5 _ h
    · have h := p_ifF b13 h
      refine g_iload (j := 1) (dk_Step_holds 56 rfl) rfl ?_
      refine g_if_ge 107 (dk_Step_holds 57 rfl) (by decide) (fun b17 => ?_) (fun b17 => ?_)
      · have h := p_ifT b17 h
        refine g_iconst (dk_Step_holds 60 rfl) (by decide) ?_
        refine g_goto 141 (dk_Step_holds 61 rfl) (by decide) ?_
        refine g_sub [(0, p_r v0), (1, p_i v1), (2, p_r v2), (3, p_i v3)] [3, 4, 5, 6] rfl ?_
        exact tB_Step_holds_141 K l k12 hk12 v0 v1 v2 v3 0 s5 _ h
      · have h := p_ifF b17 h
        refine g_iconst (dk_Step_holds 58 rfl) (by decide) ?_
        refine g_goto 141 (dk_Step_holds 59 rfl) (by decide) ?_
        refine g_sub [(0, p_r v0), (1, p_i v1), (2, p_r v2), (3, p_i v3)] [3, 4, 5, 6] rfl ?_
        exact tB_Step_holds_141 K l k12 hk12 v0 v1 v2 v3 1 s5 _ h
  · have h := p_ifF b1 h
    refine g_iload (j := 0) (dk_Step_holds 39 rfl) rfl ?_
    cases h
    exact g_ret rfl rfl (dk_Step_holds 40 rfl) (fun os => ⟨_, rfl, p_okh os⟩)
set_option maxRecDepth 100000 in
set_option maxHeartbeats 4000000 in
theorem tL_Step_holds_12 (K : p_K) (l : Launch) (k12 : Nat → Int → Nat → Int → p_Hp → Option (Int × p_Hp)) (hk12 : ∀ (v0 : Nat) (v1 : Int) (v2 : Nat) (v3 : Int)  (s0 : p_Hp) (r : (Int × p_Hp)), k12 v0 v1 v2 v3 s0 = some r → p_Go K l m_Step_holds 12 [(0, p_r v0), (1, p_i v1), (2, p_r v2), (3, p_i v3)] [] s0 (some (p_i r.1), r.2)) (v0 : Nat) (v1 : Int) (v2 : Nat) (v3 : Int) (s0 : p_Hp) (r : (Int × p_Hp)) (h : L_Step_holds_12 k12 v0 v1 v2 v3 s0 = some r) : p_Go K l m_Step_holds 12 [(0, p_r v0), (1, p_i v1), (2, p_r v2), (3, p_i v3)] [] s0 (some (p_i r.1), r.2) := by
  unfold L_Step_holds_12 at h
  refine g_iload_n (i := 3) (j := 3) (dk_Step_holds 8 rfl) rfl rfl ?_
  refine g_iconst (dk_Step_holds 9 rfl) (by decide) ?_
  refine g_iload_n (i := 1) (j := 1) (dk_Step_holds 10 rfl) rfl rfl ?_
  refine g_imul (dk_Step_holds 11 rfl) ?_
  refine g_aload_n (i := 2) (j := 2) (dk_Step_holds 12 rfl) rfl rfl ?_
  obtain ⟨c1, h⟩ := p_gdE h
  refine g_getR fl_Step_293 (Or.inr ⟨_, rfl⟩) (dk_Step_holds 13 rfl) c1 ?_
  refine g_iload_n (i := 1) (j := 1) (dk_Step_holds 14 rfl) rfl rfl ?_
  obtain ⟨c2, h⟩ := p_gdE h
  obtain ⟨c3, h⟩ := p_gdE h
  refine g_iaload (dk_Step_holds 15 rfl) c2 c3.1 c3.2 ?_
  refine g_iadd (dk_Step_holds 16 rfl) ?_
  refine g_icmp_ge 156 (dk_Step_holds 17 rfl) (by decide) (fun b4 => ?_) (fun b4 => ?_)
  · have h := p_ifT b4 h
    refine g_iconst (dk_Step_holds 83 rfl) (by decide) ?_
    cases h
    exact g_ret rfl rfl (dk_Step_holds 84 rfl) (fun os => ⟨_, rfl, p_okh os⟩)
  · have h := p_ifF b4 h
    refine g_aload_n (i := 2) (j := 2) (dk_Step_holds 18 rfl) rfl rfl ?_
    refine g_getR fl_Step_296 (Or.inr ⟨_, rfl⟩) (dk_Step_holds 19 rfl) c1 ?_
    refine g_iload_n (i := 3) (j := 3) (dk_Step_holds 20 rfl) rfl rfl ?_
    obtain ⟨c5, h⟩ := p_gdE h
    obtain ⟨c6, h⟩ := p_gdE h
    refine g_iaload (dk_Step_holds 21 rfl) c5 c6.1 c6.2 ?_
    refine g_istore [(4, p_i (p_Z s0 (p_R s0 v2 3) (v3).toNat)), (0, p_r v0), (1, p_i v1), (2, p_r v2), (3, p_i v3)] (dk_Step_holds 22 rfl) (by decide) rfl ?_
    refine p_ltG (P := fun q => p_Go K l m_Step_holds 34 [(4, p_i q), (0, p_r v0), (1, p_i v1), (2, p_r v2), (3, p_i v3)] [] s0 _) ?_ h
    intro x7 h
    refine g_iload (j := 0) (dk_Step_holds 23 rfl) rfl ?_
    refine g_bipush (dk_Step_holds 24 rfl) rfl (by decide) ?_
    refine g_icmp_ne 54 (dk_Step_holds 25 rfl) (by decide) (fun b8 => ?_) (fun b8 => ?_)
    · have h := p_ifT b8 h
      refine g_aload_n (i := 0) (j := 1) (dk_Step_holds 33 rfl) rfl rfl ?_
      refine g_iload (j := 0) (dk_Step_holds 34 rfl) rfl ?_
      obtain ⟨c9, h⟩ := p_gdE h
      obtain ⟨r14, s10, q11, h⟩ := p_bdE h
      have t12 := tF_Step_plainValue K l v0 x7 s0 _ q11
      refine g_callV (a := v0) (ci := 8) (q0 := (RX8, TX8, 5)) (As := [p_i x7]) (rest := []) [p_i r14] mt_Step_plainValue rfl rfl tw_5_17 ts_29 tw_5_15 ⟨Nat.le_of_ble_eq_true rfl, Nat.le_of_ble_eq_true rfl⟩ rfl (Nat.le_of_ble_eq_true rfl) (dk_Step_holds 35 rfl) rfl c9 rfl t12 ?_
      have hs13 : p_x s0 s10 := t12.1
      show p_Go K l m_Step_holds 60 [(4, p_i x7), (0, p_r v0), (1, p_i v1), (2, p_r v2), (3, p_i v3)] [p_i r14] s10 _
      refine g_sub [(0, p_r v0), (1, p_i v1), (2, p_r v2), (3, p_i v3)] [1, 2, 3, 4] rfl ?_
      exact tB_Step_holds_60 K l k12 hk12 v0 v1 v2 v3 r14 s10 _ h
    · have h := p_ifF b8 h
      refine g_aload_n (i := 0) (j := 1) (dk_Step_holds 26 rfl) rfl rfl ?_
      refine g_aload_n (i := 2) (j := 3) (dk_Step_holds 27 rfl) rfl rfl ?_
      refine g_getR fl_Step_299 (Or.inr ⟨_, rfl⟩) (dk_Step_holds 28 rfl) c1 ?_
      refine g_iload_n (i := 3) (j := 4) (dk_Step_holds 29 rfl) rfl rfl ?_
      obtain ⟨c15, h⟩ := p_gdE h
      obtain ⟨c16, h⟩ := p_gdE h
      refine g_iaload (dk_Step_holds 30 rfl) c15 c16.1 c16.2 ?_
      obtain ⟨c17, h⟩ := p_gdE h
      obtain ⟨r22, s18, q19, h⟩ := p_bdE h
      have t20 := tF_Step_quotient K l v0 (p_Z s0 (p_R s0 v2 4) (v3).toNat) s0 _ q19
      refine g_callV (a := v0) (ci := 8) (q0 := (RX8, TX8, 5)) (As := [p_i (p_Z s0 (p_R s0 v2 4) (v3).toNat)]) (rest := []) [p_i r22] mt_Step_quotient rfl rfl tw_5_12 ts_28 tw_5_10 ⟨Nat.le_of_ble_eq_true rfl, Nat.le_of_ble_eq_true rfl⟩ rfl (Nat.le_of_ble_eq_true rfl) (dk_Step_holds 31 rfl) rfl c17 rfl t20 ?_
      have hs21 : p_x s0 s18 := t20.1
      show p_Go K l m_Step_holds 51 [(4, p_i x7), (0, p_r v0), (1, p_i v1), (2, p_r v2), (3, p_i v3)] [p_i r22] s18 _
      refine g_goto 60 (dk_Step_holds 32 rfl) (by decide) ?_
      refine g_sub [(0, p_r v0), (1, p_i v1), (2, p_r v2), (3, p_i v3)] [1, 2, 3, 4] rfl ?_
      exact tB_Step_holds_60 K l k12 hk12 v0 v1 v2 v3 r22 s18 _ h
set_option maxRecDepth 100000 in
set_option maxHeartbeats 4000000 in
theorem tO_Step_holds_12 (K : p_K) (l : Launch)  : ∀ (n : Nat) (v0 : Nat) (v1 : Int) (v2 : Nat) (v3 : Int) (s0 : p_Hp) (r : (Int × p_Hp)), O_Step_holds_12 n v0 v1 v2 v3 s0 = some r → p_Go K l m_Step_holds 12 [(0, p_r v0), (1, p_i v1), (2, p_r v2), (3, p_i v3)] [] s0 (some (p_i r.1), r.2) := by
  intro n
  induction n with
  | zero => intro v0 v1 v2 v3 s0 r h; cases (show (none : Option (Int × p_Hp)) = some r from h)
  | succ n ih => intro v0 v1 v2 v3 s0 r h; exact tL_Step_holds_12 K l _ ih v0 v1 v2 v3 s0 r h
set_option maxRecDepth 100000 in
set_option maxHeartbeats 4000000 in
theorem tF_Step_holds (K : p_K) (l : Launch) (v0 : Nat) (v1 : Int) (s0 : p_Hp) (r : (Int × p_Hp)) (h : F_Step_holds v0 v1 s0 = some r) : p_Ct K l m_Step_holds [p_r v0, p_i v1] s0 (some (p_i r.1), r.2) := by
  refine p_Ct.of (by decide) (Nat.le_of_ble_eq_true rfl) ?_
  unfold F_Step_holds at h
  show p_Go K l m_Step_holds 0 [(0, p_r v0), (1, p_i v1)] [] s0 _
  refine g_aload_n (i := 0) (j := 0) (dk_Step_holds 0 rfl) rfl rfl ?_
  obtain ⟨c1, h⟩ := p_gdE h
  refine g_getR fl_Step_18 (Or.inl ⟨_, rfl⟩) (dk_Step_holds 1 rfl) c1 ?_
  obtain ⟨c2, h⟩ := p_gdE h
  refine g_getR fl_Step_277 (Or.inl ⟨_, rfl⟩) (dk_Step_holds 2 rfl) c2 ?_
  refine g_astore_n (i := 2) [(2, p_r (p_R s0 (p_R s0 v0 2) 3)), (0, p_r v0), (1, p_i v1)] (dk_Step_holds 3 rfl) rfl (by decide) rfl ?_
  refine p_ltG (P := fun q => p_Go K l m_Step_holds 8 [(2, p_r q), (0, p_r v0), (1, p_i v1)] [] s0 _) ?_ h
  intro x3 h
  refine g_iconst (dk_Step_holds 4 rfl) (by decide) ?_
  refine g_iload_n (i := 1) (j := 2) (dk_Step_holds 5 rfl) rfl rfl ?_
  refine g_imul (dk_Step_holds 6 rfl) ?_
  refine g_istore_n (i := 3) [(3, p_i (p_w (4 * v1))), (2, p_r x3), (0, p_r v0), (1, p_i v1)] (dk_Step_holds 7 rfl) rfl (by decide) rfl ?_
  refine p_ltG (P := fun q => p_Go K l m_Step_holds 12 [(3, p_i q), (2, p_r x3), (0, p_r v0), (1, p_i v1)] [] s0 _) ?_ h
  intro x4 h
  refine g_sub [(0, p_r v0), (1, p_i v1), (2, p_r x3), (3, p_i x4)] [2, 3, 1, 0] rfl ?_
  exact tO_Step_holds_12 K l 3000 v0 v1 x3 x4 s0 _ h
def m_Step_targetByRules : p_Me := (⟨"SortWorks$Step", "targetByRules", "(I)I"⟩, prog_10_method_18_code, 4, (some .int), 3, 76)
theorem mt_Step_targetByRules : p_Mt m_Step_targetByRules 1 := ⟨p_mem (p_tb5 (List.mem_of_getElem? (i := 5) rfl)) rfl, tw_1_9, by decide +kernel, by decide +kernel, by decide +kernel⟩
def dt_Step_targetByRules : List (Nat × Instr × Nat) := [(0, .iconst 0, 1), (1, .istore_n 2, 1), (2, .iload_n 2, 1), (3, .aload_n 0, 1), (4, .getfield 18, 3), (7, .getfield 277, 3), (10, .getfield 281, 3), (13, .if_icmp .ge 61, 3), (16, .aload_n 0, 1), (17, .iload_n 2, 1), (18, .invokevirtual 284, 3), (21, .istore_n 3, 1), (22, .iload_n 3, 1), (23, .ifCond .ge 14, 3), (26, .aload_n 0, 1), (27, .iload_n 1, 1), (28, .iconst 3, 1), (29, .iload_n 3, 1), (30, .iload_n 2, 1), (31, .invokevirtual 125, 3), (34, .goto 34, 3), (37, .iload_n 3, 1), (38, .iconst 1, 1), (39, .if_icmp .ne 29, 3), (42, .aload_n 0, 1), (43, .getfield 28, 3), (46, .getfield 287, 3), (49, .iload_n 2, 1), (50, .dup2, 1), (51, .iaload, 1), (52, .iconst 1, 1), (53, .iadd, 1), (54, .iastore, 1), (55, .aload_n 0, 1), (56, .getfield 18, 3), (59, .getfield 277, 3), (62, .getfield 290, 3), (65, .iload_n 2, 1), (66, .iaload, 1), (67, .ireturn, 1), (68, .iinc 2 1, 3), (71, .goto (-69), 3), (74, .bipush (-9), 2), (76, .ireturn, 1)]
theorem dk_Step_targetByRules (i : Nat) {pc : Nat} {ins : Instr} {len : Nat} (h : dt_Step_targetByRules[i]? = some (pc, ins, len)) : decode m_Step_targetByRules.2.1 pc = .ok (ins, len) := p_dk (b := m_Step_targetByRules.2.1) (t := dt_Step_targetByRules) (by decide +kernel) i h
def B_Step_targetByRules_68 (k2 : Nat → Int → Int → p_Hp → Option (Int × p_Hp)) (v0 : Nat) (v1 : Int) (v2 : Int) (s0 : p_Hp) : Option (Int × p_Hp) :=
  p_bi (p_w (v2 + 1)) fun x1 =>
  k2 v0 v1 x1 s0
def L_Step_targetByRules_2 (k2 : Nat → Int → Int → p_Hp → Option (Int × p_Hp)) (v0 : Nat) (v1 : Int) (v2 : Int) (s0 : p_Hp) : Option (Int × p_Hp) :=
  p_gd (p_is s0 v0 8) <|
  p_gd (p_is s0 (p_R s0 v0 2) 9) <|
  p_gd (p_is s0 (p_R s0 (p_R s0 v0 2) 3) 6) <|
  if (p_Z s0 (p_R s0 (p_R s0 v0 2) 3) 0) ≤ v2 then
    some ((-9), s0)
  else
    p_bd (F_Step_holds v0 v2 s0) fun r9 s5 =>
    if 0 ≤ r9 then
      if r9 ≠ 1 then
        B_Step_targetByRules_68 k2 v0 v1 v2 s5
      else
        p_gd (p_is s5 (p_R s5 v0 3) 7) <|
        p_gd (p_is s5 (p_R s5 (p_R s5 v0 3) 6) 100) <|
        p_gd (0 ≤ v2 ∧ v2 < (p_L s5 (p_R s5 (p_R s5 v0 3) 6) : Int)) <|
        p_gd (0 ≤ v2 ∧ v2 < (p_L s5 (p_R s5 (p_R s5 v0 3) 6) : Int)) <|
        p_bi (p_wZ s5 (p_R s5 (p_R s5 v0 3) 6) (v2).toNat (p_w ((p_Z s5 (p_R s5 (p_R s5 v0 3) 6) (v2).toNat) + 1))) fun s16 =>
        p_gd (p_is s16 (p_R s16 v0 2) 9) <|
        p_gd (p_is s16 (p_R s16 (p_R s16 v0 2) 3) 6) <|
        p_gd (p_is s16 (p_R s16 (p_R s16 (p_R s16 v0 2) 3) 1) 100) <|
        p_gd (0 ≤ v2 ∧ v2 < (p_L s16 (p_R s16 (p_R s16 (p_R s16 v0 2) 3) 1) : Int)) <|
        some ((p_Z s16 (p_R s16 (p_R s16 (p_R s16 v0 2) 3) 1) (v2).toNat), s16)
    else
      p_bv (F_Step_addFinding v0 v1 3 r9 v2 s5) fun s22 =>
      B_Step_targetByRules_68 k2 v0 v1 v2 s22
def O_Step_targetByRules_2  : Nat → Nat → Int → Int → p_Hp → Option (Int × p_Hp)
  | 0 => fun _ _ _ _ => none
  | n + 1 => L_Step_targetByRules_2 (O_Step_targetByRules_2 n)
def F_Step_targetByRules (v0 : Nat) (v1 : Int) (s0 : p_Hp) : Option (Int × p_Hp) :=
  O_Step_targetByRules_2 3000 v0 v1 0 s0
set_option maxRecDepth 100000 in
set_option maxHeartbeats 4000000 in
theorem tB_Step_targetByRules_68 (K : p_K) (l : Launch) (k2 : Nat → Int → Int → p_Hp → Option (Int × p_Hp)) (hk2 : ∀ (v0 : Nat) (v1 : Int) (v2 : Int)  (s0 : p_Hp) (r : (Int × p_Hp)), k2 v0 v1 v2 s0 = some r → p_Go K l m_Step_targetByRules 2 [(0, p_r v0), (1, p_i v1), (2, p_i v2)] [] s0 (some (p_i r.1), r.2)) (v0 : Nat) (v1 : Int) (v2 : Int) (s0 : p_Hp) (r : (Int × p_Hp)) (h : B_Step_targetByRules_68 k2 v0 v1 v2 s0 = some r) : p_Go K l m_Step_targetByRules 68 [(0, p_r v0), (1, p_i v1), (2, p_i v2)] [] s0 (some (p_i r.1), r.2) := by
  unfold B_Step_targetByRules_68 at h
  refine g_iinc (j := 2) [(2, p_i (p_w (v2 + 1))), (0, p_r v0), (1, p_i v1)] (dk_Step_targetByRules 40 rfl) rfl (by decide) rfl ?_
  refine p_ltG (P := fun q => p_Go K l m_Step_targetByRules 71 [(2, p_i q), (0, p_r v0), (1, p_i v1)] [] s0 _) ?_ h
  intro x1 h
  refine g_goto 2 (dk_Step_targetByRules 41 rfl) (by decide) ?_
  refine g_sub [(0, p_r v0), (1, p_i v1), (2, p_i x1)] [1, 2, 0] rfl ?_
  exact hk2 v0 v1 x1 s0 _ h
set_option maxRecDepth 100000 in
set_option maxHeartbeats 4000000 in
theorem tL_Step_targetByRules_2 (K : p_K) (l : Launch) (k2 : Nat → Int → Int → p_Hp → Option (Int × p_Hp)) (hk2 : ∀ (v0 : Nat) (v1 : Int) (v2 : Int)  (s0 : p_Hp) (r : (Int × p_Hp)), k2 v0 v1 v2 s0 = some r → p_Go K l m_Step_targetByRules 2 [(0, p_r v0), (1, p_i v1), (2, p_i v2)] [] s0 (some (p_i r.1), r.2)) (v0 : Nat) (v1 : Int) (v2 : Int) (s0 : p_Hp) (r : (Int × p_Hp)) (h : L_Step_targetByRules_2 k2 v0 v1 v2 s0 = some r) : p_Go K l m_Step_targetByRules 2 [(0, p_r v0), (1, p_i v1), (2, p_i v2)] [] s0 (some (p_i r.1), r.2) := by
  unfold L_Step_targetByRules_2 at h
  refine g_iload_n (i := 2) (j := 2) (dk_Step_targetByRules 2 rfl) rfl rfl ?_
  refine g_aload_n (i := 0) (j := 0) (dk_Step_targetByRules 3 rfl) rfl rfl ?_
  obtain ⟨c1, h⟩ := p_gdE h
  refine g_getR fl_Step_18 (Or.inl ⟨_, rfl⟩) (dk_Step_targetByRules 4 rfl) c1 ?_
  obtain ⟨c2, h⟩ := p_gdE h
  refine g_getR fl_Step_277 (Or.inl ⟨_, rfl⟩) (dk_Step_targetByRules 5 rfl) c2 ?_
  obtain ⟨c3, h⟩ := p_gdE h
  refine g_getI fl_Step_281 (Or.inl rfl) (dk_Step_targetByRules 6 rfl) c3 ?_
  refine g_icmp_ge 74 (dk_Step_targetByRules 7 rfl) (by decide) (fun b4 => ?_) (fun b4 => ?_)
  · have h := p_ifT b4 h
    refine g_bipush (dk_Step_targetByRules 42 rfl) rfl (by decide) ?_
    cases h
    exact g_ret rfl rfl (dk_Step_targetByRules 43 rfl) (fun os => ⟨_, rfl, p_okh os⟩)
  · have h := p_ifF b4 h
    refine g_aload_n (i := 0) (j := 0) (dk_Step_targetByRules 8 rfl) rfl rfl ?_
    refine g_iload_n (i := 2) (j := 2) (dk_Step_targetByRules 9 rfl) rfl rfl ?_
    obtain ⟨r9, s5, q6, h⟩ := p_bdE h
    have t7 := tF_Step_holds K l v0 v2 s0 _ q6
    refine g_callV (a := v0) (ci := 8) (q0 := (RX8, TX8, 5)) (As := [p_i v2]) (rest := []) [p_i r9] mt_Step_holds rfl rfl tw_5_8 ts_27 tw_5_6 ⟨Nat.le_of_ble_eq_true rfl, Nat.le_of_ble_eq_true rfl⟩ rfl (Nat.le_of_ble_eq_true rfl) (dk_Step_targetByRules 10 rfl) rfl c1 rfl t7 ?_
    have hs8 : p_x s0 s5 := t7.1
    show p_Go K l m_Step_targetByRules 21 [(0, p_r v0), (1, p_i v1), (2, p_i v2)] [p_i r9] s5 _
    refine g_istore_n (i := 3) [(3, p_i r9), (0, p_r v0), (1, p_i v1), (2, p_i v2)] (dk_Step_targetByRules 11 rfl) rfl (by decide) rfl ?_
    refine g_iload_n (i := 3) (j := 0) (dk_Step_targetByRules 12 rfl) rfl rfl ?_
    refine g_if_ge 37 (dk_Step_targetByRules 13 rfl) (by decide) (fun b10 => ?_) (fun b10 => ?_)
    · have h := p_ifT b10 h
      refine g_iload_n (i := 3) (j := 0) (dk_Step_targetByRules 21 rfl) rfl rfl ?_
      refine g_iconst (dk_Step_targetByRules 22 rfl) (by decide) ?_
      refine g_icmp_ne 68 (dk_Step_targetByRules 23 rfl) (by decide) (fun b11 => ?_) (fun b11 => ?_)
      · have h := p_ifT b11 h
        refine g_sub [(0, p_r v0), (1, p_i v1), (2, p_i v2)] [1, 2, 3] rfl ?_
        exact tB_Step_targetByRules_68 K l k2 hk2 v0 v1 v2 s5 _ h
      · have h := p_ifF b11 h
        refine g_aload_n (i := 0) (j := 1) (dk_Step_targetByRules 24 rfl) rfl rfl ?_
        refine g_getR fl_Step_28 (Or.inl ⟨_, rfl⟩) (dk_Step_targetByRules 25 rfl) (c1.up hs8) ?_
        obtain ⟨c12, h⟩ := p_gdE h
        refine g_getR fl_Step_287 (Or.inr ⟨_, rfl⟩) (dk_Step_targetByRules 26 rfl) c12 ?_
        refine g_iload_n (i := 2) (j := 3) (dk_Step_targetByRules 27 rfl) rfl rfl ?_
        refine g_dup2 (dk_Step_targetByRules 28 rfl) rfl rfl ?_
        obtain ⟨c13, h⟩ := p_gdE h
        obtain ⟨c14, h⟩ := p_gdE h
        refine g_iaload (dk_Step_targetByRules 29 rfl) c13 c14.1 c14.2 ?_
        refine g_iconst (dk_Step_targetByRules 30 rfl) (by decide) ?_
        refine g_iadd (dk_Step_targetByRules 31 rfl) ?_
        obtain ⟨c15, h⟩ := p_gdE h
        refine g_iastore (dk_Step_targetByRules 32 rfl) c13 c15.1 c15.2 ?_
        refine p_ltS (P := fun q => p_Go K l m_Step_targetByRules 55 [(3, p_i r9), (0, p_r v0), (1, p_i v1), (2, p_i v2)] [] q _) (p_xZ _ _ _ _) ?_ h
        intro s16 hs17 h
        refine g_aload_n (i := 0) (j := 1) (dk_Step_targetByRules 33 rfl) rfl rfl ?_
        refine g_getR fl_Step_18 (Or.inl ⟨_, rfl⟩) (dk_Step_targetByRules 34 rfl) (c1.up (hs8.trans hs17)) ?_
        obtain ⟨c18, h⟩ := p_gdE h
        refine g_getR fl_Step_277 (Or.inl ⟨_, rfl⟩) (dk_Step_targetByRules 35 rfl) c18 ?_
        obtain ⟨c19, h⟩ := p_gdE h
        refine g_getR fl_Step_290 (Or.inr ⟨_, rfl⟩) (dk_Step_targetByRules 36 rfl) c19 ?_
        refine g_iload_n (i := 2) (j := 3) (dk_Step_targetByRules 37 rfl) rfl rfl ?_
        obtain ⟨c20, h⟩ := p_gdE h
        obtain ⟨c21, h⟩ := p_gdE h
        refine g_iaload (dk_Step_targetByRules 38 rfl) c20 c21.1 c21.2 ?_
        cases h
        exact g_ret rfl rfl (dk_Step_targetByRules 39 rfl) (fun os => ⟨_, rfl, p_okh os⟩)
    · have h := p_ifF b10 h
      refine g_aload_n (i := 0) (j := 1) (dk_Step_targetByRules 14 rfl) rfl rfl ?_
      refine g_iload_n (i := 1) (j := 2) (dk_Step_targetByRules 15 rfl) rfl rfl ?_
      refine g_iconst (dk_Step_targetByRules 16 rfl) (by decide) ?_
      refine g_iload_n (i := 3) (j := 0) (dk_Step_targetByRules 17 rfl) rfl rfl ?_
      refine g_iload_n (i := 2) (j := 3) (dk_Step_targetByRules 18 rfl) rfl rfl ?_
      obtain ⟨s22, q23, h⟩ := p_bvE h
      have t24 := tF_Step_addFinding K l v0 v1 3 r9 v2 s5 _ q23
      refine g_callV (a := v0) (ci := 8) (q0 := (RX8, TX8, 5)) (As := [p_i v1, p_i 3, p_i r9, p_i v2]) (rest := []) [] mt_Step_addFinding rfl rfl tw_4_176 ts_16 tw_4_174 ⟨Nat.le_of_ble_eq_true rfl, Nat.le_of_ble_eq_true rfl⟩ rfl (Nat.le_of_ble_eq_true rfl) (dk_Step_targetByRules 19 rfl) rfl (c1.up hs8) rfl t24 ?_
      have hs25 : p_x s5 s22 := t24.1
      show p_Go K l m_Step_targetByRules 34 [(3, p_i r9), (0, p_r v0), (1, p_i v1), (2, p_i v2)] [] s22 _
      refine g_goto 68 (dk_Step_targetByRules 20 rfl) (by decide) ?_
      refine g_sub [(0, p_r v0), (1, p_i v1), (2, p_i v2)] [1, 2, 3] rfl ?_
      exact tB_Step_targetByRules_68 K l k2 hk2 v0 v1 v2 s22 _ h
set_option maxRecDepth 100000 in
set_option maxHeartbeats 4000000 in
theorem tO_Step_targetByRules_2 (K : p_K) (l : Launch)  : ∀ (n : Nat) (v0 : Nat) (v1 : Int) (v2 : Int) (s0 : p_Hp) (r : (Int × p_Hp)), O_Step_targetByRules_2 n v0 v1 v2 s0 = some r → p_Go K l m_Step_targetByRules 2 [(0, p_r v0), (1, p_i v1), (2, p_i v2)] [] s0 (some (p_i r.1), r.2) := by
  intro n
  induction n with
  | zero => intro v0 v1 v2 s0 r h; cases (show (none : Option (Int × p_Hp)) = some r from h)
  | succ n ih => intro v0 v1 v2 s0 r h; exact tL_Step_targetByRules_2 K l _ ih v0 v1 v2 s0 r h
set_option maxRecDepth 100000 in
set_option maxHeartbeats 4000000 in
theorem tF_Step_targetByRules (K : p_K) (l : Launch) (v0 : Nat) (v1 : Int) (s0 : p_Hp) (r : (Int × p_Hp)) (h : F_Step_targetByRules v0 v1 s0 = some r) : p_Ct K l m_Step_targetByRules [p_r v0, p_i v1] s0 (some (p_i r.1), r.2) := by
  refine p_Ct.of (by decide) (Nat.le_of_ble_eq_true rfl) ?_
  unfold F_Step_targetByRules at h
  show p_Go K l m_Step_targetByRules 0 [(0, p_r v0), (1, p_i v1)] [] s0 _
  refine g_iconst (dk_Step_targetByRules 0 rfl) (by decide) ?_
  refine g_istore_n (i := 2) [(2, p_i 0), (0, p_r v0), (1, p_i v1)] (dk_Step_targetByRules 1 rfl) rfl (by decide) rfl ?_
  refine g_sub [(0, p_r v0), (1, p_i v1), (2, p_i 0)] [1, 2, 0] rfl ?_
  exact tO_Step_targetByRules_2 K l 3000 v0 v1 0 s0 _ h
def m_Step_scan : p_Me := (⟨"SortWorks$Step", "scan", "(ILSortWorks$Gear;)Z"⟩, prog_10_method_17_code, 5, (some .boolean), 4, 99)
theorem mt_Step_scan : p_Mt m_Step_scan 2 := ⟨p_mem (p_tb4 (List.mem_of_getElem? (i := 229) rfl)) rfl, tw_1_9, by decide +kernel, by decide +kernel, by decide +kernel⟩
def dt_Step_scan : List (Nat × Instr × Nat) := [(0, .aload_n 0, 1), (1, .getfield 28, 3), (4, .aload_n 2, 1), (5, .invokevirtual 181, 3), (8, .astore_n 3, 1), (9, .aload_n 3, 1), (10, .ifnull 17, 3), (13, .aload_n 3, 1), (14, .getfield 64, 3), (17, .ifCond .ne 10, 3), (20, .aload_n 3, 1), (21, .getfield 253, 3), (24, .ifCond .eq 5, 3), (27, .iconst 1, 1), (28, .ireturn, 1), (29, .aload_n 3, 1), (30, .iconst 1, 1), (31, .putfield 253, 3), (34, .aload_n 3, 1), (35, .bipush (-8), 2), (37, .putfield 256, 3), (40, .aload_n 0, 1), (41, .getfield 12, 3), (44, .aload_n 3, 1), (45, .invokevirtual 259, 3), (48, .istore 4, 2), (50, .iload 4, 2), (52, .ifCond .eq 17, 3), (55, .aload_n 0, 1), (56, .iload_n 1, 1), (57, .iconst 2, 1), (58, .iload 4, 2), (60, .aload_n 3, 1), (61, .getfield 263, 3), (64, .invokevirtual 125, 3), (67, .iconst 0, 1), (68, .ireturn, 1), (69, .aload_n 0, 1), (70, .getfield 12, 3), (73, .getfield 266, 3), (76, .ifCond .ne 34, 3), (79, .aload_n 2, 1), (80, .getfield 97, 3), (83, .iconst 4, 1), (84, .if_icmp .ne 17, 3), (87, .aload_n 0, 1), (88, .getfield 12, 3), (91, .getfield 269, 3), (94, .aload_n 3, 1), (95, .getfield 272, 3), (98, .if_icmp .ne 12, 3), (101, .aload_n 3, 1), (102, .aload_n 0, 1), (103, .iload_n 1, 1), (104, .invokevirtual 273, 3), (107, .putfield 256, 3), (110, .iconst 1, 1), (111, .ireturn, 1)]
theorem dk_Step_scan (i : Nat) {pc : Nat} {ins : Instr} {len : Nat} (h : dt_Step_scan[i]? = some (pc, ins, len)) : decode m_Step_scan.2.1 pc = .ok (ins, len) := p_dk (b := m_Step_scan.2.1) (t := dt_Step_scan) (by decide +kernel) i h
def B_Step_scan_101  (v0 : Nat) (v1 : Int) (v3 : Nat) (s0 : p_Hp) : Option (Int × p_Hp) :=
  p_gd (p_is s0 v0 8) <|
  p_bd (F_Step_targetByRules v0 v1 s0) fun r6 s2 =>
  p_gd (p_is s2 v3 4) <|
  p_bi (p_wZ s2 v3 4 r6) fun s8 =>
  some (1, s8)
def F_Step_scan (v0 : Nat) (v1 : Int) (v2 : Nat) (s0 : p_Hp) : Option (Int × p_Hp) :=
  p_gd (p_is s0 v0 8) <|
  p_gd (p_is s0 (p_R s0 v0 3) 7) <|
  p_bd (F_State_inLastSlot (p_R s0 v0 3) v2 s0) fun r7 s3 =>
  if r7 = 0 then
    some (1, s3)
  else
    p_gd (p_is s3 r7 4) <|
    if (p_Z s3 r7 8) ≠ 0 then
      some (1, s3)
    else
      if (p_Z s3 r7 7) = 0 then
        p_bi (p_wZ s3 r7 7 1) fun s12 =>
        p_bi (p_wZ s12 r7 4 (-8)) fun s14 =>
        p_gd (p_is s14 (p_R s14 v0 0) 5) <|
        p_bd (F_Reading_read (p_R s14 v0 0) r7 s14) fun r21 s17 =>
        if r21 = 0 then
          p_gd (p_is s17 (p_R s17 v0 0) 5) <|
          if (p_Z s17 (p_R s17 v0 0) 0) ≠ 0 then
            some (1, s17)
          else
            p_gd (p_is s17 v2 0) <|
            if (p_Z s17 v2 0) ≠ 4 then
              B_Step_scan_101 v0 v1 r7 s17
            else
              if (p_Z s17 (p_R s17 v0 0) 2) ≠ (p_Z s17 r7 2) then
                some (1, s17)
              else
                B_Step_scan_101 v0 v1 r7 s17
        else
          p_bv (F_Step_addFinding v0 v1 2 r21 (p_Z s17 r7 1) s17) fun s28 =>
          some (0, s28)
      else
        some (1, s3)
set_option maxRecDepth 100000 in
set_option maxHeartbeats 4000000 in
theorem tB_Step_scan_101 (K : p_K) (l : Launch)  (v0 : Nat) (v1 : Int) (v3 : Nat) (s0 : p_Hp) (r : (Int × p_Hp)) (h : B_Step_scan_101 v0 v1 v3 s0 = some r) : p_Go K l m_Step_scan 101 [(0, p_r v0), (1, p_i v1), (3, p_r v3)] [] s0 (some (p_i r.1), r.2) := by
  unfold B_Step_scan_101 at h
  refine g_aload_n (i := 3) (j := 2) (dk_Step_scan 51 rfl) rfl rfl ?_
  refine g_aload_n (i := 0) (j := 0) (dk_Step_scan 52 rfl) rfl rfl ?_
  refine g_iload_n (i := 1) (j := 1) (dk_Step_scan 53 rfl) rfl rfl ?_
  obtain ⟨c1, h⟩ := p_gdE h
  obtain ⟨r6, s2, q3, h⟩ := p_bdE h
  have t4 := tF_Step_targetByRules K l v0 v1 s0 _ q3
  refine g_callV (a := v0) (ci := 8) (q0 := (RX8, TX8, 5)) (As := [p_i v1]) (rest := [p_r v3]) [p_i r6, p_r v3] mt_Step_targetByRules rfl rfl tw_5_4 ts_26 tw_5_2 ⟨Nat.le_of_ble_eq_true rfl, Nat.le_of_ble_eq_true rfl⟩ rfl (Nat.le_of_ble_eq_true rfl) (dk_Step_scan 54 rfl) rfl c1 rfl t4 ?_
  have hs5 : p_x s0 s2 := t4.1
  show p_Go K l m_Step_scan 107 [(0, p_r v0), (1, p_i v1), (3, p_r v3)] [p_i r6, p_r v3] s2 _
  obtain ⟨c7, h⟩ := p_gdE h
  refine g_putI fl_Step_256 (Or.inl rfl) (dk_Step_scan 55 rfl) c7 ?_
  refine p_ltS (P := fun q => p_Go K l m_Step_scan 110 [(0, p_r v0), (1, p_i v1), (3, p_r v3)] [] q _) (p_xZ _ _ _ _) ?_ h
  intro s8 hs9 h
  refine g_iconst (dk_Step_scan 56 rfl) (by decide) ?_
  cases h
  exact g_ret rfl rfl (dk_Step_scan 57 rfl) (fun _ => ⟨_, rfl, Or.inr rfl⟩)
set_option maxRecDepth 100000 in
set_option maxHeartbeats 4000000 in
theorem tF_Step_scan (K : p_K) (l : Launch) (v0 : Nat) (v1 : Int) (v2 : Nat) (s0 : p_Hp) (r : (Int × p_Hp)) (h : F_Step_scan v0 v1 v2 s0 = some r) : p_Ct K l m_Step_scan [p_r v0, p_i v1, p_r v2] s0 (some (p_i r.1), r.2) := by
  refine p_Ct.of (by decide) (Nat.le_of_ble_eq_true rfl) ?_
  unfold F_Step_scan at h
  show p_Go K l m_Step_scan 0 [(0, p_r v0), (1, p_i v1), (2, p_r v2)] [] s0 _
  refine g_aload_n (i := 0) (j := 0) (dk_Step_scan 0 rfl) rfl rfl ?_
  obtain ⟨c1, h⟩ := p_gdE h
  refine g_getR fl_Step_28 (Or.inl ⟨_, rfl⟩) (dk_Step_scan 1 rfl) c1 ?_
  refine g_aload_n (i := 2) (j := 2) (dk_Step_scan 2 rfl) rfl rfl ?_
  obtain ⟨c2, h⟩ := p_gdE h
  obtain ⟨r7, s3, q4, h⟩ := p_bdE h
  have t5 := tF_State_inLastSlot K l (p_R s0 v0 3) v2 s0 _ q4
  refine g_callV (a := (p_R s0 v0 3)) (ci := 7) (q0 := (RX7, TX7, 9)) (As := [p_r v2]) (rest := []) [p_r r7] mt_State_inLastSlot rfl rfl tw_4_62 tw_4_63 tw_4_197 ⟨Nat.le_of_ble_eq_true rfl, Nat.le_of_ble_eq_true rfl⟩ rfl (Nat.le_of_ble_eq_true rfl) (dk_Step_scan 3 rfl) rfl c2 rfl t5 ?_
  have hs6 : p_x s0 s3 := t5.1
  show p_Go K l m_Step_scan 8 [(0, p_r v0), (1, p_i v1), (2, p_r v2)] [p_r r7] s3 _
  refine g_astore_n (i := 3) [(3, p_r r7), (0, p_r v0), (1, p_i v1), (2, p_r v2)] (dk_Step_scan 4 rfl) rfl (by decide) rfl ?_
  refine g_aload_n (i := 3) (j := 0) (dk_Step_scan 5 rfl) rfl rfl ?_
  refine g_ifnull 27 (dk_Step_scan 6 rfl) (by decide) (fun b8 => ?_) (fun b8 => ?_)
  · have h := p_ifT b8 h
    refine g_iconst (dk_Step_scan 13 rfl) (by decide) ?_
    cases h
    exact g_ret rfl rfl (dk_Step_scan 14 rfl) (fun _ => ⟨_, rfl, Or.inr rfl⟩)
  · have h := p_ifF b8 h
    refine g_aload_n (i := 3) (j := 0) (dk_Step_scan 7 rfl) rfl rfl ?_
    obtain ⟨c9, h⟩ := p_gdE h
    refine g_getI fl_Step_64 (Or.inr rfl) (dk_Step_scan 8 rfl) c9 ?_
    refine g_if_ne 27 (dk_Step_scan 9 rfl) (by decide) (fun b10 => ?_) (fun b10 => ?_)
    · have h := p_ifT b10 h
      refine g_iconst (dk_Step_scan 13 rfl) (by decide) ?_
      cases h
      exact g_ret rfl rfl (dk_Step_scan 14 rfl) (fun _ => ⟨_, rfl, Or.inr rfl⟩)
    · have h := p_ifF b10 h
      refine g_aload_n (i := 3) (j := 0) (dk_Step_scan 10 rfl) rfl rfl ?_
      refine g_getI fl_Step_253 (Or.inr rfl) (dk_Step_scan 11 rfl) c9 ?_
      refine g_if_eq 29 (dk_Step_scan 12 rfl) (by decide) (fun b11 => ?_) (fun b11 => ?_)
      · have h := p_ifT b11 h
        refine g_aload_n (i := 3) (j := 0) (dk_Step_scan 15 rfl) rfl rfl ?_
        refine g_iconst (dk_Step_scan 16 rfl) (by decide) ?_
        refine g_putB fl_Step_253 (Or.inl rfl) (dk_Step_scan 17 rfl) c9 (Or.inr rfl) ?_
        refine p_ltS (P := fun q => p_Go K l m_Step_scan 34 [(3, p_r r7), (0, p_r v0), (1, p_i v1), (2, p_r v2)] [] q _) (p_xZ _ _ _ _) ?_ h
        intro s12 hs13 h
        refine g_aload_n (i := 3) (j := 0) (dk_Step_scan 18 rfl) rfl rfl ?_
        refine g_bipush (dk_Step_scan 19 rfl) rfl (by decide) ?_
        refine g_putI fl_Step_256 (Or.inl rfl) (dk_Step_scan 20 rfl) (c9.up hs13) ?_
        refine p_ltS (P := fun q => p_Go K l m_Step_scan 40 [(3, p_r r7), (0, p_r v0), (1, p_i v1), (2, p_r v2)] [] q _) (p_xZ _ _ _ _) ?_ h
        intro s14 hs15 h
        refine g_aload_n (i := 0) (j := 1) (dk_Step_scan 21 rfl) rfl rfl ?_
        refine g_getR fl_Step_12 (Or.inl ⟨_, rfl⟩) (dk_Step_scan 22 rfl) (c1.up (hs6.trans (hs13.trans hs15))) ?_
        refine g_aload_n (i := 3) (j := 0) (dk_Step_scan 23 rfl) rfl rfl ?_
        obtain ⟨c16, h⟩ := p_gdE h
        obtain ⟨r21, s17, q18, h⟩ := p_bdE h
        have t19 := tF_Reading_read K l (p_R s14 v0 0) r7 s14 _ q18
        refine g_callV (a := (p_R s14 v0 0)) (ci := 5) (q0 := (RX5, TX5, 5)) (As := [p_r r7]) (rest := []) [p_i r21] mt_Reading_read rfl rfl tw_4_231 tw_4_232 tw_4_230 ⟨Nat.le_of_ble_eq_true rfl, Nat.le_of_ble_eq_true rfl⟩ rfl (Nat.le_of_ble_eq_true rfl) (dk_Step_scan 24 rfl) rfl c16 rfl t19 ?_
        have hs20 : p_x s14 s17 := t19.1
        show p_Go K l m_Step_scan 48 [(3, p_r r7), (0, p_r v0), (1, p_i v1), (2, p_r v2)] [p_i r21] s17 _
        refine g_istore [(4, p_i r21), (3, p_r r7), (0, p_r v0), (1, p_i v1), (2, p_r v2)] (dk_Step_scan 25 rfl) (by decide) rfl ?_
        refine g_iload (j := 0) (dk_Step_scan 26 rfl) rfl ?_
        refine g_if_eq 69 (dk_Step_scan 27 rfl) (by decide) (fun b22 => ?_) (fun b22 => ?_)
        · have h := p_ifT b22 h
          refine g_aload_n (i := 0) (j := 2) (dk_Step_scan 37 rfl) rfl rfl ?_
          refine g_getR fl_Step_12 (Or.inl ⟨_, rfl⟩) (dk_Step_scan 38 rfl) (c1.up (hs6.trans (hs13.trans (hs15.trans hs20)))) ?_
          obtain ⟨c23, h⟩ := p_gdE h
          refine g_getI fl_Step_266 (Or.inr rfl) (dk_Step_scan 39 rfl) c23 ?_
          refine g_if_ne 110 (dk_Step_scan 40 rfl) (by decide) (fun b24 => ?_) (fun b24 => ?_)
          · have h := p_ifT b24 h
            refine g_iconst (dk_Step_scan 56 rfl) (by decide) ?_
            cases h
            exact g_ret rfl rfl (dk_Step_scan 57 rfl) (fun _ => ⟨_, rfl, Or.inr rfl⟩)
          · have h := p_ifF b24 h
            refine g_aload_n (i := 2) (j := 4) (dk_Step_scan 41 rfl) rfl rfl ?_
            obtain ⟨c25, h⟩ := p_gdE h
            refine g_getI fl_Step_97 (Or.inl rfl) (dk_Step_scan 42 rfl) c25 ?_
            refine g_iconst (dk_Step_scan 43 rfl) (by decide) ?_
            refine g_icmp_ne 101 (dk_Step_scan 44 rfl) (by decide) (fun b26 => ?_) (fun b26 => ?_)
            · have h := p_ifT b26 h
              refine g_sub [(0, p_r v0), (1, p_i v1), (3, p_r r7)] [2, 3, 1] rfl ?_
              exact tB_Step_scan_101 K l v0 v1 r7 s17 _ h
            · have h := p_ifF b26 h
              refine g_aload_n (i := 0) (j := 2) (dk_Step_scan 45 rfl) rfl rfl ?_
              refine g_getR fl_Step_12 (Or.inl ⟨_, rfl⟩) (dk_Step_scan 46 rfl) (c1.up (hs6.trans (hs13.trans (hs15.trans hs20)))) ?_
              refine g_getI fl_Step_269 (Or.inl rfl) (dk_Step_scan 47 rfl) c23 ?_
              refine g_aload_n (i := 3) (j := 1) (dk_Step_scan 48 rfl) rfl rfl ?_
              refine g_getI fl_Step_272 (Or.inl rfl) (dk_Step_scan 49 rfl) (c9.up (hs13.trans (hs15.trans hs20))) ?_
              refine g_icmp_ne 110 (dk_Step_scan 50 rfl) (by decide) (fun b27 => ?_) (fun b27 => ?_)
              · have h := p_ifT b27 h
                refine g_iconst (dk_Step_scan 56 rfl) (by decide) ?_
                cases h
                exact g_ret rfl rfl (dk_Step_scan 57 rfl) (fun _ => ⟨_, rfl, Or.inr rfl⟩)
              · have h := p_ifF b27 h
                refine g_sub [(0, p_r v0), (1, p_i v1), (3, p_r r7)] [2, 3, 1] rfl ?_
                exact tB_Step_scan_101 K l v0 v1 r7 s17 _ h
        · have h := p_ifF b22 h
          refine g_aload_n (i := 0) (j := 2) (dk_Step_scan 28 rfl) rfl rfl ?_
          refine g_iload_n (i := 1) (j := 3) (dk_Step_scan 29 rfl) rfl rfl ?_
          refine g_iconst (dk_Step_scan 30 rfl) (by decide) ?_
          refine g_iload (j := 0) (dk_Step_scan 31 rfl) rfl ?_
          refine g_aload_n (i := 3) (j := 1) (dk_Step_scan 32 rfl) rfl rfl ?_
          refine g_getI fl_Step_263 (Or.inl rfl) (dk_Step_scan 33 rfl) (c9.up (hs13.trans (hs15.trans hs20))) ?_
          obtain ⟨s28, q29, h⟩ := p_bvE h
          have t30 := tF_Step_addFinding K l v0 v1 2 r21 (p_Z s17 r7 1) s17 _ q29
          refine g_callV (a := v0) (ci := 8) (q0 := (RX8, TX8, 5)) (As := [p_i v1, p_i 2, p_i r21, p_i (p_Z s17 r7 1)]) (rest := []) [] mt_Step_addFinding rfl rfl tw_4_176 ts_16 tw_4_174 ⟨Nat.le_of_ble_eq_true rfl, Nat.le_of_ble_eq_true rfl⟩ rfl (Nat.le_of_ble_eq_true rfl) (dk_Step_scan 34 rfl) rfl (c1.up (hs6.trans (hs13.trans (hs15.trans hs20)))) rfl t30 ?_
          have hs31 : p_x s17 s28 := t30.1
          show p_Go K l m_Step_scan 67 [(4, p_i r21), (3, p_r r7), (0, p_r v0), (1, p_i v1), (2, p_r v2)] [] s28 _
          refine g_iconst (dk_Step_scan 35 rfl) (by decide) ?_
          cases h
          exact g_ret rfl rfl (dk_Step_scan 36 rfl) (fun _ => ⟨_, rfl, Or.inl rfl⟩)
      · have h := p_ifF b11 h
        refine g_iconst (dk_Step_scan 13 rfl) (by decide) ?_
        cases h
        exact g_ret rfl rfl (dk_Step_scan 14 rfl) (fun _ => ⟨_, rfl, Or.inr rfl⟩)
def m_Step_setDial : p_Me := (⟨"SortWorks$Step", "setDial", "(ILSortWorks$Gear;)V"⟩, prog_10_method_16_code, 7, none, 2, 50)
theorem mt_Step_setDial : p_Mt m_Step_setDial 2 := ⟨p_mem (p_tb5 (List.mem_of_getElem? (i := 70) rfl)) rfl, tw_1_9, by decide +kernel, by decide +kernel, by decide +kernel⟩
def dt_Step_setDial : List (Nat × Instr × Nat) := [(0, .iconst 0, 1), (1, .istore_n 3, 1), (2, .aload_n 2, 1), (3, .getfield 247, 3), (6, .ifnonnull 7, 3), (9, .iconst 1, 1), (10, .goto 8, 3), (13, .aload_n 2, 1), (14, .getfield 247, 3), (17, .arraylength, 1), (18, .istore 4, 2), (20, .iconst 0, 1), (21, .istore 5, 2), (23, .iload 5, 2), (25, .iload 4, 2), (27, .if_icmp .ge 53, 3), (30, .aload_n 0, 1), (31, .getfield 18, 3), (34, .aload_n 2, 1), (35, .iload 5, 2), (37, .invokevirtual 170, 3), (40, .istore 6, 2), (42, .iload 6, 2), (44, .ifCond .ge 14, 3), (47, .aload_n 0, 1), (48, .iload_n 1, 1), (49, .iconst 4, 1), (50, .iload 6, 2), (52, .iload 5, 2), (54, .invokevirtual 125, 3), (57, .return_, 1), (58, .iload_n 3, 1), (59, .aload_n 0, 1), (60, .getfield 28, 3), (63, .getfield 82, 3), (66, .iload 6, 2), (68, .aaload, 1), (69, .invokevirtual 148, 3), (72, .iadd, 1), (73, .istore_n 3, 1), (74, .iinc 5 1, 3), (77, .goto (-54), 3), (80, .aload_n 2, 1), (81, .iload_n 3, 1), (82, .putfield 250, 3), (85, .return_, 1)]
theorem dk_Step_setDial (i : Nat) {pc : Nat} {ins : Instr} {len : Nat} (h : dt_Step_setDial[i]? = some (pc, ins, len)) : decode m_Step_setDial.2.1 pc = .ok (ins, len) := p_dk (b := m_Step_setDial.2.1) (t := dt_Step_setDial) (by decide +kernel) i h
def L_Step_setDial_23 (k23 : Nat → Int → Nat → Int → Int → Int → p_Hp → Option p_Hp) (v0 : Nat) (v1 : Int) (v2 : Nat) (v3 : Int) (v4 : Int) (v5 : Int) (s0 : p_Hp) : Option p_Hp :=
  if v4 ≤ v5 then
    p_gd (p_is s0 v2 0) <|
    p_bi (p_wZ s0 v2 16 v3) fun s3 =>
    some s3
  else
    p_gd (p_is s0 v0 8) <|
    p_gd (p_is s0 (p_R s0 v0 2) 9) <|
    p_bd (F_Works_follow (p_R s0 v0 2) v2 v5 s0) fun r11 s7 =>
    if 0 ≤ r11 then
      p_gd (p_is s7 (p_R s7 v0 3) 7) <|
      p_gd (p_is s7 (p_R s7 (p_R s7 v0 3) 4) 106) <|
      p_gd (0 ≤ r11 ∧ r11 < (p_L s7 (p_R s7 (p_R s7 v0 3) 4) : Int)) <|
      p_gd (p_is s7 (p_R s7 (p_R s7 (p_R s7 v0 3) 4) (r11).toNat) 0) <|
      p_bd (F_Gear_parcels (p_R s7 (p_R s7 (p_R s7 v0 3) 4) (r11).toNat) s7) fun r21 s17 =>
      p_bi ((p_w (v3 + r21))) fun x22 =>
      p_bi (p_w (v5 + 1)) fun x23 =>
      k23 v0 v1 v2 x22 v4 x23 s17
    else
      p_bv (F_Step_addFinding v0 v1 4 r11 v5 s7) fun s24 =>
      some s24
def O_Step_setDial_23  : Nat → Nat → Int → Nat → Int → Int → Int → p_Hp → Option p_Hp
  | 0 => fun _ _ _ _ _ _ _ => none
  | n + 1 => L_Step_setDial_23 (O_Step_setDial_23 n)
def B_Step_setDial_18  (v0 : Nat) (v1 : Int) (v2 : Nat) (v3 : Int) (w0 : Int) (s0 : p_Hp) : Option p_Hp :=
  O_Step_setDial_23 3000 v0 v1 v2 v3 w0 0 s0
def F_Step_setDial (v0 : Nat) (v1 : Int) (v2 : Nat) (s0 : p_Hp) : Option p_Hp :=
  p_gd (p_is s0 v2 0) <|
  if (p_R s0 v2 3) ≠ 0 then
    p_gd (p_is s0 (p_R s0 v2 3) 100) <|
    B_Step_setDial_18 v0 v1 v2 0 (p_L s0 (p_R s0 v2 3) : Int) s0
  else
    B_Step_setDial_18 v0 v1 v2 0 1 s0
set_option maxRecDepth 100000 in
set_option maxHeartbeats 4000000 in
theorem tL_Step_setDial_23 (K : p_K) (l : Launch) (k23 : Nat → Int → Nat → Int → Int → Int → p_Hp → Option p_Hp) (hk23 : ∀ (v0 : Nat) (v1 : Int) (v2 : Nat) (v3 : Int) (v4 : Int) (v5 : Int)  (s0 : p_Hp) (r : p_Hp), k23 v0 v1 v2 v3 v4 v5 s0 = some r → p_Go K l m_Step_setDial 23 [(0, p_r v0), (1, p_i v1), (2, p_r v2), (3, p_i v3), (4, p_i v4), (5, p_i v5)] [] s0 (none, r)) (v0 : Nat) (v1 : Int) (v2 : Nat) (v3 : Int) (v4 : Int) (v5 : Int) (s0 : p_Hp) (r : p_Hp) (h : L_Step_setDial_23 k23 v0 v1 v2 v3 v4 v5 s0 = some r) : p_Go K l m_Step_setDial 23 [(0, p_r v0), (1, p_i v1), (2, p_r v2), (3, p_i v3), (4, p_i v4), (5, p_i v5)] [] s0 (none, r) := by
  unfold L_Step_setDial_23 at h
  refine g_iload (j := 5) (dk_Step_setDial 13 rfl) rfl ?_
  refine g_iload (j := 4) (dk_Step_setDial 14 rfl) rfl ?_
  refine g_icmp_ge 80 (dk_Step_setDial 15 rfl) (by decide) (fun b1 => ?_) (fun b1 => ?_)
  · have h := p_ifT b1 h
    refine g_aload_n (i := 2) (j := 2) (dk_Step_setDial 42 rfl) rfl rfl ?_
    refine g_iload_n (i := 3) (j := 3) (dk_Step_setDial 43 rfl) rfl rfl ?_
    obtain ⟨c2, h⟩ := p_gdE h
    refine g_putI fl_Step_250 (Or.inl rfl) (dk_Step_setDial 44 rfl) c2 ?_
    refine p_ltS (P := fun q => p_Go K l m_Step_setDial 85 [(0, p_r v0), (1, p_i v1), (2, p_r v2), (3, p_i v3), (4, p_i v4), (5, p_i v5)] [] q _) (p_xZ _ _ _ _) ?_ h
    intro s3 hs4 h
    cases h
    exact g_ret rfl rfl (dk_Step_setDial 45 rfl) (fun _ => rfl)
  · have h := p_ifF b1 h
    refine g_aload_n (i := 0) (j := 0) (dk_Step_setDial 16 rfl) rfl rfl ?_
    obtain ⟨c5, h⟩ := p_gdE h
    refine g_getR fl_Step_18 (Or.inl ⟨_, rfl⟩) (dk_Step_setDial 17 rfl) c5 ?_
    refine g_aload_n (i := 2) (j := 2) (dk_Step_setDial 18 rfl) rfl rfl ?_
    refine g_iload (j := 5) (dk_Step_setDial 19 rfl) rfl ?_
    obtain ⟨c6, h⟩ := p_gdE h
    obtain ⟨r11, s7, q8, h⟩ := p_bdE h
    have t9 := tF_Works_follow K l (p_R s0 v0 2) v2 v5 s0 _ q8
    refine g_callV (a := (p_R s0 v0 2)) (ci := 9) (q0 := (RX9, TX9, 16)) (As := [p_r v2, p_i v5]) (rest := []) [p_i r11] mt_Works_follow rfl rfl tw_4_208 tw_4_209 tw_4_207 ⟨Nat.le_of_ble_eq_true rfl, Nat.le_of_ble_eq_true rfl⟩ rfl (Nat.le_of_ble_eq_true rfl) (dk_Step_setDial 20 rfl) rfl c6 rfl t9 ?_
    have hs10 : p_x s0 s7 := t9.1
    show p_Go K l m_Step_setDial 40 [(0, p_r v0), (1, p_i v1), (2, p_r v2), (3, p_i v3), (4, p_i v4), (5, p_i v5)] [p_i r11] s7 _
    refine g_istore [(6, p_i r11), (0, p_r v0), (1, p_i v1), (2, p_r v2), (3, p_i v3), (4, p_i v4), (5, p_i v5)] (dk_Step_setDial 21 rfl) (by decide) rfl ?_
    refine g_iload (j := 0) (dk_Step_setDial 22 rfl) rfl ?_
    refine g_if_ge 58 (dk_Step_setDial 23 rfl) (by decide) (fun b12 => ?_) (fun b12 => ?_)
    · have h := p_ifT b12 h
      refine g_iload_n (i := 3) (j := 4) (dk_Step_setDial 31 rfl) rfl rfl ?_
      refine g_aload_n (i := 0) (j := 1) (dk_Step_setDial 32 rfl) rfl rfl ?_
      refine g_getR fl_Step_28 (Or.inl ⟨_, rfl⟩) (dk_Step_setDial 33 rfl) (c5.up hs10) ?_
      obtain ⟨c13, h⟩ := p_gdE h
      refine g_getR fl_Step_82 (Or.inr ⟨_, rfl⟩) (dk_Step_setDial 34 rfl) c13 ?_
      refine g_iload (j := 0) (dk_Step_setDial 35 rfl) rfl ?_
      obtain ⟨c14, h⟩ := p_gdE h
      obtain ⟨c15, h⟩ := p_gdE h
      refine g_aaload (i := 6) rfl (Or.inl ⟨_, rfl⟩) (dk_Step_setDial 36 rfl) c14 c15.1 c15.2 ?_
      obtain ⟨c16, h⟩ := p_gdE h
      obtain ⟨r21, s17, q18, h⟩ := p_bdE h
      have t19 := tF_Gear_parcels K l (p_R s7 (p_R s7 (p_R s7 v0 3) 4) (r11).toNat) s7 _ q18
      refine g_callV (a := (p_R s7 (p_R s7 (p_R s7 v0 3) 4) (r11).toNat)) (ci := 0) (q0 := (RX0, TX0, 19)) (As := []) (rest := [p_i v3]) [p_i r21, p_i v3] mt_Gear_parcels rfl rfl tw_3_134 tw_3_135 tw_4_172 ⟨Nat.le_of_ble_eq_true rfl, Nat.le_of_ble_eq_true rfl⟩ rfl (Nat.le_of_ble_eq_true rfl) (dk_Step_setDial 37 rfl) rfl c16 rfl t19 ?_
      have hs20 : p_x s7 s17 := t19.1
      show p_Go K l m_Step_setDial 72 [(6, p_i r11), (0, p_r v0), (1, p_i v1), (2, p_r v2), (3, p_i v3), (4, p_i v4), (5, p_i v5)] [p_i r21, p_i v3] s17 _
      refine g_iadd (dk_Step_setDial 38 rfl) ?_
      refine g_istore_n (i := 3) [(3, p_i (p_w (v3 + r21))), (6, p_i r11), (0, p_r v0), (1, p_i v1), (2, p_r v2), (4, p_i v4), (5, p_i v5)] (dk_Step_setDial 39 rfl) rfl (by decide) rfl ?_
      refine p_ltG (P := fun q => p_Go K l m_Step_setDial 74 [(3, p_i q), (6, p_i r11), (0, p_r v0), (1, p_i v1), (2, p_r v2), (4, p_i v4), (5, p_i v5)] [] s17 _) ?_ h
      intro x22 h
      refine g_iinc (j := 6) [(5, p_i (p_w (v5 + 1))), (3, p_i x22), (6, p_i r11), (0, p_r v0), (1, p_i v1), (2, p_r v2), (4, p_i v4)] (dk_Step_setDial 40 rfl) rfl (by decide) rfl ?_
      refine p_ltG (P := fun q => p_Go K l m_Step_setDial 77 [(5, p_i q), (3, p_i x22), (6, p_i r11), (0, p_r v0), (1, p_i v1), (2, p_r v2), (4, p_i v4)] [] s17 _) ?_ h
      intro x23 h
      refine g_goto 23 (dk_Step_setDial 41 rfl) (by decide) ?_
      refine g_sub [(0, p_r v0), (1, p_i v1), (2, p_r v2), (3, p_i x22), (4, p_i v4), (5, p_i x23)] [3, 4, 5, 1, 6, 0] rfl ?_
      exact hk23 v0 v1 v2 x22 v4 x23 s17 _ h
    · have h := p_ifF b12 h
      refine g_aload_n (i := 0) (j := 1) (dk_Step_setDial 24 rfl) rfl rfl ?_
      refine g_iload_n (i := 1) (j := 2) (dk_Step_setDial 25 rfl) rfl rfl ?_
      refine g_iconst (dk_Step_setDial 26 rfl) (by decide) ?_
      refine g_iload (j := 0) (dk_Step_setDial 27 rfl) rfl ?_
      refine g_iload (j := 6) (dk_Step_setDial 28 rfl) rfl ?_
      obtain ⟨s24, q25, h⟩ := p_bvE h
      have t26 := tF_Step_addFinding K l v0 v1 4 r11 v5 s7 _ q25
      refine g_callV (a := v0) (ci := 8) (q0 := (RX8, TX8, 5)) (As := [p_i v1, p_i 4, p_i r11, p_i v5]) (rest := []) [] mt_Step_addFinding rfl rfl tw_4_176 ts_16 tw_4_174 ⟨Nat.le_of_ble_eq_true rfl, Nat.le_of_ble_eq_true rfl⟩ rfl (Nat.le_of_ble_eq_true rfl) (dk_Step_setDial 29 rfl) rfl (c5.up hs10) rfl t26 ?_
      have hs27 : p_x s7 s24 := t26.1
      show p_Go K l m_Step_setDial 57 [(6, p_i r11), (0, p_r v0), (1, p_i v1), (2, p_r v2), (3, p_i v3), (4, p_i v4), (5, p_i v5)] [] s24 _
      cases h
      exact g_ret rfl rfl (dk_Step_setDial 30 rfl) (fun _ => rfl)
set_option maxRecDepth 100000 in
set_option maxHeartbeats 4000000 in
theorem tO_Step_setDial_23 (K : p_K) (l : Launch)  : ∀ (n : Nat) (v0 : Nat) (v1 : Int) (v2 : Nat) (v3 : Int) (v4 : Int) (v5 : Int) (s0 : p_Hp) (r : p_Hp), O_Step_setDial_23 n v0 v1 v2 v3 v4 v5 s0 = some r → p_Go K l m_Step_setDial 23 [(0, p_r v0), (1, p_i v1), (2, p_r v2), (3, p_i v3), (4, p_i v4), (5, p_i v5)] [] s0 (none, r) := by
  intro n
  induction n with
  | zero => intro v0 v1 v2 v3 v4 v5 s0 r h; cases (show (none : Option p_Hp) = some r from h)
  | succ n ih => intro v0 v1 v2 v3 v4 v5 s0 r h; exact tL_Step_setDial_23 K l _ ih v0 v1 v2 v3 v4 v5 s0 r h
set_option maxRecDepth 100000 in
set_option maxHeartbeats 4000000 in
theorem tB_Step_setDial_18 (K : p_K) (l : Launch)  (v0 : Nat) (v1 : Int) (v2 : Nat) (v3 : Int) (w0 : Int) (s0 : p_Hp) (r : p_Hp) (h : B_Step_setDial_18 v0 v1 v2 v3 w0 s0 = some r) : p_Go K l m_Step_setDial 18 [(0, p_r v0), (1, p_i v1), (2, p_r v2), (3, p_i v3)] [p_i w0] s0 (none, r) := by
  unfold B_Step_setDial_18 at h
  refine g_istore [(4, p_i w0), (0, p_r v0), (1, p_i v1), (2, p_r v2), (3, p_i v3)] (dk_Step_setDial 10 rfl) (by decide) rfl ?_
  refine g_iconst (dk_Step_setDial 11 rfl) (by decide) ?_
  refine g_istore [(5, p_i 0), (4, p_i w0), (0, p_r v0), (1, p_i v1), (2, p_r v2), (3, p_i v3)] (dk_Step_setDial 12 rfl) (by decide) rfl ?_
  refine g_sub [(0, p_r v0), (1, p_i v1), (2, p_r v2), (3, p_i v3), (4, p_i w0), (5, p_i 0)] [2, 3, 4, 5, 1, 0] rfl ?_
  exact tO_Step_setDial_23 K l 3000 v0 v1 v2 v3 w0 0 s0 _ h
set_option maxRecDepth 100000 in
set_option maxHeartbeats 4000000 in
theorem tF_Step_setDial (K : p_K) (l : Launch) (v0 : Nat) (v1 : Int) (v2 : Nat) (s0 : p_Hp) (r : p_Hp) (h : F_Step_setDial v0 v1 v2 s0 = some r) : p_Ct K l m_Step_setDial [p_r v0, p_i v1, p_r v2] s0 (none, r) := by
  refine p_Ct.of (by decide) (Nat.le_of_ble_eq_true rfl) ?_
  unfold F_Step_setDial at h
  show p_Go K l m_Step_setDial 0 [(0, p_r v0), (1, p_i v1), (2, p_r v2)] [] s0 _
  refine g_iconst (dk_Step_setDial 0 rfl) (by decide) ?_
  refine g_istore_n (i := 3) [(3, p_i 0), (0, p_r v0), (1, p_i v1), (2, p_r v2)] (dk_Step_setDial 1 rfl) rfl (by decide) rfl ?_
  refine g_aload_n (i := 2) (j := 3) (dk_Step_setDial 2 rfl) rfl rfl ?_
  obtain ⟨c1, h⟩ := p_gdE h
  refine g_getR fl_Step_247 (Or.inr ⟨_, rfl⟩) (dk_Step_setDial 3 rfl) c1 ?_
  refine g_ifnonnull 13 (dk_Step_setDial 4 rfl) (by decide) (fun b2 => ?_) (fun b2 => ?_)
  · have h := p_ifT b2 h
    refine g_aload_n (i := 2) (j := 3) (dk_Step_setDial 7 rfl) rfl rfl ?_
    refine g_getR fl_Step_247 (Or.inr ⟨_, rfl⟩) (dk_Step_setDial 8 rfl) c1 ?_
    obtain ⟨c3, h⟩ := p_gdE h
    refine g_alen (i := 0) rfl (dk_Step_setDial 9 rfl) c3 ?_
    refine g_sub [(0, p_r v0), (1, p_i v1), (2, p_r v2), (3, p_i 0)] [1, 2, 3, 0] rfl ?_
    exact tB_Step_setDial_18 K l v0 v1 v2 0 (p_L s0 (p_R s0 v2 3) : Int) s0 _ h
  · have h := p_ifF b2 h
    refine g_iconst (dk_Step_setDial 5 rfl) (by decide) ?_
    refine g_goto 18 (dk_Step_setDial 6 rfl) (by decide) ?_
    refine g_sub [(0, p_r v0), (1, p_i v1), (2, p_r v2), (3, p_i 0)] [1, 2, 3, 0] rfl ?_
    exact tB_Step_setDial_18 K l v0 v1 v2 0 1 s0 _ h
def m_Step_act : p_Me := (⟨"SortWorks$Step", "act", "(I)V"⟩, prog_10_method_13_code, 4, none, 5, 123)
theorem mt_Step_act : p_Mt m_Step_act 1 := ⟨p_mem (p_tb4 (List.mem_of_getElem? (i := 218) rfl)) rfl, tw_1_9, by decide +kernel, by decide +kernel, by decide +kernel⟩
def dt_Step_act : List (Nat × Instr × Nat) := [(0, .aload_n 0, 1), (1, .getfield 28, 3), (4, .getfield 82, 3), (7, .iload_n 1, 1), (8, .aaload, 1), (9, .astore_n 2, 1), (10, .aload_n 0, 1), (11, .iconst 0, 1), (12, .putfield 106, 3), (15, .iconst 3, 1), (16, .aload_n 2, 1), (17, .getfield 97, 3), (20, .imul, 1), (21, .istore_n 3, 1), (22, .iload_n 3, 1), (23, .iconst 3, 1), (24, .aload_n 2, 1), (25, .getfield 97, 3), (28, .iconst 1, 1), (29, .iadd, 1), (30, .imul, 1), (31, .if_icmp .ge 26, 3), (34, .getstatic 194, 3), (37, .iload_n 3, 1), (38, .iaload, 1), (39, .ifCond .eq 12, 3), (42, .aload_n 0, 1), (43, .getstatic 194, 3), (46, .iload_n 3, 1), (47, .iaload, 1), (48, .invokevirtual 197, 3), (51, .iinc 3 1, 3), (54, .goto (-32), 3), (57, .aload_n 2, 1), (58, .invokevirtual 178, 3), (61, .ifCond .eq 40, 3), (64, .aload_n 2, 1), (65, .invokevirtual 200, 3), (68, .ifCond .eq 12, 3), (71, .aload_n 0, 1), (72, .iload_n 1, 1), (73, .aload_n 2, 1), (74, .invokevirtual 203, 3), (77, .ifCond .eq 7, 3), (80, .iconst 1, 1), (81, .goto 4, 3), (84, .iconst 0, 1), (85, .istore_n 3, 1), (86, .aload_n 0, 1), (87, .iload_n 1, 1), (88, .aload_n 2, 1), (89, .iload_n 3, 1), (90, .invokevirtual 206, 3), (93, .aload_n 0, 1), (94, .aload_n 2, 1), (95, .invokevirtual 210, 3), (98, .goto 18, 3), (101, .aload_n 2, 1), (102, .getfield 97, 3), (105, .bipush 10, 2), (107, .if_icmp .ne 9, 3), (110, .aload_n 0, 1), (111, .iload_n 1, 1), (112, .aload_n 2, 1), (113, .invokevirtual 214, 3), (116, .aload_n 2, 1), (117, .dup, 1), (118, .getfield 218, 3), (121, .iconst 1, 1), (122, .iadd, 1), (123, .putfield 218, 3), (126, .aload_n 2, 1), (127, .aload_n 0, 1), (128, .aload_n 2, 1), (129, .invokevirtual 221, 3), (132, .putfield 225, 3), (135, .return_, 1)]
theorem dk_Step_act (i : Nat) {pc : Nat} {ins : Instr} {len : Nat} (h : dt_Step_act[i]? = some (pc, ins, len)) : decode m_Step_act.2.1 pc = .ok (ins, len) := p_dk (b := m_Step_act.2.1) (t := dt_Step_act) (by decide +kernel) i h
def B_Step_act_51 (k22 : Nat → Int → Nat → Int → p_Hp → Option p_Hp) (v0 : Nat) (v1 : Int) (v2 : Nat) (v3 : Int) (s0 : p_Hp) : Option p_Hp :=
  p_bi (p_w (v3 + 1)) fun x1 =>
  k22 v0 v1 v2 x1 s0
def B_Step_act_116  (v0 : Nat) (v2 : Nat) (s0 : p_Hp) : Option p_Hp :=
  p_gd (p_is s0 v2 0) <|
  p_bi (p_wZ s0 v2 13 (p_w ((p_Z s0 v2 13) + 1))) fun s2 =>
  p_gd (p_is s2 v0 8) <|
  p_bd (F_Step_lampOf v0 v2 s2) fun r9 s5 =>
  p_bi (p_wZ s5 v2 9 r9) fun s10 =>
  some s10
def B_Step_act_85  (v0 : Nat) (v1 : Int) (v2 : Nat) (w0 : Int) (s0 : p_Hp) : Option p_Hp :=
  p_gd (p_is s0 v0 8) <|
  p_bv (F_Step_passOn v0 v1 v2 w0 s0) fun s2 =>
  p_bv (F_Step_moveUp v0 v2 s2) fun s6 =>
  B_Step_act_116 v0 v2 s6
def B_Step_act_80  (v0 : Nat) (v1 : Int) (v2 : Nat) (s0 : p_Hp) : Option p_Hp :=
  B_Step_act_85 v0 v1 v2 1 s0
def L_Step_act_22 (k22 : Nat → Int → Nat → Int → p_Hp → Option p_Hp) (v0 : Nat) (v1 : Int) (v2 : Nat) (v3 : Int) (s0 : p_Hp) : Option p_Hp :=
  p_gd (p_is s0 v2 0) <|
  if (p_w (3 * (p_w ((p_Z s0 v2 0) + 1)))) ≤ v3 then
    p_bd (F_Gear_isTaker v2 s0) fun r7 s3 =>
    if r7 = 0 then
      if (p_Z s3 v2 0) ≠ 10 then
        B_Step_act_116 v0 v2 s3
      else
        p_gd (p_is s3 v0 8) <|
        p_bv (F_Step_setDial v0 v1 v2 s3) fun s11 =>
        B_Step_act_116 v0 v2 s11
    else
      p_bd (F_Gear_isScanner v2 s3) fun r19 s15 =>
      if r19 = 0 then
        B_Step_act_80 v0 v1 v2 s15
      else
        p_gd (p_is s15 v0 8) <|
        p_bd (F_Step_scan v0 v1 v2 s15) fun r26 s22 =>
        if r26 = 0 then
          B_Step_act_85 v0 v1 v2 0 s22
        else
          B_Step_act_80 v0 v1 v2 s22
  else
    p_gd (0 ≤ v3 ∧ v3 < (sw_tl 3 : Int)) <|
    if (sw_tab 3 (v3).toNat) = 0 then
      B_Step_act_51 k22 v0 v1 v2 v3 s0
    else
      p_gd (0 ≤ v3 ∧ v3 < (sw_tl 3 : Int)) <|
      p_gd (p_is s0 v0 8) <|
      p_bv (F_Step_addTrace v0 (sw_tab 3 (v3).toNat) s0) fun s32 =>
      B_Step_act_51 k22 v0 v1 v2 v3 s32
def O_Step_act_22  : Nat → Nat → Int → Nat → Int → p_Hp → Option p_Hp
  | 0 => fun _ _ _ _ _ => none
  | n + 1 => L_Step_act_22 (O_Step_act_22 n)
def F_Step_act (v0 : Nat) (v1 : Int) (s0 : p_Hp) : Option p_Hp :=
  p_gd (p_is s0 v0 8) <|
  p_gd (p_is s0 (p_R s0 v0 3) 7) <|
  p_gd (p_is s0 (p_R s0 (p_R s0 v0 3) 4) 106) <|
  p_gd (0 ≤ v1 ∧ v1 < (p_L s0 (p_R s0 (p_R s0 v0 3) 4) : Int)) <|
  p_bi ((p_R s0 (p_R s0 (p_R s0 v0 3) 4) (v1).toNat)) fun x5 =>
  p_bi (p_wZ s0 v0 4 0) fun s6 =>
  p_gd (p_is s6 x5 0) <|
  p_bi ((p_w (3 * (p_Z s6 x5 0)))) fun x9 =>
  O_Step_act_22 3000 v0 v1 x5 x9 s6
set_option maxRecDepth 100000 in
set_option maxHeartbeats 4000000 in
theorem tB_Step_act_51 (K : p_K) (l : Launch) (k22 : Nat → Int → Nat → Int → p_Hp → Option p_Hp) (hk22 : ∀ (v0 : Nat) (v1 : Int) (v2 : Nat) (v3 : Int)  (s0 : p_Hp) (r : p_Hp), k22 v0 v1 v2 v3 s0 = some r → p_Go K l m_Step_act 22 [(0, p_r v0), (1, p_i v1), (2, p_r v2), (3, p_i v3)] [] s0 (none, r)) (v0 : Nat) (v1 : Int) (v2 : Nat) (v3 : Int) (s0 : p_Hp) (r : p_Hp) (h : B_Step_act_51 k22 v0 v1 v2 v3 s0 = some r) : p_Go K l m_Step_act 51 [(0, p_r v0), (1, p_i v1), (2, p_r v2), (3, p_i v3)] [] s0 (none, r) := by
  unfold B_Step_act_51 at h
  refine g_iinc (j := 3) [(3, p_i (p_w (v3 + 1))), (0, p_r v0), (1, p_i v1), (2, p_r v2)] (dk_Step_act 31 rfl) rfl (by decide) rfl ?_
  refine p_ltG (P := fun q => p_Go K l m_Step_act 54 [(3, p_i q), (0, p_r v0), (1, p_i v1), (2, p_r v2)] [] s0 _) ?_ h
  intro x1 h
  refine g_goto 22 (dk_Step_act 32 rfl) (by decide) ?_
  refine g_sub [(0, p_r v0), (1, p_i v1), (2, p_r v2), (3, p_i x1)] [1, 2, 3, 0] rfl ?_
  exact hk22 v0 v1 v2 x1 s0 _ h
set_option maxRecDepth 100000 in
set_option maxHeartbeats 4000000 in
theorem tB_Step_act_116 (K : p_K) (l : Launch)  (v0 : Nat) (v2 : Nat) (s0 : p_Hp) (r : p_Hp) (h : B_Step_act_116 v0 v2 s0 = some r) : p_Go K l m_Step_act 116 [(0, p_r v0), (2, p_r v2)] [] s0 (none, r) := by
  unfold B_Step_act_116 at h
  refine g_aload_n (i := 2) (j := 1) (dk_Step_act 65 rfl) rfl rfl ?_
  refine g_dup (dk_Step_act 66 rfl) rfl ?_
  obtain ⟨c1, h⟩ := p_gdE h
  refine g_getI fl_Step_218 (Or.inl rfl) (dk_Step_act 67 rfl) c1 ?_
  refine g_iconst (dk_Step_act 68 rfl) (by decide) ?_
  refine g_iadd (dk_Step_act 69 rfl) ?_
  refine g_putI fl_Step_218 (Or.inl rfl) (dk_Step_act 70 rfl) c1 ?_
  refine p_ltS (P := fun q => p_Go K l m_Step_act 126 [(0, p_r v0), (2, p_r v2)] [] q _) (p_xZ _ _ _ _) ?_ h
  intro s2 hs3 h
  refine g_aload_n (i := 2) (j := 1) (dk_Step_act 71 rfl) rfl rfl ?_
  refine g_aload_n (i := 0) (j := 0) (dk_Step_act 72 rfl) rfl rfl ?_
  refine g_aload_n (i := 2) (j := 1) (dk_Step_act 73 rfl) rfl rfl ?_
  obtain ⟨c4, h⟩ := p_gdE h
  obtain ⟨r9, s5, q6, h⟩ := p_bdE h
  have t7 := tF_Step_lampOf K l v0 v2 s2 _ q6
  refine g_callV (a := v0) (ci := 8) (q0 := (RX8, TX8, 5)) (As := [p_r v2]) (rest := [p_r v2]) [p_i r9, p_r v2] mt_Step_lampOf rfl rfl tw_5_73 ts_38 tw_5_71 ⟨Nat.le_of_ble_eq_true rfl, Nat.le_of_ble_eq_true rfl⟩ rfl (Nat.le_of_ble_eq_true rfl) (dk_Step_act 74 rfl) rfl c4 rfl t7 ?_
  have hs8 : p_x s2 s5 := t7.1
  show p_Go K l m_Step_act 132 [(0, p_r v0), (2, p_r v2)] [p_i r9, p_r v2] s5 _
  refine g_putI fl_Step_225 (Or.inl rfl) (dk_Step_act 75 rfl) (c1.up (hs3.trans hs8)) ?_
  refine p_ltS (P := fun q => p_Go K l m_Step_act 135 [(0, p_r v0), (2, p_r v2)] [] q _) (p_xZ _ _ _ _) ?_ h
  intro s10 hs11 h
  cases h
  exact g_ret rfl rfl (dk_Step_act 76 rfl) (fun _ => rfl)
set_option maxRecDepth 100000 in
set_option maxHeartbeats 4000000 in
theorem tB_Step_act_85 (K : p_K) (l : Launch)  (v0 : Nat) (v1 : Int) (v2 : Nat) (w0 : Int) (s0 : p_Hp) (r : p_Hp) (h : B_Step_act_85 v0 v1 v2 w0 s0 = some r) : p_Go K l m_Step_act 85 [(0, p_r v0), (1, p_i v1), (2, p_r v2)] [p_i w0] s0 (none, r) := by
  unfold B_Step_act_85 at h
  refine g_istore_n (i := 3) [(3, p_i w0), (0, p_r v0), (1, p_i v1), (2, p_r v2)] (dk_Step_act 47 rfl) rfl (by decide) rfl ?_
  refine g_aload_n (i := 0) (j := 1) (dk_Step_act 48 rfl) rfl rfl ?_
  refine g_iload_n (i := 1) (j := 2) (dk_Step_act 49 rfl) rfl rfl ?_
  refine g_aload_n (i := 2) (j := 3) (dk_Step_act 50 rfl) rfl rfl ?_
  refine g_iload_n (i := 3) (j := 0) (dk_Step_act 51 rfl) rfl rfl ?_
  obtain ⟨c1, h⟩ := p_gdE h
  obtain ⟨s2, q3, h⟩ := p_bvE h
  have t4 := tF_Step_passOn K l v0 v1 v2 w0 s0 _ q3
  refine g_callV (a := v0) (ci := 8) (q0 := (RX8, TX8, 5)) (As := [p_i v1, p_r v2, p_i w0]) (rest := []) [] mt_Step_passOn rfl rfl tw_5_24 ts_30 tw_5_22 ⟨Nat.le_of_ble_eq_true rfl, Nat.le_of_ble_eq_true rfl⟩ rfl (Nat.le_of_ble_eq_true rfl) (dk_Step_act 52 rfl) rfl c1 rfl t4 ?_
  have hs5 : p_x s0 s2 := t4.1
  show p_Go K l m_Step_act 93 [(3, p_i w0), (0, p_r v0), (1, p_i v1), (2, p_r v2)] [] s2 _
  refine g_aload_n (i := 0) (j := 1) (dk_Step_act 53 rfl) rfl rfl ?_
  refine g_aload_n (i := 2) (j := 3) (dk_Step_act 54 rfl) rfl rfl ?_
  obtain ⟨s6, q7, h⟩ := p_bvE h
  have t8 := tF_Step_moveUp K l v0 v2 s2 _ q7
  refine g_callV (a := v0) (ci := 8) (q0 := (RX8, TX8, 5)) (As := [p_r v2]) (rest := []) [] mt_Step_moveUp rfl rfl tw_5_64 ts_36 tw_5_62 ⟨Nat.le_of_ble_eq_true rfl, Nat.le_of_ble_eq_true rfl⟩ rfl (Nat.le_of_ble_eq_true rfl) (dk_Step_act 55 rfl) rfl (c1.up hs5) rfl t8 ?_
  have hs9 : p_x s2 s6 := t8.1
  show p_Go K l m_Step_act 98 [(3, p_i w0), (0, p_r v0), (1, p_i v1), (2, p_r v2)] [] s6 _
  refine g_goto 116 (dk_Step_act 56 rfl) (by decide) ?_
  refine g_sub [(0, p_r v0), (2, p_r v2)] [1, 3] rfl ?_
  exact tB_Step_act_116 K l v0 v2 s6 _ h
set_option maxRecDepth 100000 in
set_option maxHeartbeats 4000000 in
theorem tB_Step_act_80 (K : p_K) (l : Launch)  (v0 : Nat) (v1 : Int) (v2 : Nat) (s0 : p_Hp) (r : p_Hp) (h : B_Step_act_80 v0 v1 v2 s0 = some r) : p_Go K l m_Step_act 80 [(0, p_r v0), (1, p_i v1), (2, p_r v2)] [] s0 (none, r) := by
  unfold B_Step_act_80 at h
  refine g_iconst (dk_Step_act 44 rfl) (by decide) ?_
  refine g_goto 85 (dk_Step_act 45 rfl) (by decide) ?_
  exact tB_Step_act_85 K l v0 v1 v2 1 s0 _ h
set_option maxRecDepth 100000 in
set_option maxHeartbeats 4000000 in
theorem tL_Step_act_22 (K : p_K) (l : Launch) (k22 : Nat → Int → Nat → Int → p_Hp → Option p_Hp) (hk22 : ∀ (v0 : Nat) (v1 : Int) (v2 : Nat) (v3 : Int)  (s0 : p_Hp) (r : p_Hp), k22 v0 v1 v2 v3 s0 = some r → p_Go K l m_Step_act 22 [(0, p_r v0), (1, p_i v1), (2, p_r v2), (3, p_i v3)] [] s0 (none, r)) (v0 : Nat) (v1 : Int) (v2 : Nat) (v3 : Int) (s0 : p_Hp) (r : p_Hp) (h : L_Step_act_22 k22 v0 v1 v2 v3 s0 = some r) : p_Go K l m_Step_act 22 [(0, p_r v0), (1, p_i v1), (2, p_r v2), (3, p_i v3)] [] s0 (none, r) := by
  unfold L_Step_act_22 at h
  refine g_iload_n (i := 3) (j := 3) (dk_Step_act 14 rfl) rfl rfl ?_
  refine g_iconst (dk_Step_act 15 rfl) (by decide) ?_
  refine g_aload_n (i := 2) (j := 2) (dk_Step_act 16 rfl) rfl rfl ?_
  obtain ⟨c1, h⟩ := p_gdE h
  refine g_getI fl_Step_97 (Or.inl rfl) (dk_Step_act 17 rfl) c1 ?_
  refine g_iconst (dk_Step_act 18 rfl) (by decide) ?_
  refine g_iadd (dk_Step_act 19 rfl) ?_
  refine g_imul (dk_Step_act 20 rfl) ?_
  refine g_icmp_ge 57 (dk_Step_act 21 rfl) (by decide) (fun b2 => ?_) (fun b2 => ?_)
  · have h := p_ifT b2 h
    refine g_aload_n (i := 2) (j := 2) (dk_Step_act 33 rfl) rfl rfl ?_
    obtain ⟨r7, s3, q4, h⟩ := p_bdE h
    have t5 := tF_Gear_isTaker K l v2 s0 _ q4
    refine g_callV (a := v2) (ci := 0) (q0 := (RX0, TX0, 19)) (As := []) (rest := []) [p_i r7] mt_Gear_isTaker rfl rfl tw_3_125 tw_3_126 tw_4_190 ⟨Nat.le_of_ble_eq_true rfl, Nat.le_of_ble_eq_true rfl⟩ rfl (Nat.le_of_ble_eq_true rfl) (dk_Step_act 34 rfl) rfl c1 rfl t5 ?_
    have hs6 : p_x s0 s3 := t5.1
    show p_Go K l m_Step_act 61 [(0, p_r v0), (1, p_i v1), (2, p_r v2), (3, p_i v3)] [p_i r7] s3 _
    refine g_if_eq 101 (dk_Step_act 35 rfl) (by decide) (fun b8 => ?_) (fun b8 => ?_)
    · have h := p_ifT b8 h
      refine g_aload_n (i := 2) (j := 2) (dk_Step_act 57 rfl) rfl rfl ?_
      refine g_getI fl_Step_97 (Or.inl rfl) (dk_Step_act 58 rfl) (c1.up hs6) ?_
      refine g_bipush (dk_Step_act 59 rfl) rfl (by decide) ?_
      refine g_icmp_ne 116 (dk_Step_act 60 rfl) (by decide) (fun b9 => ?_) (fun b9 => ?_)
      · have h := p_ifT b9 h
        refine g_sub [(0, p_r v0), (2, p_r v2)] [0, 2] rfl ?_
        exact tB_Step_act_116 K l v0 v2 s3 _ h
      · have h := p_ifF b9 h
        refine g_aload_n (i := 0) (j := 0) (dk_Step_act 61 rfl) rfl rfl ?_
        refine g_iload_n (i := 1) (j := 1) (dk_Step_act 62 rfl) rfl rfl ?_
        refine g_aload_n (i := 2) (j := 2) (dk_Step_act 63 rfl) rfl rfl ?_
        obtain ⟨c10, h⟩ := p_gdE h
        obtain ⟨s11, q12, h⟩ := p_bvE h
        have t13 := tF_Step_setDial K l v0 v1 v2 s3 _ q12
        refine g_callV (a := v0) (ci := 8) (q0 := (RX8, TX8, 5)) (As := [p_i v1, p_r v2]) (rest := []) [] mt_Step_setDial rfl rfl tw_5_69 ts_37 tw_5_67 ⟨Nat.le_of_ble_eq_true rfl, Nat.le_of_ble_eq_true rfl⟩ rfl (Nat.le_of_ble_eq_true rfl) (dk_Step_act 64 rfl) rfl c10 rfl t13 ?_
        have hs14 : p_x s3 s11 := t13.1
        show p_Go K l m_Step_act 116 [(0, p_r v0), (1, p_i v1), (2, p_r v2), (3, p_i v3)] [] s11 _
        refine g_sub [(0, p_r v0), (2, p_r v2)] [0, 2] rfl ?_
        exact tB_Step_act_116 K l v0 v2 s11 _ h
    · have h := p_ifF b8 h
      refine g_aload_n (i := 2) (j := 2) (dk_Step_act 36 rfl) rfl rfl ?_
      obtain ⟨r19, s15, q16, h⟩ := p_bdE h
      have t17 := tF_Gear_isScanner K l v2 s3 _ q16
      refine g_callV (a := v2) (ci := 0) (q0 := (RX0, TX0, 19)) (As := []) (rest := []) [p_i r19] mt_Gear_isScanner rfl rfl tw_4_115 tw_4_116 tw_4_225 ⟨Nat.le_of_ble_eq_true rfl, Nat.le_of_ble_eq_true rfl⟩ rfl (Nat.le_of_ble_eq_true rfl) (dk_Step_act 37 rfl) rfl (c1.up hs6) rfl t17 ?_
      have hs18 : p_x s3 s15 := t17.1
      show p_Go K l m_Step_act 68 [(0, p_r v0), (1, p_i v1), (2, p_r v2), (3, p_i v3)] [p_i r19] s15 _
      refine g_if_eq 80 (dk_Step_act 38 rfl) (by decide) (fun b20 => ?_) (fun b20 => ?_)
      · have h := p_ifT b20 h
        refine g_sub [(0, p_r v0), (1, p_i v1), (2, p_r v2)] [0, 1, 2] rfl ?_
        exact tB_Step_act_80 K l v0 v1 v2 s15 _ h
      · have h := p_ifF b20 h
        refine g_aload_n (i := 0) (j := 0) (dk_Step_act 39 rfl) rfl rfl ?_
        refine g_iload_n (i := 1) (j := 1) (dk_Step_act 40 rfl) rfl rfl ?_
        refine g_aload_n (i := 2) (j := 2) (dk_Step_act 41 rfl) rfl rfl ?_
        obtain ⟨c21, h⟩ := p_gdE h
        obtain ⟨r26, s22, q23, h⟩ := p_bdE h
        have t24 := tF_Step_scan K l v0 v1 v2 s15 _ q23
        refine g_callV (a := v0) (ci := 8) (q0 := (RX8, TX8, 5)) (As := [p_i v1, p_r v2]) (rest := []) [p_i r26] mt_Step_scan rfl rfl tw_4_228 ts_23 tw_4_226 ⟨Nat.le_of_ble_eq_true rfl, Nat.le_of_ble_eq_true rfl⟩ rfl (Nat.le_of_ble_eq_true rfl) (dk_Step_act 42 rfl) rfl c21 rfl t24 ?_
        have hs25 : p_x s15 s22 := t24.1
        show p_Go K l m_Step_act 77 [(0, p_r v0), (1, p_i v1), (2, p_r v2), (3, p_i v3)] [p_i r26] s22 _
        refine g_if_eq 84 (dk_Step_act 43 rfl) (by decide) (fun b27 => ?_) (fun b27 => ?_)
        · have h := p_ifT b27 h
          refine g_iconst (dk_Step_act 46 rfl) (by decide) ?_
          refine g_sub [(0, p_r v0), (1, p_i v1), (2, p_r v2)] [0, 1, 2] rfl ?_
          exact tB_Step_act_85 K l v0 v1 v2 0 s22 _ h
        · have h := p_ifF b27 h
          refine g_sub [(0, p_r v0), (1, p_i v1), (2, p_r v2)] [0, 1, 2] rfl ?_
          exact tB_Step_act_80 K l v0 v1 v2 s22 _ h
  · have h := p_ifF b2 h
    refine g_getstatic (j := 3) rfl (by decide) (dk_Step_act 22 rfl) ?_
    refine g_iload_n (i := 3) (j := 3) (dk_Step_act 23 rfl) rfl rfl ?_
    obtain ⟨c28, h⟩ := p_gdE h
    refine g_tabS (by decide) (dk_Step_act 24 rfl) c28.1 c28.2 ?_
    refine g_if_eq 51 (dk_Step_act 25 rfl) (by decide) (fun b29 => ?_) (fun b29 => ?_)
    · have h := p_ifT b29 h
      exact tB_Step_act_51 K l k22 hk22 v0 v1 v2 v3 s0 _ h
    · have h := p_ifF b29 h
      refine g_aload_n (i := 0) (j := 0) (dk_Step_act 26 rfl) rfl rfl ?_
      refine g_getstatic (j := 3) rfl (by decide) (dk_Step_act 27 rfl) ?_
      refine g_iload_n (i := 3) (j := 3) (dk_Step_act 28 rfl) rfl rfl ?_
      obtain ⟨c30, h⟩ := p_gdE h
      refine g_tabS (by decide) (dk_Step_act 29 rfl) c30.1 c30.2 ?_
      obtain ⟨c31, h⟩ := p_gdE h
      obtain ⟨s32, q33, h⟩ := p_bvE h
      have t34 := tF_Step_addTrace K l v0 (sw_tab 3 (v3).toNat) s0 _ q33
      refine g_callV (a := v0) (ci := 8) (q0 := (RX8, TX8, 5)) (As := [p_i (sw_tab 3 (v3).toNat)]) (rest := []) [] mt_Step_addTrace rfl rfl tw_4_223 ts_22 tw_4_221 ⟨Nat.le_of_ble_eq_true rfl, Nat.le_of_ble_eq_true rfl⟩ rfl (Nat.le_of_ble_eq_true rfl) (dk_Step_act 30 rfl) rfl c31 rfl t34 ?_
      have hs35 : p_x s0 s32 := t34.1
      show p_Go K l m_Step_act 51 [(0, p_r v0), (1, p_i v1), (2, p_r v2), (3, p_i v3)] [] s32 _
      exact tB_Step_act_51 K l k22 hk22 v0 v1 v2 v3 s32 _ h
set_option maxRecDepth 100000 in
set_option maxHeartbeats 4000000 in
theorem tO_Step_act_22 (K : p_K) (l : Launch)  : ∀ (n : Nat) (v0 : Nat) (v1 : Int) (v2 : Nat) (v3 : Int) (s0 : p_Hp) (r : p_Hp), O_Step_act_22 n v0 v1 v2 v3 s0 = some r → p_Go K l m_Step_act 22 [(0, p_r v0), (1, p_i v1), (2, p_r v2), (3, p_i v3)] [] s0 (none, r) := by
  intro n
  induction n with
  | zero => intro v0 v1 v2 v3 s0 r h; cases (show (none : Option p_Hp) = some r from h)
  | succ n ih => intro v0 v1 v2 v3 s0 r h; exact tL_Step_act_22 K l _ ih v0 v1 v2 v3 s0 r h
set_option maxRecDepth 100000 in
set_option maxHeartbeats 4000000 in
theorem tF_Step_act (K : p_K) (l : Launch) (v0 : Nat) (v1 : Int) (s0 : p_Hp) (r : p_Hp) (h : F_Step_act v0 v1 s0 = some r) : p_Ct K l m_Step_act [p_r v0, p_i v1] s0 (none, r) := by
  refine p_Ct.of (by decide) (Nat.le_of_ble_eq_true rfl) ?_
  unfold F_Step_act at h
  show p_Go K l m_Step_act 0 [(0, p_r v0), (1, p_i v1)] [] s0 _
  refine g_aload_n (i := 0) (j := 0) (dk_Step_act 0 rfl) rfl rfl ?_
  obtain ⟨c1, h⟩ := p_gdE h
  refine g_getR fl_Step_28 (Or.inl ⟨_, rfl⟩) (dk_Step_act 1 rfl) c1 ?_
  obtain ⟨c2, h⟩ := p_gdE h
  refine g_getR fl_Step_82 (Or.inr ⟨_, rfl⟩) (dk_Step_act 2 rfl) c2 ?_
  refine g_iload_n (i := 1) (j := 1) (dk_Step_act 3 rfl) rfl rfl ?_
  obtain ⟨c3, h⟩ := p_gdE h
  obtain ⟨c4, h⟩ := p_gdE h
  refine g_aaload (i := 6) rfl (Or.inl ⟨_, rfl⟩) (dk_Step_act 4 rfl) c3 c4.1 c4.2 ?_
  refine g_astore_n (i := 2) [(2, p_r (p_R s0 (p_R s0 (p_R s0 v0 3) 4) (v1).toNat)), (0, p_r v0), (1, p_i v1)] (dk_Step_act 5 rfl) rfl (by decide) rfl ?_
  refine p_ltG (P := fun q => p_Go K l m_Step_act 10 [(2, p_r q), (0, p_r v0), (1, p_i v1)] [] s0 _) ?_ h
  intro x5 h
  refine g_aload_n (i := 0) (j := 1) (dk_Step_act 6 rfl) rfl rfl ?_
  refine g_iconst (dk_Step_act 7 rfl) (by decide) ?_
  refine g_putB fl_Step_106 (Or.inl rfl) (dk_Step_act 8 rfl) c1 (Or.inl rfl) ?_
  refine p_ltS (P := fun q => p_Go K l m_Step_act 15 [(2, p_r x5), (0, p_r v0), (1, p_i v1)] [] q _) (p_xZ _ _ _ _) ?_ h
  intro s6 hs7 h
  refine g_iconst (dk_Step_act 9 rfl) (by decide) ?_
  refine g_aload_n (i := 2) (j := 0) (dk_Step_act 10 rfl) rfl rfl ?_
  obtain ⟨c8, h⟩ := p_gdE h
  refine g_getI fl_Step_97 (Or.inl rfl) (dk_Step_act 11 rfl) c8 ?_
  refine g_imul (dk_Step_act 12 rfl) ?_
  refine g_istore_n (i := 3) [(3, p_i (p_w (3 * (p_Z s6 x5 0)))), (2, p_r x5), (0, p_r v0), (1, p_i v1)] (dk_Step_act 13 rfl) rfl (by decide) rfl ?_
  refine p_ltG (P := fun q => p_Go K l m_Step_act 22 [(3, p_i q), (2, p_r x5), (0, p_r v0), (1, p_i v1)] [] s6 _) ?_ h
  intro x9 h
  refine g_sub [(0, p_r v0), (1, p_i v1), (2, p_r x5), (3, p_i x9)] [2, 3, 1, 0] rfl ?_
  exact tO_Step_act_22 K l 3000 v0 v1 x5 x9 s6 _ h
def m_Step_isForPlan : p_Me := (⟨"SortWorks$Step", "isForPlan", "(LSortWorks$Gear;I)Z"⟩, prog_10_method_8_code, 2, (some .boolean), 1, 20)
theorem mt_Step_isForPlan : p_Mt m_Step_isForPlan 2 := ⟨p_mem (p_tb4 (List.mem_of_getElem? (i := 167) rfl)) rfl, tw_1_9, by decide +kernel, by decide +kernel, by decide +kernel⟩
def dt_Step_isForPlan : List (Nat × Instr × Nat) := [(0, .iload_n 1, 1), (1, .ifCond .ne 20, 3), (4, .aload_n 0, 1), (5, .getfield 97, 3), (8, .bipush 9, 2), (10, .if_icmp .ne 7, 3), (13, .iconst 1, 1), (14, .goto 33, 3), (17, .iconst 0, 1), (18, .goto 29, 3), (21, .iload_n 1, 1), (22, .iconst 1, 1), (23, .if_icmp .ne 10, 3), (26, .aload_n 0, 1), (27, .invokevirtual 141, 3), (30, .goto 17, 3), (33, .aload_n 0, 1), (34, .getfield 97, 3), (37, .bipush 8, 2), (39, .if_icmp .ne 7, 3), (42, .iconst 1, 1), (43, .goto 4, 3), (46, .iconst 0, 1), (47, .ireturn, 1)]
theorem dk_Step_isForPlan (i : Nat) {pc : Nat} {ins : Instr} {len : Nat} (h : dt_Step_isForPlan[i]? = some (pc, ins, len)) : decode m_Step_isForPlan.2.1 pc = .ok (ins, len) := p_dk (b := m_Step_isForPlan.2.1) (t := dt_Step_isForPlan) (by decide +kernel) i h
def F_Step_isForPlan (v0 : Nat) (v1 : Int) (s0 : p_Hp) : Option (Int × p_Hp) :=
  if v1 ≠ 0 then
    if v1 ≠ 1 then
      p_gd (p_is s0 v0 0) <|
      if (p_Z s0 v0 0) ≠ 8 then
        some (0, s0)
      else
        some (1, s0)
    else
      p_gd (p_is s0 v0 0) <|
      p_bd (F_Gear_isDivert v0 s0) fun r10 s6 =>
      p_gd (r10 = 0 ∨ r10 = 1) <|
      some (r10, s6)
  else
    p_gd (p_is s0 v0 0) <|
    if (p_Z s0 v0 0) ≠ 9 then
      some (0, s0)
    else
      some (1, s0)
set_option maxRecDepth 100000 in
set_option maxHeartbeats 4000000 in
theorem tF_Step_isForPlan (K : p_K) (l : Launch) (v0 : Nat) (v1 : Int) (s0 : p_Hp) (r : (Int × p_Hp)) (h : F_Step_isForPlan v0 v1 s0 = some r) : p_Ct K l m_Step_isForPlan [p_r v0, p_i v1] s0 (some (p_i r.1), r.2) := by
  refine p_Ct.of (by decide) (Nat.le_of_ble_eq_true rfl) ?_
  unfold F_Step_isForPlan at h
  show p_Go K l m_Step_isForPlan 0 [(0, p_r v0), (1, p_i v1)] [] s0 _
  refine g_iload_n (i := 1) (j := 1) (dk_Step_isForPlan 0 rfl) rfl rfl ?_
  refine g_if_ne 21 (dk_Step_isForPlan 1 rfl) (by decide) (fun b1 => ?_) (fun b1 => ?_)
  · have h := p_ifT b1 h
    refine g_iload_n (i := 1) (j := 1) (dk_Step_isForPlan 10 rfl) rfl rfl ?_
    refine g_iconst (dk_Step_isForPlan 11 rfl) (by decide) ?_
    refine g_icmp_ne 33 (dk_Step_isForPlan 12 rfl) (by decide) (fun b2 => ?_) (fun b2 => ?_)
    · have h := p_ifT b2 h
      refine g_aload_n (i := 0) (j := 0) (dk_Step_isForPlan 16 rfl) rfl rfl ?_
      obtain ⟨c3, h⟩ := p_gdE h
      refine g_getI fl_Step_97 (Or.inl rfl) (dk_Step_isForPlan 17 rfl) c3 ?_
      refine g_bipush (dk_Step_isForPlan 18 rfl) rfl (by decide) ?_
      refine g_icmp_ne 46 (dk_Step_isForPlan 19 rfl) (by decide) (fun b4 => ?_) (fun b4 => ?_)
      · have h := p_ifT b4 h
        refine g_iconst (dk_Step_isForPlan 22 rfl) (by decide) ?_
        cases h
        exact g_ret rfl rfl (dk_Step_isForPlan 23 rfl) (fun _ => ⟨_, rfl, Or.inl rfl⟩)
      · have h := p_ifF b4 h
        refine g_iconst (dk_Step_isForPlan 20 rfl) (by decide) ?_
        refine g_goto 47 (dk_Step_isForPlan 21 rfl) (by decide) ?_
        cases h
        exact g_ret rfl rfl (dk_Step_isForPlan 23 rfl) (fun _ => ⟨_, rfl, Or.inr rfl⟩)
    · have h := p_ifF b2 h
      refine g_aload_n (i := 0) (j := 0) (dk_Step_isForPlan 13 rfl) rfl rfl ?_
      obtain ⟨c5, h⟩ := p_gdE h
      obtain ⟨r10, s6, q7, h⟩ := p_bdE h
      have t8 := tF_Gear_isDivert K l v0 s0 _ q7
      refine g_callV (a := v0) (ci := 0) (q0 := (RX0, TX0, 19)) (As := []) (rest := []) [p_i r10] mt_Gear_isDivert rfl rfl tw_3_102 tw_3_103 tw_4_168 ⟨Nat.le_of_ble_eq_true rfl, Nat.le_of_ble_eq_true rfl⟩ rfl (Nat.le_of_ble_eq_true rfl) (dk_Step_isForPlan 14 rfl) rfl c5 rfl t8 ?_
      have hs9 : p_x s0 s6 := t8.1
      show p_Go K l m_Step_isForPlan 30 [(0, p_r v0), (1, p_i v1)] [p_i r10] s6 _
      refine g_goto 47 (dk_Step_isForPlan 15 rfl) (by decide) ?_
      obtain ⟨c11, h⟩ := p_gdE h
      cases h
      exact g_ret rfl rfl (dk_Step_isForPlan 23 rfl) (fun _ => ⟨_, rfl, c11⟩)
  · have h := p_ifF b1 h
    refine g_aload_n (i := 0) (j := 0) (dk_Step_isForPlan 2 rfl) rfl rfl ?_
    obtain ⟨c12, h⟩ := p_gdE h
    refine g_getI fl_Step_97 (Or.inl rfl) (dk_Step_isForPlan 3 rfl) c12 ?_
    refine g_bipush (dk_Step_isForPlan 4 rfl) rfl (by decide) ?_
    refine g_icmp_ne 17 (dk_Step_isForPlan 5 rfl) (by decide) (fun b13 => ?_) (fun b13 => ?_)
    · have h := p_ifT b13 h
      refine g_iconst (dk_Step_isForPlan 8 rfl) (by decide) ?_
      refine g_goto 47 (dk_Step_isForPlan 9 rfl) (by decide) ?_
      cases h
      exact g_ret rfl rfl (dk_Step_isForPlan 23 rfl) (fun _ => ⟨_, rfl, Or.inl rfl⟩)
    · have h := p_ifF b13 h
      refine g_iconst (dk_Step_isForPlan 6 rfl) (by decide) ?_
      refine g_goto 47 (dk_Step_isForPlan 7 rfl) (by decide) ?_
      cases h
      exact g_ret rfl rfl (dk_Step_isForPlan 23 rfl) (fun _ => ⟨_, rfl, Or.inr rfl⟩)
def m_Step_planByNumber : p_Me := (⟨"SortWorks$Step", "planByNumber", "(LSortWorks$Gear;II)I"⟩, prog_10_method_9_code, 3, (some .int), 1, 22)
theorem mt_Step_planByNumber : p_Mt m_Step_planByNumber 3 := ⟨p_mem (p_tb4 (List.mem_of_getElem? (i := 171) rfl)) rfl, tw_1_9, by decide +kernel, by decide +kernel, by decide +kernel⟩
def dt_Step_planByNumber : List (Nat × Instr × Nat) := [(0, .iload_n 1, 1), (1, .ifCond .ne 18, 3), (4, .aload_n 0, 1), (5, .iload_n 2, 1), (6, .ifCond .eq 7, 3), (9, .iconst 1, 1), (10, .goto 4, 3), (13, .iconst 0, 1), (14, .putfield 145, 3), (17, .iconst 0, 1), (18, .ireturn, 1), (19, .iload_n 1, 1), (20, .iconst 1, 1), (21, .if_icmp .ne 30, 3), (24, .aload_n 0, 1), (25, .invokevirtual 148, 3), (28, .ifCond .le 5, 3), (31, .iconst 0, 1), (32, .ireturn, 1), (33, .aload_n 0, 1), (34, .iload_n 2, 1), (35, .invokevirtual 151, 3), (38, .ifCond .ne 6, 3), (41, .bipush (-13), 2), (43, .ireturn, 1), (44, .aload_n 0, 1), (45, .iload_n 2, 1), (46, .putfield 155, 3), (49, .iconst 0, 1), (50, .ireturn, 1), (51, .iload_n 2, 1), (52, .ifCond .lt 9, 3), (55, .iload_n 2, 1), (56, .bipush 20, 2), (58, .if_icmp .le 6, 3), (61, .bipush (-13), 2), (63, .ireturn, 1), (64, .aload_n 0, 1), (65, .iload_n 2, 1), (66, .putfield 158, 3), (69, .iconst 0, 1), (70, .ireturn, 1)]
theorem dk_Step_planByNumber (i : Nat) {pc : Nat} {ins : Instr} {len : Nat} (h : dt_Step_planByNumber[i]? = some (pc, ins, len)) : decode m_Step_planByNumber.2.1 pc = .ok (ins, len) := p_dk (b := m_Step_planByNumber.2.1) (t := dt_Step_planByNumber) (by decide +kernel) i h
def F_Step_planByNumber (v0 : Nat) (v1 : Int) (v2 : Int) (s0 : p_Hp) : Option (Int × p_Hp) :=
  if v1 ≠ 0 then
    if v1 ≠ 1 then
      if v2 < 0 then
        some ((-13), s0)
      else
        if v2 ≤ 20 then
          p_gd (p_is s0 v0 0) <|
          p_bi (p_wZ s0 v0 14 v2) fun s6 =>
          some (0, s6)
        else
          some ((-13), s0)
    else
      p_gd (p_is s0 v0 0) <|
      p_bd (F_Gear_parcels v0 s0) fun r13 s9 =>
      if r13 ≤ 0 then
        p_bd (F_Gear_hasSide v0 v2 s9) fun r19 s15 =>
        if r19 ≠ 0 then
          p_bi (p_wZ s15 v0 6 v2) fun s21 =>
          some (0, s21)
        else
          some ((-13), s15)
      else
        some (0, s9)
  else
    if v2 = 0 then
      p_gd (p_is s0 v0 0) <|
      p_bi (p_wZ s0 v0 7 0) fun s25 =>
      some (0, s25)
    else
      p_gd (p_is s0 v0 0) <|
      p_bi (p_wZ s0 v0 7 1) fun s28 =>
      some (0, s28)
set_option maxRecDepth 100000 in
set_option maxHeartbeats 4000000 in
theorem tF_Step_planByNumber (K : p_K) (l : Launch) (v0 : Nat) (v1 : Int) (v2 : Int) (s0 : p_Hp) (r : (Int × p_Hp)) (h : F_Step_planByNumber v0 v1 v2 s0 = some r) : p_Ct K l m_Step_planByNumber [p_r v0, p_i v1, p_i v2] s0 (some (p_i r.1), r.2) := by
  refine p_Ct.of (by decide) (Nat.le_of_ble_eq_true rfl) ?_
  unfold F_Step_planByNumber at h
  show p_Go K l m_Step_planByNumber 0 [(0, p_r v0), (1, p_i v1), (2, p_i v2)] [] s0 _
  refine g_iload_n (i := 1) (j := 1) (dk_Step_planByNumber 0 rfl) rfl rfl ?_
  refine g_if_ne 19 (dk_Step_planByNumber 1 rfl) (by decide) (fun b1 => ?_) (fun b1 => ?_)
  · have h := p_ifT b1 h
    refine g_iload_n (i := 1) (j := 1) (dk_Step_planByNumber 11 rfl) rfl rfl ?_
    refine g_iconst (dk_Step_planByNumber 12 rfl) (by decide) ?_
    refine g_icmp_ne 51 (dk_Step_planByNumber 13 rfl) (by decide) (fun b2 => ?_) (fun b2 => ?_)
    · have h := p_ifT b2 h
      refine g_iload_n (i := 2) (j := 2) (dk_Step_planByNumber 30 rfl) rfl rfl ?_
      refine g_if_lt 61 (dk_Step_planByNumber 31 rfl) (by decide) (fun b3 => ?_) (fun b3 => ?_)
      · have h := p_ifT b3 h
        refine g_bipush (dk_Step_planByNumber 35 rfl) rfl (by decide) ?_
        cases h
        exact g_ret rfl rfl (dk_Step_planByNumber 36 rfl) (fun os => ⟨_, rfl, p_okh os⟩)
      · have h := p_ifF b3 h
        refine g_iload_n (i := 2) (j := 2) (dk_Step_planByNumber 32 rfl) rfl rfl ?_
        refine g_bipush (dk_Step_planByNumber 33 rfl) rfl (by decide) ?_
        refine g_icmp_le 64 (dk_Step_planByNumber 34 rfl) (by decide) (fun b4 => ?_) (fun b4 => ?_)
        · have h := p_ifT b4 h
          refine g_aload_n (i := 0) (j := 0) (dk_Step_planByNumber 37 rfl) rfl rfl ?_
          refine g_iload_n (i := 2) (j := 2) (dk_Step_planByNumber 38 rfl) rfl rfl ?_
          obtain ⟨c5, h⟩ := p_gdE h
          refine g_putI fl_Step_158 (Or.inl rfl) (dk_Step_planByNumber 39 rfl) c5 ?_
          refine p_ltS (P := fun q => p_Go K l m_Step_planByNumber 69 [(0, p_r v0), (1, p_i v1), (2, p_i v2)] [] q _) (p_xZ _ _ _ _) ?_ h
          intro s6 hs7 h
          refine g_iconst (dk_Step_planByNumber 40 rfl) (by decide) ?_
          cases h
          exact g_ret rfl rfl (dk_Step_planByNumber 41 rfl) (fun os => ⟨_, rfl, p_okh os⟩)
        · have h := p_ifF b4 h
          refine g_bipush (dk_Step_planByNumber 35 rfl) rfl (by decide) ?_
          cases h
          exact g_ret rfl rfl (dk_Step_planByNumber 36 rfl) (fun os => ⟨_, rfl, p_okh os⟩)
    · have h := p_ifF b2 h
      refine g_aload_n (i := 0) (j := 0) (dk_Step_planByNumber 14 rfl) rfl rfl ?_
      obtain ⟨c8, h⟩ := p_gdE h
      obtain ⟨r13, s9, q10, h⟩ := p_bdE h
      have t11 := tF_Gear_parcels K l v0 s0 _ q10
      refine g_callV (a := v0) (ci := 0) (q0 := (RX0, TX0, 19)) (As := []) (rest := []) [p_i r13] mt_Gear_parcels rfl rfl tw_3_134 tw_3_135 tw_4_172 ⟨Nat.le_of_ble_eq_true rfl, Nat.le_of_ble_eq_true rfl⟩ rfl (Nat.le_of_ble_eq_true rfl) (dk_Step_planByNumber 15 rfl) rfl c8 rfl t11 ?_
      have hs12 : p_x s0 s9 := t11.1
      show p_Go K l m_Step_planByNumber 28 [(0, p_r v0), (1, p_i v1), (2, p_i v2)] [p_i r13] s9 _
      refine g_if_le 33 (dk_Step_planByNumber 16 rfl) (by decide) (fun b14 => ?_) (fun b14 => ?_)
      · have h := p_ifT b14 h
        refine g_aload_n (i := 0) (j := 0) (dk_Step_planByNumber 19 rfl) rfl rfl ?_
        refine g_iload_n (i := 2) (j := 2) (dk_Step_planByNumber 20 rfl) rfl rfl ?_
        obtain ⟨r19, s15, q16, h⟩ := p_bdE h
        have t17 := tF_Gear_hasSide K l v0 v2 s9 _ q16
        refine g_callV (a := v0) (ci := 0) (q0 := (RX0, TX0, 19)) (As := [p_i v2]) (rest := []) [p_i r19] mt_Gear_hasSide rfl rfl tw_3_106 tw_3_107 tw_4_173 ⟨Nat.le_of_ble_eq_true rfl, Nat.le_of_ble_eq_true rfl⟩ rfl (Nat.le_of_ble_eq_true rfl) (dk_Step_planByNumber 21 rfl) rfl (c8.up hs12) rfl t17 ?_
        have hs18 : p_x s9 s15 := t17.1
        show p_Go K l m_Step_planByNumber 38 [(0, p_r v0), (1, p_i v1), (2, p_i v2)] [p_i r19] s15 _
        refine g_if_ne 44 (dk_Step_planByNumber 22 rfl) (by decide) (fun b20 => ?_) (fun b20 => ?_)
        · have h := p_ifT b20 h
          refine g_aload_n (i := 0) (j := 0) (dk_Step_planByNumber 25 rfl) rfl rfl ?_
          refine g_iload_n (i := 2) (j := 2) (dk_Step_planByNumber 26 rfl) rfl rfl ?_
          refine g_putI fl_Step_155 (Or.inl rfl) (dk_Step_planByNumber 27 rfl) (c8.up (hs12.trans hs18)) ?_
          refine p_ltS (P := fun q => p_Go K l m_Step_planByNumber 49 [(0, p_r v0), (1, p_i v1), (2, p_i v2)] [] q _) (p_xZ _ _ _ _) ?_ h
          intro s21 hs22 h
          refine g_iconst (dk_Step_planByNumber 28 rfl) (by decide) ?_
          cases h
          exact g_ret rfl rfl (dk_Step_planByNumber 29 rfl) (fun os => ⟨_, rfl, p_okh os⟩)
        · have h := p_ifF b20 h
          refine g_bipush (dk_Step_planByNumber 23 rfl) rfl (by decide) ?_
          cases h
          exact g_ret rfl rfl (dk_Step_planByNumber 24 rfl) (fun os => ⟨_, rfl, p_okh os⟩)
      · have h := p_ifF b14 h
        refine g_iconst (dk_Step_planByNumber 17 rfl) (by decide) ?_
        cases h
        exact g_ret rfl rfl (dk_Step_planByNumber 18 rfl) (fun os => ⟨_, rfl, p_okh os⟩)
  · have h := p_ifF b1 h
    refine g_aload_n (i := 0) (j := 0) (dk_Step_planByNumber 2 rfl) rfl rfl ?_
    refine g_iload_n (i := 2) (j := 2) (dk_Step_planByNumber 3 rfl) rfl rfl ?_
    refine g_if_eq 13 (dk_Step_planByNumber 4 rfl) (by decide) (fun b23 => ?_) (fun b23 => ?_)
    · have h := p_ifT b23 h
      refine g_iconst (dk_Step_planByNumber 7 rfl) (by decide) ?_
      obtain ⟨c24, h⟩ := p_gdE h
      refine g_putB fl_Step_145 (Or.inl rfl) (dk_Step_planByNumber 8 rfl) c24 (Or.inl rfl) ?_
      refine p_ltS (P := fun q => p_Go K l m_Step_planByNumber 17 [(0, p_r v0), (1, p_i v1), (2, p_i v2)] [] q _) (p_xZ _ _ _ _) ?_ h
      intro s25 hs26 h
      refine g_iconst (dk_Step_planByNumber 9 rfl) (by decide) ?_
      cases h
      exact g_ret rfl rfl (dk_Step_planByNumber 10 rfl) (fun os => ⟨_, rfl, p_okh os⟩)
    · have h := p_ifF b23 h
      refine g_iconst (dk_Step_planByNumber 5 rfl) (by decide) ?_
      refine g_goto 14 (dk_Step_planByNumber 6 rfl) (by decide) ?_
      obtain ⟨c27, h⟩ := p_gdE h
      refine g_putB fl_Step_145 (Or.inl rfl) (dk_Step_planByNumber 8 rfl) c27 (Or.inr rfl) ?_
      refine p_ltS (P := fun q => p_Go K l m_Step_planByNumber 17 [(0, p_r v0), (1, p_i v1), (2, p_i v2)] [] q _) (p_xZ _ _ _ _) ?_ h
      intro s28 hs29 h
      refine g_iconst (dk_Step_planByNumber 9 rfl) (by decide) ?_
      cases h
      exact g_ret rfl rfl (dk_Step_planByNumber 10 rfl) (fun os => ⟨_, rfl, p_okh os⟩)
def m_Step_planFault : p_Me := (⟨"SortWorks$Step", "planFault", "([II)I"⟩, prog_10_method_7_code, 4, (some .int), 2, 44)
theorem mt_Step_planFault : p_Mt m_Step_planFault 2 := ⟨p_mem (p_tb4 (List.mem_of_getElem? (i := 163) rfl)) rfl, tw_1_9, by decide +kernel, by decide +kernel, by decide +kernel⟩
def dt_Step_planFault : List (Nat × Instr × Nat) := [(0, .iload_n 2, 1), (1, .iconst 2, 1), (2, .if_icmp .lt 16, 3), (5, .aload_n 1, 1), (6, .iconst 1, 1), (7, .iaload, 1), (8, .ifCond .lt 10, 3), (11, .aload_n 1, 1), (12, .iconst 1, 1), (13, .iaload, 1), (14, .iconst 2, 1), (15, .if_icmp .le 6, 3), (18, .bipush (-13), 2), (20, .ireturn, 1), (21, .iload_n 2, 1), (22, .iconst 3, 1), (23, .if_icmp .lt 17, 3), (26, .aload_n 1, 1), (27, .iconst 2, 1), (28, .iaload, 1), (29, .ifCond .lt 11, 3), (32, .aload_n 1, 1), (33, .iconst 2, 1), (34, .iaload, 1), (35, .bipush 40, 2), (37, .if_icmp .lt 6, 3), (40, .bipush (-13), 2), (42, .ireturn, 1), (43, .aload_n 0, 1), (44, .getfield 18, 3), (47, .aload_n 1, 1), (48, .iconst 2, 1), (49, .iaload, 1), (50, .invokevirtual 129, 3), (53, .astore_n 3, 1), (54, .aload_n 3, 1), (55, .ifnonnull 6, 3), (58, .bipush (-11), 2), (60, .ireturn, 1), (61, .aload_n 3, 1), (62, .aload_n 1, 1), (63, .iconst 1, 1), (64, .iaload, 1), (65, .invokestatic 133, 3), (68, .ifCond .ne 6, 3), (71, .bipush (-12), 2), (73, .ireturn, 1), (74, .iload_n 2, 1), (75, .iconst 4, 1), (76, .if_icmp .ge 8, 3), (79, .bipush (-13), 2), (81, .goto 13, 3), (84, .aload_n 3, 1), (85, .aload_n 1, 1), (86, .iconst 1, 1), (87, .iaload, 1), (88, .aload_n 1, 1), (89, .iconst 3, 1), (90, .iaload, 1), (91, .invokestatic 137, 3), (94, .ireturn, 1)]
theorem dk_Step_planFault (i : Nat) {pc : Nat} {ins : Instr} {len : Nat} (h : dt_Step_planFault[i]? = some (pc, ins, len)) : decode m_Step_planFault.2.1 pc = .ok (ins, len) := p_dk (b := m_Step_planFault.2.1) (t := dt_Step_planFault) (by decide +kernel) i h
def F_Step_planFault (v0 : Nat) (v1 : Nat) (v2 : Int) (s0 : p_Hp) : Option (Int × p_Hp) :=
  if v2 < 2 then
    some ((-13), s0)
  else
    p_gd (p_is s0 v1 100) <|
    p_gd (0 ≤ 1 ∧ 1 < (p_L s0 v1 : Int)) <|
    if (p_Z s0 v1 (1).toNat) < 0 then
      some ((-13), s0)
    else
      p_gd (0 ≤ 1 ∧ 1 < (p_L s0 v1 : Int)) <|
      if (p_Z s0 v1 (1).toNat) ≤ 2 then
        if v2 < 3 then
          some ((-13), s0)
        else
          p_gd (0 ≤ 2 ∧ 2 < (p_L s0 v1 : Int)) <|
          if (p_Z s0 v1 (2).toNat) < 0 then
            some ((-13), s0)
          else
            p_gd (0 ≤ 2 ∧ 2 < (p_L s0 v1 : Int)) <|
            if (p_Z s0 v1 (2).toNat) < 40 then
              p_gd (p_is s0 v0 8) <|
              p_gd (0 ≤ 2 ∧ 2 < (p_L s0 v1 : Int)) <|
              p_gd (p_is s0 (p_R s0 v0 2) 9) <|
              p_bd (F_Works_gearOf (p_R s0 v0 2) (p_Z s0 v1 (2).toNat) s0) fun r19 s15 =>
              if r19 ≠ 0 then
                p_gd (0 ≤ 1 ∧ 1 < (p_L s15 v1 : Int)) <|
                p_bd (F_Step_isForPlan r19 (p_Z s15 v1 (1).toNat) s15) fun r26 s22 =>
                if r26 ≠ 0 then
                  if 4 ≤ v2 then
                    p_gd (0 ≤ 1 ∧ 1 < (p_L s22 v1 : Int)) <|
                    p_gd (0 ≤ 3 ∧ 3 < (p_L s22 v1 : Int)) <|
                    p_bd (F_Step_planByNumber r19 (p_Z s22 v1 (1).toNat) (p_Z s22 v1 (3).toNat) s22) fun r35 s31 =>
                    some (r35, s31)
                  else
                    some ((-13), s22)
                else
                  some ((-12), s22)
              else
                some ((-11), s15)
            else
              some ((-13), s0)
      else
        some ((-13), s0)
set_option maxRecDepth 100000 in
set_option maxHeartbeats 4000000 in
theorem tF_Step_planFault (K : p_K) (l : Launch) (v0 : Nat) (v1 : Nat) (v2 : Int) (s0 : p_Hp) (r : (Int × p_Hp)) (h : F_Step_planFault v0 v1 v2 s0 = some r) : p_Ct K l m_Step_planFault [p_r v0, p_r v1, p_i v2] s0 (some (p_i r.1), r.2) := by
  refine p_Ct.of (by decide) (Nat.le_of_ble_eq_true rfl) ?_
  unfold F_Step_planFault at h
  show p_Go K l m_Step_planFault 0 [(0, p_r v0), (1, p_r v1), (2, p_i v2)] [] s0 _
  refine g_iload_n (i := 2) (j := 2) (dk_Step_planFault 0 rfl) rfl rfl ?_
  refine g_iconst (dk_Step_planFault 1 rfl) (by decide) ?_
  refine g_icmp_lt 18 (dk_Step_planFault 2 rfl) (by decide) (fun b1 => ?_) (fun b1 => ?_)
  · have h := p_ifT b1 h
    refine g_bipush (dk_Step_planFault 12 rfl) rfl (by decide) ?_
    cases h
    exact g_ret rfl rfl (dk_Step_planFault 13 rfl) (fun os => ⟨_, rfl, p_okh os⟩)
  · have h := p_ifF b1 h
    refine g_aload_n (i := 1) (j := 1) (dk_Step_planFault 3 rfl) rfl rfl ?_
    refine g_iconst (dk_Step_planFault 4 rfl) (by decide) ?_
    obtain ⟨c2, h⟩ := p_gdE h
    obtain ⟨c3, h⟩ := p_gdE h
    refine g_iaload (dk_Step_planFault 5 rfl) c2 c3.1 c3.2 ?_
    refine g_if_lt 18 (dk_Step_planFault 6 rfl) (by decide) (fun b4 => ?_) (fun b4 => ?_)
    · have h := p_ifT b4 h
      refine g_bipush (dk_Step_planFault 12 rfl) rfl (by decide) ?_
      cases h
      exact g_ret rfl rfl (dk_Step_planFault 13 rfl) (fun os => ⟨_, rfl, p_okh os⟩)
    · have h := p_ifF b4 h
      refine g_aload_n (i := 1) (j := 1) (dk_Step_planFault 7 rfl) rfl rfl ?_
      refine g_iconst (dk_Step_planFault 8 rfl) (by decide) ?_
      obtain ⟨c5, h⟩ := p_gdE h
      refine g_iaload (dk_Step_planFault 9 rfl) c2 c5.1 c5.2 ?_
      refine g_iconst (dk_Step_planFault 10 rfl) (by decide) ?_
      refine g_icmp_le 21 (dk_Step_planFault 11 rfl) (by decide) (fun b6 => ?_) (fun b6 => ?_)
      · have h := p_ifT b6 h
        refine g_iload_n (i := 2) (j := 2) (dk_Step_planFault 14 rfl) rfl rfl ?_
        refine g_iconst (dk_Step_planFault 15 rfl) (by decide) ?_
        refine g_icmp_lt 40 (dk_Step_planFault 16 rfl) (by decide) (fun b7 => ?_) (fun b7 => ?_)
        · have h := p_ifT b7 h
          refine g_bipush (dk_Step_planFault 26 rfl) rfl (by decide) ?_
          cases h
          exact g_ret rfl rfl (dk_Step_planFault 27 rfl) (fun os => ⟨_, rfl, p_okh os⟩)
        · have h := p_ifF b7 h
          refine g_aload_n (i := 1) (j := 1) (dk_Step_planFault 17 rfl) rfl rfl ?_
          refine g_iconst (dk_Step_planFault 18 rfl) (by decide) ?_
          obtain ⟨c8, h⟩ := p_gdE h
          refine g_iaload (dk_Step_planFault 19 rfl) c2 c8.1 c8.2 ?_
          refine g_if_lt 40 (dk_Step_planFault 20 rfl) (by decide) (fun b9 => ?_) (fun b9 => ?_)
          · have h := p_ifT b9 h
            refine g_bipush (dk_Step_planFault 26 rfl) rfl (by decide) ?_
            cases h
            exact g_ret rfl rfl (dk_Step_planFault 27 rfl) (fun os => ⟨_, rfl, p_okh os⟩)
          · have h := p_ifF b9 h
            refine g_aload_n (i := 1) (j := 1) (dk_Step_planFault 21 rfl) rfl rfl ?_
            refine g_iconst (dk_Step_planFault 22 rfl) (by decide) ?_
            obtain ⟨c10, h⟩ := p_gdE h
            refine g_iaload (dk_Step_planFault 23 rfl) c2 c10.1 c10.2 ?_
            refine g_bipush (dk_Step_planFault 24 rfl) rfl (by decide) ?_
            refine g_icmp_lt 43 (dk_Step_planFault 25 rfl) (by decide) (fun b11 => ?_) (fun b11 => ?_)
            · have h := p_ifT b11 h
              refine g_aload_n (i := 0) (j := 0) (dk_Step_planFault 28 rfl) rfl rfl ?_
              obtain ⟨c12, h⟩ := p_gdE h
              refine g_getR fl_Step_18 (Or.inl ⟨_, rfl⟩) (dk_Step_planFault 29 rfl) c12 ?_
              refine g_aload_n (i := 1) (j := 1) (dk_Step_planFault 30 rfl) rfl rfl ?_
              refine g_iconst (dk_Step_planFault 31 rfl) (by decide) ?_
              obtain ⟨c13, h⟩ := p_gdE h
              refine g_iaload (dk_Step_planFault 32 rfl) c2 c13.1 c13.2 ?_
              obtain ⟨c14, h⟩ := p_gdE h
              obtain ⟨r19, s15, q16, h⟩ := p_bdE h
              have t17 := tF_Works_gearOf K l (p_R s0 v0 2) (p_Z s0 v1 (2).toNat) s0 _ q16
              refine g_callV (a := (p_R s0 v0 2)) (ci := 9) (q0 := (RX9, TX9, 16)) (As := [p_i (p_Z s0 v1 (2).toNat)]) (rest := []) [p_r r19] mt_Works_gearOf rfl rfl tw_3_87 tw_3_88 tw_4_164 ⟨Nat.le_of_ble_eq_true rfl, Nat.le_of_ble_eq_true rfl⟩ rfl (Nat.le_of_ble_eq_true rfl) (dk_Step_planFault 33 rfl) rfl c14 rfl t17 ?_
              have hs18 : p_x s0 s15 := t17.1
              show p_Go K l m_Step_planFault 53 [(0, p_r v0), (1, p_r v1), (2, p_i v2)] [p_r r19] s15 _
              refine g_astore_n (i := 3) [(3, p_r r19), (0, p_r v0), (1, p_r v1), (2, p_i v2)] (dk_Step_planFault 34 rfl) rfl (by decide) rfl ?_
              refine g_aload_n (i := 3) (j := 0) (dk_Step_planFault 35 rfl) rfl rfl ?_
              refine g_ifnonnull 61 (dk_Step_planFault 36 rfl) (by decide) (fun b20 => ?_) (fun b20 => ?_)
              · have h := p_ifT b20 h
                refine g_aload_n (i := 3) (j := 0) (dk_Step_planFault 39 rfl) rfl rfl ?_
                refine g_aload_n (i := 1) (j := 2) (dk_Step_planFault 40 rfl) rfl rfl ?_
                refine g_iconst (dk_Step_planFault 41 rfl) (by decide) ?_
                obtain ⟨c21, h⟩ := p_gdE h
                refine g_iaload (dk_Step_planFault 42 rfl) (c2.up hs18) c21.1 c21.2 ?_
                obtain ⟨r26, s22, q23, h⟩ := p_bdE h
                have t24 := tF_Step_isForPlan K l r19 (p_Z s15 v1 (1).toNat) s15 _ q23
                refine g_callS (av := [p_r r19, p_i (p_Z s15 v1 (1).toNat)]) (rest := []) [p_i r26] mt_Step_isForPlan tw_4_166 tw_4_165 ⟨Nat.le_of_ble_eq_true rfl, Nat.le_of_ble_eq_true rfl⟩ rfl (Nat.le_of_ble_eq_true rfl) (dk_Step_planFault 43 rfl) rfl rfl t24 ?_
                have hs25 : p_x s15 s22 := t24.1
                show p_Go K l m_Step_planFault 68 [(3, p_r r19), (0, p_r v0), (1, p_r v1), (2, p_i v2)] [p_i r26] s22 _
                refine g_if_ne 74 (dk_Step_planFault 44 rfl) (by decide) (fun b27 => ?_) (fun b27 => ?_)
                · have h := p_ifT b27 h
                  refine g_iload_n (i := 2) (j := 3) (dk_Step_planFault 47 rfl) rfl rfl ?_
                  refine g_iconst (dk_Step_planFault 48 rfl) (by decide) ?_
                  refine g_icmp_ge 84 (dk_Step_planFault 49 rfl) (by decide) (fun b28 => ?_) (fun b28 => ?_)
                  · have h := p_ifT b28 h
                    refine g_aload_n (i := 3) (j := 0) (dk_Step_planFault 52 rfl) rfl rfl ?_
                    refine g_aload_n (i := 1) (j := 2) (dk_Step_planFault 53 rfl) rfl rfl ?_
                    refine g_iconst (dk_Step_planFault 54 rfl) (by decide) ?_
                    obtain ⟨c29, h⟩ := p_gdE h
                    refine g_iaload (dk_Step_planFault 55 rfl) (c2.up (hs18.trans hs25)) c29.1 c29.2 ?_
                    refine g_aload_n (i := 1) (j := 2) (dk_Step_planFault 56 rfl) rfl rfl ?_
                    refine g_iconst (dk_Step_planFault 57 rfl) (by decide) ?_
                    obtain ⟨c30, h⟩ := p_gdE h
                    refine g_iaload (dk_Step_planFault 58 rfl) (c2.up (hs18.trans hs25)) c30.1 c30.2 ?_
                    obtain ⟨r35, s31, q32, h⟩ := p_bdE h
                    have t33 := tF_Step_planByNumber K l r19 (p_Z s22 v1 (1).toNat) (p_Z s22 v1 (3).toNat) s22 _ q32
                    refine g_callS (av := [p_r r19, p_i (p_Z s22 v1 (1).toNat), p_i (p_Z s22 v1 (3).toNat)]) (rest := []) [p_i r35] mt_Step_planByNumber tw_4_170 tw_4_169 ⟨Nat.le_of_ble_eq_true rfl, Nat.le_of_ble_eq_true rfl⟩ rfl (Nat.le_of_ble_eq_true rfl) (dk_Step_planFault 59 rfl) rfl rfl t33 ?_
                    have hs34 : p_x s22 s31 := t33.1
                    show p_Go K l m_Step_planFault 94 [(3, p_r r19), (0, p_r v0), (1, p_r v1), (2, p_i v2)] [p_i r35] s31 _
                    cases h
                    exact g_ret rfl rfl (dk_Step_planFault 60 rfl) (fun os => ⟨_, rfl, p_okh os⟩)
                  · have h := p_ifF b28 h
                    refine g_bipush (dk_Step_planFault 50 rfl) rfl (by decide) ?_
                    refine g_goto 94 (dk_Step_planFault 51 rfl) (by decide) ?_
                    cases h
                    exact g_ret rfl rfl (dk_Step_planFault 60 rfl) (fun os => ⟨_, rfl, p_okh os⟩)
                · have h := p_ifF b27 h
                  refine g_bipush (dk_Step_planFault 45 rfl) rfl (by decide) ?_
                  cases h
                  exact g_ret rfl rfl (dk_Step_planFault 46 rfl) (fun os => ⟨_, rfl, p_okh os⟩)
              · have h := p_ifF b20 h
                refine g_bipush (dk_Step_planFault 37 rfl) rfl (by decide) ?_
                cases h
                exact g_ret rfl rfl (dk_Step_planFault 38 rfl) (fun os => ⟨_, rfl, p_okh os⟩)
            · have h := p_ifF b11 h
              refine g_bipush (dk_Step_planFault 26 rfl) rfl (by decide) ?_
              cases h
              exact g_ret rfl rfl (dk_Step_planFault 27 rfl) (fun os => ⟨_, rfl, p_okh os⟩)
      · have h := p_ifF b6 h
        refine g_bipush (dk_Step_planFault 12 rfl) rfl (by decide) ?_
        cases h
        exact g_ret rfl rfl (dk_Step_planFault 13 rfl) (fun os => ⟨_, rfl, p_okh os⟩)
def m_Step_doPlan : p_Me := (⟨"SortWorks$Step", "doPlan", "(I)V"⟩, prog_10_method_6_code, 4, none, 3, 67)
theorem mt_Step_doPlan : p_Mt m_Step_doPlan 1 := ⟨p_mem (p_tb4 (List.mem_of_getElem? (i := 159) rfl)) rfl, tw_1_9, by decide +kernel, by decide +kernel, by decide +kernel⟩
def dt_Step_doPlan : List (Nat × Instr × Nat) := [(0, .aload_n 0, 1), (1, .getfield 18, 3), (4, .getfield 114, 3), (7, .iload_n 1, 1), (8, .aaload, 1), (9, .astore_n 2, 1), (10, .aload_n 2, 1), (11, .iconst 0, 1), (12, .iaload, 1), (13, .aload_n 0, 1), (14, .getfield 28, 3), (17, .getfield 54, 3), (20, .if_icmp .eq 4, 3), (23, .return_, 1), (24, .aload_n 0, 1), (25, .aload_n 2, 1), (26, .aload_n 0, 1), (27, .getfield 18, 3), (30, .getfield 118, 3), (33, .iload_n 1, 1), (34, .iaload, 1), (35, .invokevirtual 121, 3), (38, .istore_n 3, 1), (39, .iload_n 3, 1), (40, .ifCond .eq 12, 3), (43, .aload_n 0, 1), (44, .bipush (-9), 2), (46, .iconst 5, 1), (47, .iload_n 3, 1), (48, .iload_n 1, 1), (49, .invokevirtual 125, 3), (52, .return_, 1)]
theorem dk_Step_doPlan (i : Nat) {pc : Nat} {ins : Instr} {len : Nat} (h : dt_Step_doPlan[i]? = some (pc, ins, len)) : decode m_Step_doPlan.2.1 pc = .ok (ins, len) := p_dk (b := m_Step_doPlan.2.1) (t := dt_Step_doPlan) (by decide +kernel) i h
def F_Step_doPlan (v0 : Nat) (v1 : Int) (s0 : p_Hp) : Option p_Hp :=
  p_gd (p_is s0 v0 8) <|
  p_gd (p_is s0 (p_R s0 v0 2) 9) <|
  p_gd (p_is s0 (p_R s0 (p_R s0 v0 2) 4) 103) <|
  p_gd (0 ≤ v1 ∧ v1 < (p_L s0 (p_R s0 (p_R s0 v0 2) 4) : Int)) <|
  p_bi ((p_R s0 (p_R s0 (p_R s0 v0 2) 4) (v1).toNat)) fun x5 =>
  p_gd (p_is s0 x5 100) <|
  p_gd (0 ≤ 0 ∧ 0 < (p_L s0 x5 : Int)) <|
  p_gd (p_is s0 (p_R s0 v0 3) 7) <|
  if (p_Z s0 x5 (0).toNat) = (p_Z s0 (p_R s0 v0 3) 0) then
    p_gd (p_is s0 (p_R s0 (p_R s0 v0 2) 5) 100) <|
    p_gd (0 ≤ v1 ∧ v1 < (p_L s0 (p_R s0 (p_R s0 v0 2) 5) : Int)) <|
    p_bd (F_Step_planFault v0 x5 (p_Z s0 (p_R s0 (p_R s0 v0 2) 5) (v1).toNat) s0) fun r16 s12 =>
    if r16 = 0 then
      some s12
    else
      p_bv (F_Step_addFinding v0 (-9) 5 r16 v1 s12) fun s18 =>
      some s18
  else
    some s0
set_option maxRecDepth 100000 in
set_option maxHeartbeats 4000000 in
theorem tF_Step_doPlan (K : p_K) (l : Launch) (v0 : Nat) (v1 : Int) (s0 : p_Hp) (r : p_Hp) (h : F_Step_doPlan v0 v1 s0 = some r) : p_Ct K l m_Step_doPlan [p_r v0, p_i v1] s0 (none, r) := by
  refine p_Ct.of (by decide) (Nat.le_of_ble_eq_true rfl) ?_
  unfold F_Step_doPlan at h
  show p_Go K l m_Step_doPlan 0 [(0, p_r v0), (1, p_i v1)] [] s0 _
  refine g_aload_n (i := 0) (j := 0) (dk_Step_doPlan 0 rfl) rfl rfl ?_
  obtain ⟨c1, h⟩ := p_gdE h
  refine g_getR fl_Step_18 (Or.inl ⟨_, rfl⟩) (dk_Step_doPlan 1 rfl) c1 ?_
  obtain ⟨c2, h⟩ := p_gdE h
  refine g_getR fl_Step_114 (Or.inr ⟨_, rfl⟩) (dk_Step_doPlan 2 rfl) c2 ?_
  refine g_iload_n (i := 1) (j := 1) (dk_Step_doPlan 3 rfl) rfl rfl ?_
  obtain ⟨c3, h⟩ := p_gdE h
  obtain ⟨c4, h⟩ := p_gdE h
  refine g_aaload (i := 3) rfl (Or.inr ⟨_, rfl⟩) (dk_Step_doPlan 4 rfl) c3 c4.1 c4.2 ?_
  refine g_astore_n (i := 2) [(2, p_r (p_R s0 (p_R s0 (p_R s0 v0 2) 4) (v1).toNat)), (0, p_r v0), (1, p_i v1)] (dk_Step_doPlan 5 rfl) rfl (by decide) rfl ?_
  refine p_ltG (P := fun q => p_Go K l m_Step_doPlan 10 [(2, p_r q), (0, p_r v0), (1, p_i v1)] [] s0 _) ?_ h
  intro x5 h
  refine g_aload_n (i := 2) (j := 0) (dk_Step_doPlan 6 rfl) rfl rfl ?_
  refine g_iconst (dk_Step_doPlan 7 rfl) (by decide) ?_
  obtain ⟨c6, h⟩ := p_gdE h
  obtain ⟨c7, h⟩ := p_gdE h
  refine g_iaload (dk_Step_doPlan 8 rfl) c6 c7.1 c7.2 ?_
  refine g_aload_n (i := 0) (j := 1) (dk_Step_doPlan 9 rfl) rfl rfl ?_
  refine g_getR fl_Step_28 (Or.inl ⟨_, rfl⟩) (dk_Step_doPlan 10 rfl) c1 ?_
  obtain ⟨c8, h⟩ := p_gdE h
  refine g_getI fl_Step_54 (Or.inl rfl) (dk_Step_doPlan 11 rfl) c8 ?_
  refine g_icmp_eq 24 (dk_Step_doPlan 12 rfl) (by decide) (fun b9 => ?_) (fun b9 => ?_)
  · have h := p_ifT b9 h
    refine g_aload_n (i := 0) (j := 1) (dk_Step_doPlan 14 rfl) rfl rfl ?_
    refine g_aload_n (i := 2) (j := 0) (dk_Step_doPlan 15 rfl) rfl rfl ?_
    refine g_aload_n (i := 0) (j := 1) (dk_Step_doPlan 16 rfl) rfl rfl ?_
    refine g_getR fl_Step_18 (Or.inl ⟨_, rfl⟩) (dk_Step_doPlan 17 rfl) c1 ?_
    refine g_getR fl_Step_118 (Or.inr ⟨_, rfl⟩) (dk_Step_doPlan 18 rfl) c2 ?_
    refine g_iload_n (i := 1) (j := 2) (dk_Step_doPlan 19 rfl) rfl rfl ?_
    obtain ⟨c10, h⟩ := p_gdE h
    obtain ⟨c11, h⟩ := p_gdE h
    refine g_iaload (dk_Step_doPlan 20 rfl) c10 c11.1 c11.2 ?_
    obtain ⟨r16, s12, q13, h⟩ := p_bdE h
    have t14 := tF_Step_planFault K l v0 x5 (p_Z s0 (p_R s0 (p_R s0 v0 2) 5) (v1).toNat) s0 _ q13
    refine g_callV (a := v0) (ci := 8) (q0 := (RX8, TX8, 5)) (As := [p_r x5, p_i (p_Z s0 (p_R s0 (p_R s0 v0 2) 5) (v1).toNat)]) (rest := []) [p_i r16] mt_Step_planFault rfl rfl tw_4_162 ts_15 tw_4_160 ⟨Nat.le_of_ble_eq_true rfl, Nat.le_of_ble_eq_true rfl⟩ rfl (Nat.le_of_ble_eq_true rfl) (dk_Step_doPlan 21 rfl) rfl c1 rfl t14 ?_
    have hs15 : p_x s0 s12 := t14.1
    show p_Go K l m_Step_doPlan 38 [(2, p_r x5), (0, p_r v0), (1, p_i v1)] [p_i r16] s12 _
    refine g_istore_n (i := 3) [(3, p_i r16), (2, p_r x5), (0, p_r v0), (1, p_i v1)] (dk_Step_doPlan 22 rfl) rfl (by decide) rfl ?_
    refine g_iload_n (i := 3) (j := 0) (dk_Step_doPlan 23 rfl) rfl rfl ?_
    refine g_if_eq 52 (dk_Step_doPlan 24 rfl) (by decide) (fun b17 => ?_) (fun b17 => ?_)
    · have h := p_ifT b17 h
      cases h
      exact g_ret rfl rfl (dk_Step_doPlan 31 rfl) (fun _ => rfl)
    · have h := p_ifF b17 h
      refine g_aload_n (i := 0) (j := 2) (dk_Step_doPlan 25 rfl) rfl rfl ?_
      refine g_bipush (dk_Step_doPlan 26 rfl) rfl (by decide) ?_
      refine g_iconst (dk_Step_doPlan 27 rfl) (by decide) ?_
      refine g_iload_n (i := 3) (j := 0) (dk_Step_doPlan 28 rfl) rfl rfl ?_
      refine g_iload_n (i := 1) (j := 3) (dk_Step_doPlan 29 rfl) rfl rfl ?_
      obtain ⟨s18, q19, h⟩ := p_bvE h
      have t20 := tF_Step_addFinding K l v0 (-9) 5 r16 v1 s12 _ q19
      refine g_callV (a := v0) (ci := 8) (q0 := (RX8, TX8, 5)) (As := [p_i (-9), p_i 5, p_i r16, p_i v1]) (rest := []) [] mt_Step_addFinding rfl rfl tw_4_176 ts_16 tw_4_174 ⟨Nat.le_of_ble_eq_true rfl, Nat.le_of_ble_eq_true rfl⟩ rfl (Nat.le_of_ble_eq_true rfl) (dk_Step_doPlan 30 rfl) rfl (c1.up hs15) rfl t20 ?_
      have hs21 : p_x s12 s18 := t20.1
      show p_Go K l m_Step_doPlan 52 [(3, p_i r16), (2, p_r x5), (0, p_r v0), (1, p_i v1)] [] s18 _
      cases h
      exact g_ret rfl rfl (dk_Step_doPlan 31 rfl) (fun _ => rfl)
  · have h := p_ifF b9 h
    cases h
    exact g_ret rfl rfl (dk_Step_doPlan 13 rfl) (fun _ => rfl)
def m_Step_isInStep : p_Me := (⟨"SortWorks$Step", "isInStep", "(LSortWorks$Gear;)Z"⟩, prog_10_method_3_code, 2, (some .boolean), 0, 0)
theorem mt_Step_isInStep : p_Mt m_Step_isInStep 1 := ⟨p_mem (p_tb4 (List.mem_of_getElem? (i := 194) rfl)) rfl, tw_1_9, by decide +kernel, by decide +kernel, by decide +kernel⟩
def dt_Step_isInStep : List (Nat × Instr × Nat) := [(0, .aload_n 0, 1), (1, .getfield 28, 3), (4, .getfield 54, 3), (7, .getstatic 93, 3), (10, .aload_n 1, 1), (11, .getfield 97, 3), (14, .iaload, 1), (15, .irem, 1), (16, .ifCond .ne 7, 3), (19, .iconst 1, 1), (20, .goto 4, 3), (23, .iconst 0, 1), (24, .ireturn, 1)]
theorem dk_Step_isInStep (i : Nat) {pc : Nat} {ins : Instr} {len : Nat} (h : dt_Step_isInStep[i]? = some (pc, ins, len)) : decode m_Step_isInStep.2.1 pc = .ok (ins, len) := p_dk (b := m_Step_isInStep.2.1) (t := dt_Step_isInStep) (by decide +kernel) i h
def F_Step_isInStep (v0 : Nat) (v1 : Nat) (s0 : p_Hp) : Option (Int × p_Hp) :=
  p_gd (p_is s0 v0 8) <|
  p_gd (p_is s0 (p_R s0 v0 3) 7) <|
  p_gd (p_is s0 v1 0) <|
  p_gd (0 ≤ (p_Z s0 v1 0) ∧ (p_Z s0 v1 0) < (sw_tl 0 : Int)) <|
  p_gd ((sw_tab 0 ((p_Z s0 v1 0)).toNat) ≠ 0) <|
  if (p_rem (p_Z s0 (p_R s0 v0 3) 0) (sw_tab 0 ((p_Z s0 v1 0)).toNat)) ≠ 0 then
    some (0, s0)
  else
    some (1, s0)
set_option maxRecDepth 100000 in
set_option maxHeartbeats 4000000 in
theorem tF_Step_isInStep (K : p_K) (l : Launch) (v0 : Nat) (v1 : Nat) (s0 : p_Hp) (r : (Int × p_Hp)) (h : F_Step_isInStep v0 v1 s0 = some r) : p_Ct K l m_Step_isInStep [p_r v0, p_r v1] s0 (some (p_i r.1), r.2) := by
  refine p_Ct.of (by decide) (Nat.le_of_ble_eq_true rfl) ?_
  unfold F_Step_isInStep at h
  show p_Go K l m_Step_isInStep 0 [(0, p_r v0), (1, p_r v1)] [] s0 _
  refine g_aload_n (i := 0) (j := 0) (dk_Step_isInStep 0 rfl) rfl rfl ?_
  obtain ⟨c1, h⟩ := p_gdE h
  refine g_getR fl_Step_28 (Or.inl ⟨_, rfl⟩) (dk_Step_isInStep 1 rfl) c1 ?_
  obtain ⟨c2, h⟩ := p_gdE h
  refine g_getI fl_Step_54 (Or.inl rfl) (dk_Step_isInStep 2 rfl) c2 ?_
  refine g_getstatic (j := 0) rfl (by decide) (dk_Step_isInStep 3 rfl) ?_
  refine g_aload_n (i := 1) (j := 1) (dk_Step_isInStep 4 rfl) rfl rfl ?_
  obtain ⟨c3, h⟩ := p_gdE h
  refine g_getI fl_Step_97 (Or.inl rfl) (dk_Step_isInStep 5 rfl) c3 ?_
  obtain ⟨c4, h⟩ := p_gdE h
  refine g_tabS (by decide) (dk_Step_isInStep 6 rfl) c4.1 c4.2 ?_
  obtain ⟨c5, h⟩ := p_gdE h
  refine g_irem (dk_Step_isInStep 7 rfl) c5 ?_
  refine g_if_ne 23 (dk_Step_isInStep 8 rfl) (by decide) (fun b6 => ?_) (fun b6 => ?_)
  · have h := p_ifT b6 h
    refine g_iconst (dk_Step_isInStep 11 rfl) (by decide) ?_
    cases h
    exact g_ret rfl rfl (dk_Step_isInStep 12 rfl) (fun _ => ⟨_, rfl, Or.inl rfl⟩)
  · have h := p_ifF b6 h
    refine g_iconst (dk_Step_isInStep 9 rfl) (by decide) ?_
    refine g_goto 24 (dk_Step_isInStep 10 rfl) (by decide) ?_
    cases h
    exact g_ret rfl rfl (dk_Step_isInStep 12 rfl) (fun _ => ⟨_, rfl, Or.inr rfl⟩)
def m_Step_isBetter : p_Me := (⟨"SortWorks$Step", "isBetter", "(ILSortWorks$Gear;)Z"⟩, prog_10_method_12_code, 5, (some .boolean), 0, 0)
theorem mt_Step_isBetter : p_Mt m_Step_isBetter 2 := ⟨p_mem (p_tb4 (List.mem_of_getElem? (i := 214) rfl)) rfl, tw_1_9, by decide +kernel, by decide +kernel, by decide +kernel⟩
def dt_Step_isBetter : List (Nat × Instr × Nat) := [(0, .aload_n 2, 1), (1, .getfield 161, 3), (4, .iconst (-1), 1), (5, .if_icmp .ne 5, 3), (8, .iconst 1, 1), (9, .ireturn, 1), (10, .aload_n 0, 1), (11, .getfield 28, 3), (14, .getfield 82, 3), (17, .iload_n 1, 1), (18, .aaload, 1), (19, .getfield 188, 3), (22, .istore_n 3, 1), (23, .aload_n 0, 1), (24, .getfield 28, 3), (27, .getfield 82, 3), (30, .aload_n 2, 1), (31, .getfield 161, 3), (34, .aaload, 1), (35, .getfield 188, 3), (38, .istore 4, 2), (40, .iload_n 3, 1), (41, .iload 4, 2), (43, .if_icmp .gt 28, 3), (46, .iload_n 3, 1), (47, .iload 4, 2), (49, .if_icmp .ne 26, 3), (52, .aload_n 2, 1), (53, .getfield 161, 3), (56, .aload_n 2, 1), (57, .getfield 191, 3), (60, .if_icmp .gt 15, 3), (63, .iload_n 1, 1), (64, .aload_n 2, 1), (65, .getfield 191, 3), (68, .if_icmp .le 7, 3), (71, .iconst 1, 1), (72, .goto 4, 3), (75, .iconst 0, 1), (76, .ireturn, 1)]
theorem dk_Step_isBetter (i : Nat) {pc : Nat} {ins : Instr} {len : Nat} (h : dt_Step_isBetter[i]? = some (pc, ins, len)) : decode m_Step_isBetter.2.1 pc = .ok (ins, len) := p_dk (b := m_Step_isBetter.2.1) (t := dt_Step_isBetter) (by decide +kernel) i h
def B_Step_isBetter_71   (s0 : p_Hp) : Option (Int × p_Hp) :=
  some (1, s0)
def F_Step_isBetter (v0 : Nat) (v1 : Int) (v2 : Nat) (s0 : p_Hp) : Option (Int × p_Hp) :=
  p_gd (p_is s0 v2 0) <|
  if (p_Z s0 v2 18) ≠ (-1) then
    p_gd (p_is s0 v0 8) <|
    p_gd (p_is s0 (p_R s0 v0 3) 7) <|
    p_gd (p_is s0 (p_R s0 (p_R s0 v0 3) 4) 106) <|
    p_gd (0 ≤ v1 ∧ v1 < (p_L s0 (p_R s0 (p_R s0 v0 3) 4) : Int)) <|
    p_gd (p_is s0 (p_R s0 (p_R s0 (p_R s0 v0 3) 4) (v1).toNat) 0) <|
    p_bi ((p_Z s0 (p_R s0 (p_R s0 (p_R s0 v0 3) 4) (v1).toNat) 2)) fun x8 =>
    p_gd (0 ≤ (p_Z s0 v2 18) ∧ (p_Z s0 v2 18) < (p_L s0 (p_R s0 (p_R s0 v0 3) 4) : Int)) <|
    p_gd (p_is s0 (p_R s0 (p_R s0 (p_R s0 v0 3) 4) ((p_Z s0 v2 18)).toNat) 0) <|
    p_bi ((p_Z s0 (p_R s0 (p_R s0 (p_R s0 v0 3) 4) ((p_Z s0 v2 18)).toNat) 2)) fun x11 =>
    if x11 < x8 then
      B_Step_isBetter_71 s0
    else
      if x8 ≠ x11 then
        some (0, s0)
      else
        if (p_Z s0 v2 15) < (p_Z s0 v2 18) then
          some (0, s0)
        else
          if v1 ≤ (p_Z s0 v2 15) then
            some (0, s0)
          else
            B_Step_isBetter_71 s0
  else
    some (1, s0)
set_option maxRecDepth 100000 in
set_option maxHeartbeats 4000000 in
theorem tB_Step_isBetter_71 (K : p_K) (l : Launch)   (s0 : p_Hp) (r : (Int × p_Hp)) (h : B_Step_isBetter_71  s0 = some r) : p_Go K l m_Step_isBetter 71 [] [] s0 (some (p_i r.1), r.2) := by
  unfold B_Step_isBetter_71 at h
  refine g_iconst (dk_Step_isBetter 36 rfl) (by decide) ?_
  refine g_goto 76 (dk_Step_isBetter 37 rfl) (by decide) ?_
  cases h
  exact g_ret rfl rfl (dk_Step_isBetter 39 rfl) (fun _ => ⟨_, rfl, Or.inr rfl⟩)
set_option maxRecDepth 100000 in
set_option maxHeartbeats 4000000 in
theorem tF_Step_isBetter (K : p_K) (l : Launch) (v0 : Nat) (v1 : Int) (v2 : Nat) (s0 : p_Hp) (r : (Int × p_Hp)) (h : F_Step_isBetter v0 v1 v2 s0 = some r) : p_Ct K l m_Step_isBetter [p_r v0, p_i v1, p_r v2] s0 (some (p_i r.1), r.2) := by
  refine p_Ct.of (by decide) (Nat.le_of_ble_eq_true rfl) ?_
  unfold F_Step_isBetter at h
  show p_Go K l m_Step_isBetter 0 [(0, p_r v0), (1, p_i v1), (2, p_r v2)] [] s0 _
  refine g_aload_n (i := 2) (j := 2) (dk_Step_isBetter 0 rfl) rfl rfl ?_
  obtain ⟨c1, h⟩ := p_gdE h
  refine g_getI fl_Step_161 (Or.inl rfl) (dk_Step_isBetter 1 rfl) c1 ?_
  refine g_iconst (dk_Step_isBetter 2 rfl) (by decide) ?_
  refine g_icmp_ne 10 (dk_Step_isBetter 3 rfl) (by decide) (fun b2 => ?_) (fun b2 => ?_)
  · have h := p_ifT b2 h
    refine g_aload_n (i := 0) (j := 0) (dk_Step_isBetter 6 rfl) rfl rfl ?_
    obtain ⟨c3, h⟩ := p_gdE h
    refine g_getR fl_Step_28 (Or.inl ⟨_, rfl⟩) (dk_Step_isBetter 7 rfl) c3 ?_
    obtain ⟨c4, h⟩ := p_gdE h
    refine g_getR fl_Step_82 (Or.inr ⟨_, rfl⟩) (dk_Step_isBetter 8 rfl) c4 ?_
    refine g_iload_n (i := 1) (j := 1) (dk_Step_isBetter 9 rfl) rfl rfl ?_
    obtain ⟨c5, h⟩ := p_gdE h
    obtain ⟨c6, h⟩ := p_gdE h
    refine g_aaload (i := 6) rfl (Or.inl ⟨_, rfl⟩) (dk_Step_isBetter 10 rfl) c5 c6.1 c6.2 ?_
    obtain ⟨c7, h⟩ := p_gdE h
    refine g_getI fl_Step_188 (Or.inl rfl) (dk_Step_isBetter 11 rfl) c7 ?_
    refine g_istore_n (i := 3) [(3, p_i (p_Z s0 (p_R s0 (p_R s0 (p_R s0 v0 3) 4) (v1).toNat) 2)), (0, p_r v0), (1, p_i v1), (2, p_r v2)] (dk_Step_isBetter 12 rfl) rfl (by decide) rfl ?_
    refine p_ltG (P := fun q => p_Go K l m_Step_isBetter 23 [(3, p_i q), (0, p_r v0), (1, p_i v1), (2, p_r v2)] [] s0 _) ?_ h
    intro x8 h
    refine g_aload_n (i := 0) (j := 1) (dk_Step_isBetter 13 rfl) rfl rfl ?_
    refine g_getR fl_Step_28 (Or.inl ⟨_, rfl⟩) (dk_Step_isBetter 14 rfl) c3 ?_
    refine g_getR fl_Step_82 (Or.inr ⟨_, rfl⟩) (dk_Step_isBetter 15 rfl) c4 ?_
    refine g_aload_n (i := 2) (j := 3) (dk_Step_isBetter 16 rfl) rfl rfl ?_
    refine g_getI fl_Step_161 (Or.inl rfl) (dk_Step_isBetter 17 rfl) c1 ?_
    obtain ⟨c9, h⟩ := p_gdE h
    refine g_aaload (i := 6) rfl (Or.inl ⟨_, rfl⟩) (dk_Step_isBetter 18 rfl) c5 c9.1 c9.2 ?_
    obtain ⟨c10, h⟩ := p_gdE h
    refine g_getI fl_Step_188 (Or.inl rfl) (dk_Step_isBetter 19 rfl) c10 ?_
    refine g_istore [(4, p_i (p_Z s0 (p_R s0 (p_R s0 (p_R s0 v0 3) 4) ((p_Z s0 v2 18)).toNat) 2)), (3, p_i x8), (0, p_r v0), (1, p_i v1), (2, p_r v2)] (dk_Step_isBetter 20 rfl) (by decide) rfl ?_
    refine p_ltG (P := fun q => p_Go K l m_Step_isBetter 40 [(4, p_i q), (3, p_i x8), (0, p_r v0), (1, p_i v1), (2, p_r v2)] [] s0 _) ?_ h
    intro x11 h
    refine g_iload_n (i := 3) (j := 1) (dk_Step_isBetter 21 rfl) rfl rfl ?_
    refine g_iload (j := 0) (dk_Step_isBetter 22 rfl) rfl ?_
    refine g_icmp_gt 71 (dk_Step_isBetter 23 rfl) (by decide) (fun b12 => ?_) (fun b12 => ?_)
    · have h := p_ifT b12 h
      refine g_sub [] [] rfl ?_
      exact tB_Step_isBetter_71 K l s0 _ h
    · have h := p_ifF b12 h
      refine g_iload_n (i := 3) (j := 1) (dk_Step_isBetter 24 rfl) rfl rfl ?_
      refine g_iload (j := 0) (dk_Step_isBetter 25 rfl) rfl ?_
      refine g_icmp_ne 75 (dk_Step_isBetter 26 rfl) (by decide) (fun b13 => ?_) (fun b13 => ?_)
      · have h := p_ifT b13 h
        refine g_iconst (dk_Step_isBetter 38 rfl) (by decide) ?_
        cases h
        exact g_ret rfl rfl (dk_Step_isBetter 39 rfl) (fun _ => ⟨_, rfl, Or.inl rfl⟩)
      · have h := p_ifF b13 h
        refine g_aload_n (i := 2) (j := 4) (dk_Step_isBetter 27 rfl) rfl rfl ?_
        refine g_getI fl_Step_161 (Or.inl rfl) (dk_Step_isBetter 28 rfl) c1 ?_
        refine g_aload_n (i := 2) (j := 4) (dk_Step_isBetter 29 rfl) rfl rfl ?_
        refine g_getI fl_Step_191 (Or.inl rfl) (dk_Step_isBetter 30 rfl) c1 ?_
        refine g_icmp_gt 75 (dk_Step_isBetter 31 rfl) (by decide) (fun b14 => ?_) (fun b14 => ?_)
        · have h := p_ifT b14 h
          refine g_iconst (dk_Step_isBetter 38 rfl) (by decide) ?_
          cases h
          exact g_ret rfl rfl (dk_Step_isBetter 39 rfl) (fun _ => ⟨_, rfl, Or.inl rfl⟩)
        · have h := p_ifF b14 h
          refine g_iload_n (i := 1) (j := 3) (dk_Step_isBetter 32 rfl) rfl rfl ?_
          refine g_aload_n (i := 2) (j := 4) (dk_Step_isBetter 33 rfl) rfl rfl ?_
          refine g_getI fl_Step_191 (Or.inl rfl) (dk_Step_isBetter 34 rfl) c1 ?_
          refine g_icmp_le 75 (dk_Step_isBetter 35 rfl) (by decide) (fun b15 => ?_) (fun b15 => ?_)
          · have h := p_ifT b15 h
            refine g_iconst (dk_Step_isBetter 38 rfl) (by decide) ?_
            cases h
            exact g_ret rfl rfl (dk_Step_isBetter 39 rfl) (fun _ => ⟨_, rfl, Or.inl rfl⟩)
          · have h := p_ifF b15 h
            refine g_sub [] [] rfl ?_
            exact tB_Step_isBetter_71 K l s0 _ h
  · have h := p_ifF b2 h
    refine g_iconst (dk_Step_isBetter 4 rfl) (by decide) ?_
    cases h
    exact g_ret rfl rfl (dk_Step_isBetter 5 rfl) (fun _ => ⟨_, rfl, Or.inr rfl⟩)
def m_Step_isReadyToGive : p_Me := (⟨"SortWorks$Step", "isReadyToGive", "(LSortWorks$Gear;)Z"⟩, prog_10_method_11_code, 2, (some .boolean), 2, 43)
theorem mt_Step_isReadyToGive : p_Mt m_Step_isReadyToGive 1 := ⟨p_mem (p_tb4 (List.mem_of_getElem? (i := 189) rfl)) rfl, tw_1_9, by decide +kernel, by decide +kernel, by decide +kernel⟩
def dt_Step_isReadyToGive : List (Nat × Instr × Nat) := [(0, .aload_n 1, 1), (1, .invokevirtual 178, 3), (4, .ifCond .eq 42, 3), (7, .aload_n 1, 1), (8, .getfield 97, 3), (11, .bipush 7, 2), (13, .if_icmp .eq 33, 3), (16, .aload_n 0, 1), (17, .aload_n 1, 1), (18, .invokevirtual 86, 3), (21, .ifCond .eq 25, 3), (24, .aload_n 0, 1), (25, .getfield 28, 3), (28, .aload_n 1, 1), (29, .invokevirtual 181, 3), (32, .ifnull 14, 3), (35, .aload_n 1, 1), (36, .invokevirtual 185, 3), (39, .ifCond .ne 7, 3), (42, .iconst 1, 1), (43, .goto 4, 3), (46, .iconst 0, 1), (47, .ireturn, 1)]
theorem dk_Step_isReadyToGive (i : Nat) {pc : Nat} {ins : Instr} {len : Nat} (h : dt_Step_isReadyToGive[i]? = some (pc, ins, len)) : decode m_Step_isReadyToGive.2.1 pc = .ok (ins, len) := p_dk (b := m_Step_isReadyToGive.2.1) (t := dt_Step_isReadyToGive) (by decide +kernel) i h
def F_Step_isReadyToGive (v0 : Nat) (v1 : Nat) (s0 : p_Hp) : Option (Int × p_Hp) :=
  p_gd (p_is s0 v1 0) <|
  p_bd (F_Gear_isTaker v1 s0) fun r6 s2 =>
  if r6 = 0 then
    some (0, s2)
  else
    if (p_Z s2 v1 0) = 7 then
      some (0, s2)
    else
      p_gd (p_is s2 v0 8) <|
      p_bd (F_Step_isInStep v0 v1 s2) fun r14 s10 =>
      if r14 = 0 then
        some (0, s10)
      else
        p_gd (p_is s10 (p_R s10 v0 3) 7) <|
        p_bd (F_State_inLastSlot (p_R s10 v0 3) v1 s10) fun r21 s17 =>
        if r21 = 0 then
          some (0, s17)
        else
          p_bd (F_Gear_isHeld v1 s17) fun r27 s23 =>
          if r27 ≠ 0 then
            some (0, s23)
          else
            some (1, s23)
set_option maxRecDepth 100000 in
set_option maxHeartbeats 4000000 in
theorem tF_Step_isReadyToGive (K : p_K) (l : Launch) (v0 : Nat) (v1 : Nat) (s0 : p_Hp) (r : (Int × p_Hp)) (h : F_Step_isReadyToGive v0 v1 s0 = some r) : p_Ct K l m_Step_isReadyToGive [p_r v0, p_r v1] s0 (some (p_i r.1), r.2) := by
  refine p_Ct.of (by decide) (Nat.le_of_ble_eq_true rfl) ?_
  unfold F_Step_isReadyToGive at h
  show p_Go K l m_Step_isReadyToGive 0 [(0, p_r v0), (1, p_r v1)] [] s0 _
  refine g_aload_n (i := 1) (j := 1) (dk_Step_isReadyToGive 0 rfl) rfl rfl ?_
  obtain ⟨c1, h⟩ := p_gdE h
  obtain ⟨r6, s2, q3, h⟩ := p_bdE h
  have t4 := tF_Gear_isTaker K l v1 s0 _ q3
  refine g_callV (a := v1) (ci := 0) (q0 := (RX0, TX0, 19)) (As := []) (rest := []) [p_i r6] mt_Gear_isTaker rfl rfl tw_3_125 tw_3_126 tw_4_190 ⟨Nat.le_of_ble_eq_true rfl, Nat.le_of_ble_eq_true rfl⟩ rfl (Nat.le_of_ble_eq_true rfl) (dk_Step_isReadyToGive 1 rfl) rfl c1 rfl t4 ?_
  have hs5 : p_x s0 s2 := t4.1
  show p_Go K l m_Step_isReadyToGive 4 [(0, p_r v0), (1, p_r v1)] [p_i r6] s2 _
  refine g_if_eq 46 (dk_Step_isReadyToGive 2 rfl) (by decide) (fun b7 => ?_) (fun b7 => ?_)
  · have h := p_ifT b7 h
    refine g_iconst (dk_Step_isReadyToGive 21 rfl) (by decide) ?_
    cases h
    exact g_ret rfl rfl (dk_Step_isReadyToGive 22 rfl) (fun _ => ⟨_, rfl, Or.inl rfl⟩)
  · have h := p_ifF b7 h
    refine g_aload_n (i := 1) (j := 1) (dk_Step_isReadyToGive 3 rfl) rfl rfl ?_
    refine g_getI fl_Step_97 (Or.inl rfl) (dk_Step_isReadyToGive 4 rfl) (c1.up hs5) ?_
    refine g_bipush (dk_Step_isReadyToGive 5 rfl) rfl (by decide) ?_
    refine g_icmp_eq 46 (dk_Step_isReadyToGive 6 rfl) (by decide) (fun b8 => ?_) (fun b8 => ?_)
    · have h := p_ifT b8 h
      refine g_iconst (dk_Step_isReadyToGive 21 rfl) (by decide) ?_
      cases h
      exact g_ret rfl rfl (dk_Step_isReadyToGive 22 rfl) (fun _ => ⟨_, rfl, Or.inl rfl⟩)
    · have h := p_ifF b8 h
      refine g_aload_n (i := 0) (j := 0) (dk_Step_isReadyToGive 7 rfl) rfl rfl ?_
      refine g_aload_n (i := 1) (j := 1) (dk_Step_isReadyToGive 8 rfl) rfl rfl ?_
      obtain ⟨c9, h⟩ := p_gdE h
      obtain ⟨r14, s10, q11, h⟩ := p_bdE h
      have t12 := tF_Step_isInStep K l v0 v1 s2 _ q11
      refine g_callV (a := v0) (ci := 8) (q0 := (RX8, TX8, 5)) (As := [p_r v1]) (rest := []) [p_i r14] mt_Step_isInStep rfl rfl tw_4_193 ts_19 tw_4_191 ⟨Nat.le_of_ble_eq_true rfl, Nat.le_of_ble_eq_true rfl⟩ rfl (Nat.le_of_ble_eq_true rfl) (dk_Step_isReadyToGive 9 rfl) rfl c9 rfl t12 ?_
      have hs13 : p_x s2 s10 := t12.1
      show p_Go K l m_Step_isReadyToGive 21 [(0, p_r v0), (1, p_r v1)] [p_i r14] s10 _
      refine g_if_eq 46 (dk_Step_isReadyToGive 10 rfl) (by decide) (fun b15 => ?_) (fun b15 => ?_)
      · have h := p_ifT b15 h
        refine g_iconst (dk_Step_isReadyToGive 21 rfl) (by decide) ?_
        cases h
        exact g_ret rfl rfl (dk_Step_isReadyToGive 22 rfl) (fun _ => ⟨_, rfl, Or.inl rfl⟩)
      · have h := p_ifF b15 h
        refine g_aload_n (i := 0) (j := 0) (dk_Step_isReadyToGive 11 rfl) rfl rfl ?_
        refine g_getR fl_Step_28 (Or.inl ⟨_, rfl⟩) (dk_Step_isReadyToGive 12 rfl) (c9.up hs13) ?_
        refine g_aload_n (i := 1) (j := 1) (dk_Step_isReadyToGive 13 rfl) rfl rfl ?_
        obtain ⟨c16, h⟩ := p_gdE h
        obtain ⟨r21, s17, q18, h⟩ := p_bdE h
        have t19 := tF_State_inLastSlot K l (p_R s10 v0 3) v1 s10 _ q18
        refine g_callV (a := (p_R s10 v0 3)) (ci := 7) (q0 := (RX7, TX7, 9)) (As := [p_r v1]) (rest := []) [p_r r21] mt_State_inLastSlot rfl rfl tw_4_62 tw_4_63 tw_4_197 ⟨Nat.le_of_ble_eq_true rfl, Nat.le_of_ble_eq_true rfl⟩ rfl (Nat.le_of_ble_eq_true rfl) (dk_Step_isReadyToGive 14 rfl) rfl c16 rfl t19 ?_
        have hs20 : p_x s10 s17 := t19.1
        show p_Go K l m_Step_isReadyToGive 32 [(0, p_r v0), (1, p_r v1)] [p_r r21] s17 _
        refine g_ifnull 46 (dk_Step_isReadyToGive 15 rfl) (by decide) (fun b22 => ?_) (fun b22 => ?_)
        · have h := p_ifT b22 h
          refine g_iconst (dk_Step_isReadyToGive 21 rfl) (by decide) ?_
          cases h
          exact g_ret rfl rfl (dk_Step_isReadyToGive 22 rfl) (fun _ => ⟨_, rfl, Or.inl rfl⟩)
        · have h := p_ifF b22 h
          refine g_aload_n (i := 1) (j := 1) (dk_Step_isReadyToGive 16 rfl) rfl rfl ?_
          obtain ⟨r27, s23, q24, h⟩ := p_bdE h
          have t25 := tF_Gear_isHeld K l v1 s17 _ q24
          refine g_callV (a := v1) (ci := 0) (q0 := (RX0, TX0, 19)) (As := []) (rest := []) [p_i r27] mt_Gear_isHeld rfl rfl tw_4_199 tw_4_200 tw_4_198 ⟨Nat.le_of_ble_eq_true rfl, Nat.le_of_ble_eq_true rfl⟩ rfl (Nat.le_of_ble_eq_true rfl) (dk_Step_isReadyToGive 17 rfl) rfl (c1.up (hs5.trans (hs13.trans hs20))) rfl t25 ?_
          have hs26 : p_x s17 s23 := t25.1
          show p_Go K l m_Step_isReadyToGive 39 [(0, p_r v0), (1, p_r v1)] [p_i r27] s23 _
          refine g_if_ne 46 (dk_Step_isReadyToGive 18 rfl) (by decide) (fun b28 => ?_) (fun b28 => ?_)
          · have h := p_ifT b28 h
            refine g_iconst (dk_Step_isReadyToGive 21 rfl) (by decide) ?_
            cases h
            exact g_ret rfl rfl (dk_Step_isReadyToGive 22 rfl) (fun _ => ⟨_, rfl, Or.inl rfl⟩)
          · have h := p_ifF b28 h
            refine g_iconst (dk_Step_isReadyToGive 19 rfl) (by decide) ?_
            refine g_goto 47 (dk_Step_isReadyToGive 20 rfl) (by decide) ?_
            cases h
            exact g_ret rfl rfl (dk_Step_isReadyToGive 22 rfl) (fun _ => ⟨_, rfl, Or.inr rfl⟩)
def m_Step_letMergesChoose : p_Me := (⟨"SortWorks$Step", "letMergesChoose", "()V"⟩, prog_10_method_10_code, 3, none, 3, 64)
theorem mt_Step_letMergesChoose : p_Mt m_Step_letMergesChoose 0 := ⟨p_mem (p_tb4 (List.mem_of_getElem? (i := 185) rfl)) rfl, tw_1_9, by decide +kernel, by decide +kernel, by decide +kernel⟩
def dt_Step_letMergesChoose : List (Nat × Instr × Nat) := [(0, .iconst 0, 1), (1, .istore_n 1, 1), (2, .iload_n 1, 1), (3, .aload_n 0, 1), (4, .getfield 18, 3), (7, .getfield 79, 3), (10, .if_icmp .ge 22, 3), (13, .aload_n 0, 1), (14, .getfield 28, 3), (17, .getfield 82, 3), (20, .iload_n 1, 1), (21, .aaload, 1), (22, .iconst (-1), 1), (23, .putfield 161, 3), (26, .iinc 1 1, 3), (29, .goto (-27), 3), (32, .iconst 0, 1), (33, .istore_n 1, 1), (34, .iload_n 1, 1), (35, .aload_n 0, 1), (36, .getfield 18, 3), (39, .getfield 79, 3), (42, .if_icmp .ge 108, 3), (45, .aload_n 0, 1), (46, .aload_n 0, 1), (47, .getfield 28, 3), (50, .getfield 82, 3), (53, .iload_n 1, 1), (54, .aaload, 1), (55, .invokevirtual 164, 3), (58, .ifCond .eq 34, 3), (61, .aload_n 0, 1), (62, .getfield 18, 3), (65, .aload_n 0, 1), (66, .getfield 28, 3), (69, .getfield 82, 3), (72, .iload_n 1, 1), (73, .aaload, 1), (74, .aload_n 0, 1), (75, .getfield 28, 3), (78, .getfield 82, 3), (81, .iload_n 1, 1), (82, .aaload, 1), (83, .invokevirtual 167, 3), (86, .invokevirtual 170, 3), (89, .goto 4, 3), (92, .iconst (-1), 1), (93, .istore_n 2, 1), (94, .iload_n 2, 1), (95, .ifCond .lt 49, 3), (98, .aload_n 0, 1), (99, .getfield 28, 3), (102, .getfield 82, 3), (105, .iload_n 2, 1), (106, .aaload, 1), (107, .getfield 97, 3), (110, .iconst 2, 1), (111, .if_icmp .ne 33, 3), (114, .aload_n 0, 1), (115, .iload_n 1, 1), (116, .aload_n 0, 1), (117, .getfield 28, 3), (120, .getfield 82, 3), (123, .iload_n 2, 1), (124, .aaload, 1), (125, .invokevirtual 174, 3), (128, .ifCond .eq 16, 3), (131, .aload_n 0, 1), (132, .getfield 28, 3), (135, .getfield 82, 3), (138, .iload_n 2, 1), (139, .aaload, 1), (140, .iload_n 1, 1), (141, .putfield 161, 3), (144, .iinc 1 1, 3), (147, .goto (-113), 3), (150, .return_, 1)]
theorem dk_Step_letMergesChoose (i : Nat) {pc : Nat} {ins : Instr} {len : Nat} (h : dt_Step_letMergesChoose[i]? = some (pc, ins, len)) : decode m_Step_letMergesChoose.2.1 pc = .ok (ins, len) := p_dk (b := m_Step_letMergesChoose.2.1) (t := dt_Step_letMergesChoose) (by decide +kernel) i h
def B_Step_letMergesChoose_144 (k34 : Nat → Int → p_Hp → Option p_Hp) (v0 : Nat) (v1 : Int) (s0 : p_Hp) : Option p_Hp :=
  p_bi (p_w (v1 + 1)) fun x1 =>
  k34 v0 x1 s0
def B_Step_letMergesChoose_93 (k34 : Nat → Int → p_Hp → Option p_Hp) (v0 : Nat) (v1 : Int) (w0 : Int) (s0 : p_Hp) : Option p_Hp :=
  if w0 < 0 then
    B_Step_letMergesChoose_144 k34 v0 v1 s0
  else
    p_gd (p_is s0 v0 8) <|
    p_gd (p_is s0 (p_R s0 v0 3) 7) <|
    p_gd (p_is s0 (p_R s0 (p_R s0 v0 3) 4) 106) <|
    p_gd (0 ≤ w0 ∧ w0 < (p_L s0 (p_R s0 (p_R s0 v0 3) 4) : Int)) <|
    p_gd (p_is s0 (p_R s0 (p_R s0 (p_R s0 v0 3) 4) (w0).toNat) 0) <|
    if (p_Z s0 (p_R s0 (p_R s0 (p_R s0 v0 3) 4) (w0).toNat) 0) ≠ 2 then
      B_Step_letMergesChoose_144 k34 v0 v1 s0
    else
      p_gd (0 ≤ w0 ∧ w0 < (p_L s0 (p_R s0 (p_R s0 v0 3) 4) : Int)) <|
      p_bd (F_Step_isBetter v0 v1 (p_R s0 (p_R s0 (p_R s0 v0 3) 4) (w0).toNat) s0) fun r13 s9 =>
      if r13 = 0 then
        B_Step_letMergesChoose_144 k34 v0 v1 s9
      else
        p_gd (p_is s9 (p_R s9 v0 3) 7) <|
        p_gd (p_is s9 (p_R s9 (p_R s9 v0 3) 4) 106) <|
        p_gd (0 ≤ w0 ∧ w0 < (p_L s9 (p_R s9 (p_R s9 v0 3) 4) : Int)) <|
        p_gd (p_is s9 (p_R s9 (p_R s9 (p_R s9 v0 3) 4) (w0).toNat) 0) <|
        p_bi (p_wZ s9 (p_R s9 (p_R s9 (p_R s9 v0 3) 4) (w0).toNat) 18 v1) fun s19 =>
        B_Step_letMergesChoose_144 k34 v0 v1 s19
def L_Step_letMergesChoose_34 (k34 : Nat → Int → p_Hp → Option p_Hp) (v0 : Nat) (v1 : Int) (s0 : p_Hp) : Option p_Hp :=
  p_gd (p_is s0 v0 8) <|
  p_gd (p_is s0 (p_R s0 v0 2) 9) <|
  if (p_Z s0 (p_R s0 v0 2) 2) ≤ v1 then
    some s0
  else
    p_gd (p_is s0 (p_R s0 v0 3) 7) <|
    p_gd (p_is s0 (p_R s0 (p_R s0 v0 3) 4) 106) <|
    p_gd (0 ≤ v1 ∧ v1 < (p_L s0 (p_R s0 (p_R s0 v0 3) 4) : Int)) <|
    p_bd (F_Step_isReadyToGive v0 (p_R s0 (p_R s0 (p_R s0 v0 3) 4) (v1).toNat) s0) fun r11 s7 =>
    if r11 = 0 then
      B_Step_letMergesChoose_93 k34 v0 v1 (-1) s7
    else
      p_gd (p_is s7 (p_R s7 v0 3) 7) <|
      p_gd (p_is s7 (p_R s7 (p_R s7 v0 3) 4) 106) <|
      p_gd (0 ≤ v1 ∧ v1 < (p_L s7 (p_R s7 (p_R s7 v0 3) 4) : Int)) <|
      p_gd (0 ≤ v1 ∧ v1 < (p_L s7 (p_R s7 (p_R s7 v0 3) 4) : Int)) <|
      p_gd (p_is s7 (p_R s7 (p_R s7 (p_R s7 v0 3) 4) (v1).toNat) 0) <|
      p_bd (F_Gear_linkAhead (p_R s7 (p_R s7 (p_R s7 v0 3) 4) (v1).toNat) s7) fun r22 s18 =>
      p_gd (p_is s18 (p_R s7 v0 2) 9) <|
      p_bd (F_Works_follow (p_R s7 v0 2) (p_R s7 (p_R s7 (p_R s7 v0 3) 4) (v1).toNat) r22 s18) fun r28 s24 =>
      B_Step_letMergesChoose_93 k34 v0 v1 r28 s24
def O_Step_letMergesChoose_34  : Nat → Nat → Int → p_Hp → Option p_Hp
  | 0 => fun _ _ _ => none
  | n + 1 => L_Step_letMergesChoose_34 (O_Step_letMergesChoose_34 n)
def L_Step_letMergesChoose_2 (k2 : Nat → Int → p_Hp → Option p_Hp) (v0 : Nat) (v1 : Int) (s0 : p_Hp) : Option p_Hp :=
  p_gd (p_is s0 v0 8) <|
  p_gd (p_is s0 (p_R s0 v0 2) 9) <|
  if (p_Z s0 (p_R s0 v0 2) 2) ≤ v1 then
    O_Step_letMergesChoose_34 3000 v0 0 s0
  else
    p_gd (p_is s0 (p_R s0 v0 3) 7) <|
    p_gd (p_is s0 (p_R s0 (p_R s0 v0 3) 4) 106) <|
    p_gd (0 ≤ v1 ∧ v1 < (p_L s0 (p_R s0 (p_R s0 v0 3) 4) : Int)) <|
    p_gd (p_is s0 (p_R s0 (p_R s0 (p_R s0 v0 3) 4) (v1).toNat) 0) <|
    p_bi (p_wZ s0 (p_R s0 (p_R s0 (p_R s0 v0 3) 4) (v1).toNat) 18 (-1)) fun s8 =>
    p_bi (p_w (v1 + 1)) fun x10 =>
    k2 v0 x10 s8
def O_Step_letMergesChoose_2  : Nat → Nat → Int → p_Hp → Option p_Hp
  | 0 => fun _ _ _ => none
  | n + 1 => L_Step_letMergesChoose_2 (O_Step_letMergesChoose_2 n)
def F_Step_letMergesChoose (v0 : Nat) (s0 : p_Hp) : Option p_Hp :=
  O_Step_letMergesChoose_2 3000 v0 0 s0
set_option maxRecDepth 100000 in
set_option maxHeartbeats 4000000 in
theorem tB_Step_letMergesChoose_144 (K : p_K) (l : Launch) (k34 : Nat → Int → p_Hp → Option p_Hp) (hk34 : ∀ (v0 : Nat) (v1 : Int)  (s0 : p_Hp) (r : p_Hp), k34 v0 v1 s0 = some r → p_Go K l m_Step_letMergesChoose 34 [(0, p_r v0), (1, p_i v1)] [] s0 (none, r)) (v0 : Nat) (v1 : Int) (s0 : p_Hp) (r : p_Hp) (h : B_Step_letMergesChoose_144 k34 v0 v1 s0 = some r) : p_Go K l m_Step_letMergesChoose 144 [(0, p_r v0), (1, p_i v1)] [] s0 (none, r) := by
  unfold B_Step_letMergesChoose_144 at h
  refine g_iinc (j := 1) [(1, p_i (p_w (v1 + 1))), (0, p_r v0)] (dk_Step_letMergesChoose 74 rfl) rfl (by decide) rfl ?_
  refine p_ltG (P := fun q => p_Go K l m_Step_letMergesChoose 147 [(1, p_i q), (0, p_r v0)] [] s0 _) ?_ h
  intro x1 h
  refine g_goto 34 (dk_Step_letMergesChoose 75 rfl) (by decide) ?_
  refine g_sub [(0, p_r v0), (1, p_i x1)] [1, 0] rfl ?_
  exact hk34 v0 x1 s0 _ h
set_option maxRecDepth 100000 in
set_option maxHeartbeats 4000000 in
theorem tB_Step_letMergesChoose_93 (K : p_K) (l : Launch) (k34 : Nat → Int → p_Hp → Option p_Hp) (hk34 : ∀ (v0 : Nat) (v1 : Int)  (s0 : p_Hp) (r : p_Hp), k34 v0 v1 s0 = some r → p_Go K l m_Step_letMergesChoose 34 [(0, p_r v0), (1, p_i v1)] [] s0 (none, r)) (v0 : Nat) (v1 : Int) (w0 : Int) (s0 : p_Hp) (r : p_Hp) (h : B_Step_letMergesChoose_93 k34 v0 v1 w0 s0 = some r) : p_Go K l m_Step_letMergesChoose 93 [(0, p_r v0), (1, p_i v1)] [p_i w0] s0 (none, r) := by
  unfold B_Step_letMergesChoose_93 at h
  refine g_istore_n (i := 2) [(2, p_i w0), (0, p_r v0), (1, p_i v1)] (dk_Step_letMergesChoose 47 rfl) rfl (by decide) rfl ?_
  refine g_iload_n (i := 2) (j := 0) (dk_Step_letMergesChoose 48 rfl) rfl rfl ?_
  refine g_if_lt 144 (dk_Step_letMergesChoose 49 rfl) (by decide) (fun b1 => ?_) (fun b1 => ?_)
  · have h := p_ifT b1 h
    refine g_sub [(0, p_r v0), (1, p_i v1)] [1, 2] rfl ?_
    exact tB_Step_letMergesChoose_144 K l k34 hk34 v0 v1 s0 _ h
  · have h := p_ifF b1 h
    refine g_aload_n (i := 0) (j := 1) (dk_Step_letMergesChoose 50 rfl) rfl rfl ?_
    obtain ⟨c2, h⟩ := p_gdE h
    refine g_getR fl_Step_28 (Or.inl ⟨_, rfl⟩) (dk_Step_letMergesChoose 51 rfl) c2 ?_
    obtain ⟨c3, h⟩ := p_gdE h
    refine g_getR fl_Step_82 (Or.inr ⟨_, rfl⟩) (dk_Step_letMergesChoose 52 rfl) c3 ?_
    refine g_iload_n (i := 2) (j := 0) (dk_Step_letMergesChoose 53 rfl) rfl rfl ?_
    obtain ⟨c4, h⟩ := p_gdE h
    obtain ⟨c5, h⟩ := p_gdE h
    refine g_aaload (i := 6) rfl (Or.inl ⟨_, rfl⟩) (dk_Step_letMergesChoose 54 rfl) c4 c5.1 c5.2 ?_
    obtain ⟨c6, h⟩ := p_gdE h
    refine g_getI fl_Step_97 (Or.inl rfl) (dk_Step_letMergesChoose 55 rfl) c6 ?_
    refine g_iconst (dk_Step_letMergesChoose 56 rfl) (by decide) ?_
    refine g_icmp_ne 144 (dk_Step_letMergesChoose 57 rfl) (by decide) (fun b7 => ?_) (fun b7 => ?_)
    · have h := p_ifT b7 h
      refine g_sub [(0, p_r v0), (1, p_i v1)] [1, 2] rfl ?_
      exact tB_Step_letMergesChoose_144 K l k34 hk34 v0 v1 s0 _ h
    · have h := p_ifF b7 h
      refine g_aload_n (i := 0) (j := 1) (dk_Step_letMergesChoose 58 rfl) rfl rfl ?_
      refine g_iload_n (i := 1) (j := 2) (dk_Step_letMergesChoose 59 rfl) rfl rfl ?_
      refine g_aload_n (i := 0) (j := 1) (dk_Step_letMergesChoose 60 rfl) rfl rfl ?_
      refine g_getR fl_Step_28 (Or.inl ⟨_, rfl⟩) (dk_Step_letMergesChoose 61 rfl) c2 ?_
      refine g_getR fl_Step_82 (Or.inr ⟨_, rfl⟩) (dk_Step_letMergesChoose 62 rfl) c3 ?_
      refine g_iload_n (i := 2) (j := 0) (dk_Step_letMergesChoose 63 rfl) rfl rfl ?_
      obtain ⟨c8, h⟩ := p_gdE h
      refine g_aaload (i := 6) rfl (Or.inl ⟨_, rfl⟩) (dk_Step_letMergesChoose 64 rfl) c4 c8.1 c8.2 ?_
      obtain ⟨r13, s9, q10, h⟩ := p_bdE h
      have t11 := tF_Step_isBetter K l v0 v1 (p_R s0 (p_R s0 (p_R s0 v0 3) 4) (w0).toNat) s0 _ q10
      refine g_callV (a := v0) (ci := 8) (q0 := (RX8, TX8, 5)) (As := [p_i v1, p_r (p_R s0 (p_R s0 (p_R s0 v0 3) 4) (w0).toNat)]) (rest := []) [p_i r13] mt_Step_isBetter rfl rfl tw_4_213 ts_20 tw_4_211 ⟨Nat.le_of_ble_eq_true rfl, Nat.le_of_ble_eq_true rfl⟩ rfl (Nat.le_of_ble_eq_true rfl) (dk_Step_letMergesChoose 65 rfl) rfl c2 rfl t11 ?_
      have hs12 : p_x s0 s9 := t11.1
      show p_Go K l m_Step_letMergesChoose 128 [(2, p_i w0), (0, p_r v0), (1, p_i v1)] [p_i r13] s9 _
      refine g_if_eq 144 (dk_Step_letMergesChoose 66 rfl) (by decide) (fun b14 => ?_) (fun b14 => ?_)
      · have h := p_ifT b14 h
        refine g_sub [(0, p_r v0), (1, p_i v1)] [1, 2] rfl ?_
        exact tB_Step_letMergesChoose_144 K l k34 hk34 v0 v1 s9 _ h
      · have h := p_ifF b14 h
        refine g_aload_n (i := 0) (j := 1) (dk_Step_letMergesChoose 67 rfl) rfl rfl ?_
        refine g_getR fl_Step_28 (Or.inl ⟨_, rfl⟩) (dk_Step_letMergesChoose 68 rfl) (c2.up hs12) ?_
        obtain ⟨c15, h⟩ := p_gdE h
        refine g_getR fl_Step_82 (Or.inr ⟨_, rfl⟩) (dk_Step_letMergesChoose 69 rfl) c15 ?_
        refine g_iload_n (i := 2) (j := 0) (dk_Step_letMergesChoose 70 rfl) rfl rfl ?_
        obtain ⟨c16, h⟩ := p_gdE h
        obtain ⟨c17, h⟩ := p_gdE h
        refine g_aaload (i := 6) rfl (Or.inl ⟨_, rfl⟩) (dk_Step_letMergesChoose 71 rfl) c16 c17.1 c17.2 ?_
        refine g_iload_n (i := 1) (j := 2) (dk_Step_letMergesChoose 72 rfl) rfl rfl ?_
        obtain ⟨c18, h⟩ := p_gdE h
        refine g_putI fl_Step_161 (Or.inl rfl) (dk_Step_letMergesChoose 73 rfl) c18 ?_
        refine p_ltS (P := fun q => p_Go K l m_Step_letMergesChoose 144 [(2, p_i w0), (0, p_r v0), (1, p_i v1)] [] q _) (p_xZ _ _ _ _) ?_ h
        intro s19 hs20 h
        refine g_sub [(0, p_r v0), (1, p_i v1)] [1, 2] rfl ?_
        exact tB_Step_letMergesChoose_144 K l k34 hk34 v0 v1 s19 _ h
set_option maxRecDepth 100000 in
set_option maxHeartbeats 4000000 in
theorem tL_Step_letMergesChoose_34 (K : p_K) (l : Launch) (k34 : Nat → Int → p_Hp → Option p_Hp) (hk34 : ∀ (v0 : Nat) (v1 : Int)  (s0 : p_Hp) (r : p_Hp), k34 v0 v1 s0 = some r → p_Go K l m_Step_letMergesChoose 34 [(0, p_r v0), (1, p_i v1)] [] s0 (none, r)) (v0 : Nat) (v1 : Int) (s0 : p_Hp) (r : p_Hp) (h : L_Step_letMergesChoose_34 k34 v0 v1 s0 = some r) : p_Go K l m_Step_letMergesChoose 34 [(0, p_r v0), (1, p_i v1)] [] s0 (none, r) := by
  unfold L_Step_letMergesChoose_34 at h
  refine g_iload_n (i := 1) (j := 1) (dk_Step_letMergesChoose 18 rfl) rfl rfl ?_
  refine g_aload_n (i := 0) (j := 0) (dk_Step_letMergesChoose 19 rfl) rfl rfl ?_
  obtain ⟨c1, h⟩ := p_gdE h
  refine g_getR fl_Step_18 (Or.inl ⟨_, rfl⟩) (dk_Step_letMergesChoose 20 rfl) c1 ?_
  obtain ⟨c2, h⟩ := p_gdE h
  refine g_getI fl_Step_79 (Or.inl rfl) (dk_Step_letMergesChoose 21 rfl) c2 ?_
  refine g_icmp_ge 150 (dk_Step_letMergesChoose 22 rfl) (by decide) (fun b3 => ?_) (fun b3 => ?_)
  · have h := p_ifT b3 h
    cases h
    exact g_ret rfl rfl (dk_Step_letMergesChoose 76 rfl) (fun _ => rfl)
  · have h := p_ifF b3 h
    refine g_aload_n (i := 0) (j := 0) (dk_Step_letMergesChoose 23 rfl) rfl rfl ?_
    refine g_aload_n (i := 0) (j := 0) (dk_Step_letMergesChoose 24 rfl) rfl rfl ?_
    refine g_getR fl_Step_28 (Or.inl ⟨_, rfl⟩) (dk_Step_letMergesChoose 25 rfl) c1 ?_
    obtain ⟨c4, h⟩ := p_gdE h
    refine g_getR fl_Step_82 (Or.inr ⟨_, rfl⟩) (dk_Step_letMergesChoose 26 rfl) c4 ?_
    refine g_iload_n (i := 1) (j := 1) (dk_Step_letMergesChoose 27 rfl) rfl rfl ?_
    obtain ⟨c5, h⟩ := p_gdE h
    obtain ⟨c6, h⟩ := p_gdE h
    refine g_aaload (i := 6) rfl (Or.inl ⟨_, rfl⟩) (dk_Step_letMergesChoose 28 rfl) c5 c6.1 c6.2 ?_
    obtain ⟨r11, s7, q8, h⟩ := p_bdE h
    have t9 := tF_Step_isReadyToGive K l v0 (p_R s0 (p_R s0 (p_R s0 v0 3) 4) (v1).toNat) s0 _ q8
    refine g_callV (a := v0) (ci := 8) (q0 := (RX8, TX8, 5)) (As := [p_r (p_R s0 (p_R s0 (p_R s0 v0 3) 4) (v1).toNat)]) (rest := []) [p_i r11] mt_Step_isReadyToGive rfl rfl tw_4_188 ts_18 tw_4_186 ⟨Nat.le_of_ble_eq_true rfl, Nat.le_of_ble_eq_true rfl⟩ rfl (Nat.le_of_ble_eq_true rfl) (dk_Step_letMergesChoose 29 rfl) rfl c1 rfl t9 ?_
    have hs10 : p_x s0 s7 := t9.1
    show p_Go K l m_Step_letMergesChoose 58 [(0, p_r v0), (1, p_i v1)] [p_i r11] s7 _
    refine g_if_eq 92 (dk_Step_letMergesChoose 30 rfl) (by decide) (fun b12 => ?_) (fun b12 => ?_)
    · have h := p_ifT b12 h
      refine g_iconst (dk_Step_letMergesChoose 46 rfl) (by decide) ?_
      exact tB_Step_letMergesChoose_93 K l k34 hk34 v0 v1 (-1) s7 _ h
    · have h := p_ifF b12 h
      refine g_aload_n (i := 0) (j := 0) (dk_Step_letMergesChoose 31 rfl) rfl rfl ?_
      refine g_getR fl_Step_18 (Or.inl ⟨_, rfl⟩) (dk_Step_letMergesChoose 32 rfl) (c1.up hs10) ?_
      refine g_aload_n (i := 0) (j := 0) (dk_Step_letMergesChoose 33 rfl) rfl rfl ?_
      refine g_getR fl_Step_28 (Or.inl ⟨_, rfl⟩) (dk_Step_letMergesChoose 34 rfl) (c1.up hs10) ?_
      obtain ⟨c13, h⟩ := p_gdE h
      refine g_getR fl_Step_82 (Or.inr ⟨_, rfl⟩) (dk_Step_letMergesChoose 35 rfl) c13 ?_
      refine g_iload_n (i := 1) (j := 1) (dk_Step_letMergesChoose 36 rfl) rfl rfl ?_
      obtain ⟨c14, h⟩ := p_gdE h
      obtain ⟨c15, h⟩ := p_gdE h
      refine g_aaload (i := 6) rfl (Or.inl ⟨_, rfl⟩) (dk_Step_letMergesChoose 37 rfl) c14 c15.1 c15.2 ?_
      refine g_aload_n (i := 0) (j := 0) (dk_Step_letMergesChoose 38 rfl) rfl rfl ?_
      refine g_getR fl_Step_28 (Or.inl ⟨_, rfl⟩) (dk_Step_letMergesChoose 39 rfl) (c1.up hs10) ?_
      refine g_getR fl_Step_82 (Or.inr ⟨_, rfl⟩) (dk_Step_letMergesChoose 40 rfl) c13 ?_
      refine g_iload_n (i := 1) (j := 1) (dk_Step_letMergesChoose 41 rfl) rfl rfl ?_
      obtain ⟨c16, h⟩ := p_gdE h
      refine g_aaload (i := 6) rfl (Or.inl ⟨_, rfl⟩) (dk_Step_letMergesChoose 42 rfl) c14 c16.1 c16.2 ?_
      obtain ⟨c17, h⟩ := p_gdE h
      obtain ⟨r22, s18, q19, h⟩ := p_bdE h
      have t20 := tF_Gear_linkAhead K l (p_R s7 (p_R s7 (p_R s7 v0 3) 4) (v1).toNat) s7 _ q19
      refine g_callV (a := (p_R s7 (p_R s7 (p_R s7 v0 3) 4) (v1).toNat)) (ci := 0) (q0 := (RX0, TX0, 19)) (As := []) (rest := [p_r (p_R s7 (p_R s7 (p_R s7 v0 3) 4) (v1).toNat), p_r (p_R s7 v0 2)]) [p_i r22, p_r (p_R s7 (p_R s7 (p_R s7 v0 3) 4) (v1).toNat), p_r (p_R s7 v0 2)] mt_Gear_linkAhead rfl rfl tw_4_203 tw_4_204 tw_4_202 ⟨Nat.le_of_ble_eq_true rfl, Nat.le_of_ble_eq_true rfl⟩ rfl (Nat.le_of_ble_eq_true rfl) (dk_Step_letMergesChoose 43 rfl) rfl c17 rfl t20 ?_
      have hs21 : p_x s7 s18 := t20.1
      show p_Go K l m_Step_letMergesChoose 86 [(0, p_r v0), (1, p_i v1)] [p_i r22, p_r (p_R s7 (p_R s7 (p_R s7 v0 3) 4) (v1).toNat), p_r (p_R s7 v0 2)] s18 _
      obtain ⟨c23, h⟩ := p_gdE h
      obtain ⟨r28, s24, q25, h⟩ := p_bdE h
      have t26 := tF_Works_follow K l (p_R s7 v0 2) (p_R s7 (p_R s7 (p_R s7 v0 3) 4) (v1).toNat) r22 s18 _ q25
      refine g_callV (a := (p_R s7 v0 2)) (ci := 9) (q0 := (RX9, TX9, 16)) (As := [p_r (p_R s7 (p_R s7 (p_R s7 v0 3) 4) (v1).toNat), p_i r22]) (rest := []) [p_i r28] mt_Works_follow rfl rfl tw_4_208 tw_4_209 tw_4_207 ⟨Nat.le_of_ble_eq_true rfl, Nat.le_of_ble_eq_true rfl⟩ rfl (Nat.le_of_ble_eq_true rfl) (dk_Step_letMergesChoose 44 rfl) rfl c23 rfl t26 ?_
      have hs27 : p_x s18 s24 := t26.1
      show p_Go K l m_Step_letMergesChoose 89 [(0, p_r v0), (1, p_i v1)] [p_i r28] s24 _
      refine g_goto 93 (dk_Step_letMergesChoose 45 rfl) (by decide) ?_
      exact tB_Step_letMergesChoose_93 K l k34 hk34 v0 v1 r28 s24 _ h
set_option maxRecDepth 100000 in
set_option maxHeartbeats 4000000 in
theorem tO_Step_letMergesChoose_34 (K : p_K) (l : Launch)  : ∀ (n : Nat) (v0 : Nat) (v1 : Int) (s0 : p_Hp) (r : p_Hp), O_Step_letMergesChoose_34 n v0 v1 s0 = some r → p_Go K l m_Step_letMergesChoose 34 [(0, p_r v0), (1, p_i v1)] [] s0 (none, r) := by
  intro n
  induction n with
  | zero => intro v0 v1 s0 r h; cases (show (none : Option p_Hp) = some r from h)
  | succ n ih => intro v0 v1 s0 r h; exact tL_Step_letMergesChoose_34 K l _ ih v0 v1 s0 r h
set_option maxRecDepth 100000 in
set_option maxHeartbeats 4000000 in
theorem tL_Step_letMergesChoose_2 (K : p_K) (l : Launch) (k2 : Nat → Int → p_Hp → Option p_Hp) (hk2 : ∀ (v0 : Nat) (v1 : Int)  (s0 : p_Hp) (r : p_Hp), k2 v0 v1 s0 = some r → p_Go K l m_Step_letMergesChoose 2 [(0, p_r v0), (1, p_i v1)] [] s0 (none, r)) (v0 : Nat) (v1 : Int) (s0 : p_Hp) (r : p_Hp) (h : L_Step_letMergesChoose_2 k2 v0 v1 s0 = some r) : p_Go K l m_Step_letMergesChoose 2 [(0, p_r v0), (1, p_i v1)] [] s0 (none, r) := by
  unfold L_Step_letMergesChoose_2 at h
  refine g_iload_n (i := 1) (j := 1) (dk_Step_letMergesChoose 2 rfl) rfl rfl ?_
  refine g_aload_n (i := 0) (j := 0) (dk_Step_letMergesChoose 3 rfl) rfl rfl ?_
  obtain ⟨c1, h⟩ := p_gdE h
  refine g_getR fl_Step_18 (Or.inl ⟨_, rfl⟩) (dk_Step_letMergesChoose 4 rfl) c1 ?_
  obtain ⟨c2, h⟩ := p_gdE h
  refine g_getI fl_Step_79 (Or.inl rfl) (dk_Step_letMergesChoose 5 rfl) c2 ?_
  refine g_icmp_ge 32 (dk_Step_letMergesChoose 6 rfl) (by decide) (fun b3 => ?_) (fun b3 => ?_)
  · have h := p_ifT b3 h
    refine g_iconst (dk_Step_letMergesChoose 16 rfl) (by decide) ?_
    refine g_istore_n (i := 1) [(1, p_i 0), (0, p_r v0)] (dk_Step_letMergesChoose 17 rfl) rfl (by decide) rfl ?_
    refine g_sub [(0, p_r v0), (1, p_i 0)] [1, 0] rfl ?_
    exact tO_Step_letMergesChoose_34 K l 3000 v0 0 s0 _ h
  · have h := p_ifF b3 h
    refine g_aload_n (i := 0) (j := 0) (dk_Step_letMergesChoose 7 rfl) rfl rfl ?_
    refine g_getR fl_Step_28 (Or.inl ⟨_, rfl⟩) (dk_Step_letMergesChoose 8 rfl) c1 ?_
    obtain ⟨c4, h⟩ := p_gdE h
    refine g_getR fl_Step_82 (Or.inr ⟨_, rfl⟩) (dk_Step_letMergesChoose 9 rfl) c4 ?_
    refine g_iload_n (i := 1) (j := 1) (dk_Step_letMergesChoose 10 rfl) rfl rfl ?_
    obtain ⟨c5, h⟩ := p_gdE h
    obtain ⟨c6, h⟩ := p_gdE h
    refine g_aaload (i := 6) rfl (Or.inl ⟨_, rfl⟩) (dk_Step_letMergesChoose 11 rfl) c5 c6.1 c6.2 ?_
    refine g_iconst (dk_Step_letMergesChoose 12 rfl) (by decide) ?_
    obtain ⟨c7, h⟩ := p_gdE h
    refine g_putI fl_Step_161 (Or.inl rfl) (dk_Step_letMergesChoose 13 rfl) c7 ?_
    refine p_ltS (P := fun q => p_Go K l m_Step_letMergesChoose 26 [(0, p_r v0), (1, p_i v1)] [] q _) (p_xZ _ _ _ _) ?_ h
    intro s8 hs9 h
    refine g_iinc (j := 1) [(1, p_i (p_w (v1 + 1))), (0, p_r v0)] (dk_Step_letMergesChoose 14 rfl) rfl (by decide) rfl ?_
    refine p_ltG (P := fun q => p_Go K l m_Step_letMergesChoose 29 [(1, p_i q), (0, p_r v0)] [] s8 _) ?_ h
    intro x10 h
    refine g_goto 2 (dk_Step_letMergesChoose 15 rfl) (by decide) ?_
    refine g_sub [(0, p_r v0), (1, p_i x10)] [1, 0] rfl ?_
    exact hk2 v0 x10 s8 _ h
set_option maxRecDepth 100000 in
set_option maxHeartbeats 4000000 in
theorem tO_Step_letMergesChoose_2 (K : p_K) (l : Launch)  : ∀ (n : Nat) (v0 : Nat) (v1 : Int) (s0 : p_Hp) (r : p_Hp), O_Step_letMergesChoose_2 n v0 v1 s0 = some r → p_Go K l m_Step_letMergesChoose 2 [(0, p_r v0), (1, p_i v1)] [] s0 (none, r) := by
  intro n
  induction n with
  | zero => intro v0 v1 s0 r h; cases (show (none : Option p_Hp) = some r from h)
  | succ n ih => intro v0 v1 s0 r h; exact tL_Step_letMergesChoose_2 K l _ ih v0 v1 s0 r h
set_option maxRecDepth 100000 in
set_option maxHeartbeats 4000000 in
theorem tF_Step_letMergesChoose (K : p_K) (l : Launch) (v0 : Nat) (s0 : p_Hp) (r : p_Hp) (h : F_Step_letMergesChoose v0 s0 = some r) : p_Ct K l m_Step_letMergesChoose [p_r v0] s0 (none, r) := by
  refine p_Ct.of (by decide) (Nat.le_of_ble_eq_true rfl) ?_
  unfold F_Step_letMergesChoose at h
  show p_Go K l m_Step_letMergesChoose 0 [(0, p_r v0)] [] s0 _
  refine g_iconst (dk_Step_letMergesChoose 0 rfl) (by decide) ?_
  refine g_istore_n (i := 1) [(1, p_i 0), (0, p_r v0)] (dk_Step_letMergesChoose 1 rfl) rfl (by decide) rfl ?_
  refine g_sub [(0, p_r v0), (1, p_i 0)] [1, 0] rfl ?_
  exact tO_Step_letMergesChoose_2 K l 3000 v0 0 s0 _ h
def m_Gear_becomeAs : p_Me := (⟨"SortWorks$Gear", "becomeAs", "(LSortWorks$Gear;)V"⟩, prog_2_method_4_code, 2, none, 1, 60)
theorem mt_Gear_becomeAs : p_Mt m_Gear_becomeAs 1 := ⟨p_mem (p_tb4 (List.mem_of_getElem? (i := 142) rfl)) rfl, tw_1_5, by decide +kernel, by decide +kernel, by decide +kernel⟩
def dt_Gear_becomeAs : List (Nat × Instr × Nat) := [(0, .aload_n 0, 1), (1, .aload_n 1, 1), (2, .getfield 38, 3), (5, .putfield 38, 3), (8, .aload_n 0, 1), (9, .aload_n 1, 1), (10, .getfield 41, 3), (13, .putfield 41, 3), (16, .aload_n 0, 1), (17, .aload_n 1, 1), (18, .getfield 45, 3), (21, .putfield 45, 3), (24, .aload_n 0, 1), (25, .aload_n 1, 1), (26, .getfield 48, 3), (29, .putfield 48, 3), (32, .aload_n 0, 1), (33, .aload_n 1, 1), (34, .getfield 51, 3), (37, .putfield 51, 3), (40, .aload_n 0, 1), (41, .aload_n 1, 1), (42, .getfield 54, 3), (45, .putfield 54, 3), (48, .aload_n 0, 1), (49, .aload_n 1, 1), (50, .getfield 57, 3), (53, .putfield 57, 3), (56, .aload_n 0, 1), (57, .aload_n 1, 1), (58, .getfield 60, 3), (61, .putfield 60, 3), (64, .aload_n 0, 1), (65, .aload_n 1, 1), (66, .getfield 63, 3), (69, .putfield 63, 3), (72, .aload_n 0, 1), (73, .aload_n 1, 1), (74, .getfield 9, 3), (77, .putfield 9, 3), (80, .aload_n 0, 1), (81, .aload_n 1, 1), (82, .getfield 66, 3), (85, .putfield 66, 3), (88, .aload_n 1, 1), (89, .getfield 15, 3), (92, .iconst 0, 1), (93, .aload_n 0, 1), (94, .getfield 15, 3), (97, .iconst 0, 1), (98, .bipush 8, 2), (100, .invokestatic 85, 3), (103, .return_, 1)]
theorem dk_Gear_becomeAs (i : Nat) {pc : Nat} {ins : Instr} {len : Nat} (h : dt_Gear_becomeAs[i]? = some (pc, ins, len)) : decode m_Gear_becomeAs.2.1 pc = .ok (ins, len) := p_dk (b := m_Gear_becomeAs.2.1) (t := dt_Gear_becomeAs) (by decide +kernel) i h
def F_Gear_becomeAs (v0 : Nat) (v1 : Nat) (s0 : p_Hp) : Option p_Hp :=
  p_gd (p_is s0 v1 0) <|
  p_gd (p_is s0 v0 0) <|
  p_bi (p_wZ s0 v0 6 (p_Z s0 v1 6)) fun s3 =>
  p_gd ((p_Z s3 v1 7) = 0 ∨ (p_Z s3 v1 7) = 1) <|
  p_bi (p_wZ s3 v0 7 (p_Z s3 v1 7)) fun s6 =>
  p_bi (p_wZ s6 v0 8 (p_Z s6 v1 8)) fun s8 =>
  p_bi (p_wZ s8 v0 9 (p_Z s8 v1 9)) fun s10 =>
  p_bi (p_wZ s10 v0 10 (p_Z s10 v1 10)) fun s12 =>
  p_bi (p_wZ s12 v0 11 (p_Z s12 v1 11)) fun s14 =>
  p_bi (p_wZ s14 v0 12 (p_Z s14 v1 12)) fun s16 =>
  p_bi (p_wZ s16 v0 13 (p_Z s16 v1 13)) fun s18 =>
  p_bi (p_wZ s18 v0 14 (p_Z s18 v1 14)) fun s20 =>
  p_bi (p_wZ s20 v0 15 (p_Z s20 v1 15)) fun s22 =>
  p_bi (p_wZ s22 v0 16 (p_Z s22 v1 16)) fun s24 =>
  p_gd (p_is s24 (p_R s24 v1 17) 100) <|
  p_gd (p_is s24 (p_R s24 v0 17) 100) <|
  p_gd (0 ≤ 0 ∧ 0 ≤ 0 ∧ 0 ≤ 8 ∧ 0 + 8 ≤ (p_L s24 (p_R s24 v1 17) : Int) ∧ 0 + 8 ≤ (p_L s24 (p_R s24 v0 17) : Int)) <|
  p_bi (p_cp s24 (p_R s24 v1 17) (0 : Int).toNat (p_R s24 v0 17) (0 : Int).toNat (8 : Int).toNat) fun s29 =>
  some s29
set_option maxRecDepth 100000 in
set_option maxHeartbeats 4000000 in
theorem tF_Gear_becomeAs (K : p_K) (l : Launch) (v0 : Nat) (v1 : Nat) (s0 : p_Hp) (r : p_Hp) (h : F_Gear_becomeAs v0 v1 s0 = some r) : p_Ct K l m_Gear_becomeAs [p_r v0, p_r v1] s0 (none, r) := by
  refine p_Ct.of (by decide) (Nat.le_of_ble_eq_true rfl) ?_
  unfold F_Gear_becomeAs at h
  show p_Go K l m_Gear_becomeAs 0 [(0, p_r v0), (1, p_r v1)] [] s0 _
  refine g_aload_n (i := 0) (j := 0) (dk_Gear_becomeAs 0 rfl) rfl rfl ?_
  refine g_aload_n (i := 1) (j := 1) (dk_Gear_becomeAs 1 rfl) rfl rfl ?_
  obtain ⟨c1, h⟩ := p_gdE h
  refine g_getI fl_Gear_38 (Or.inl rfl) (dk_Gear_becomeAs 2 rfl) c1 ?_
  obtain ⟨c2, h⟩ := p_gdE h
  refine g_putI fl_Gear_38 (Or.inl rfl) (dk_Gear_becomeAs 3 rfl) c2 ?_
  refine p_ltS (P := fun q => p_Go K l m_Gear_becomeAs 8 [(0, p_r v0), (1, p_r v1)] [] q _) (p_xZ _ _ _ _) ?_ h
  intro s3 hs4 h
  refine g_aload_n (i := 0) (j := 0) (dk_Gear_becomeAs 4 rfl) rfl rfl ?_
  refine g_aload_n (i := 1) (j := 1) (dk_Gear_becomeAs 5 rfl) rfl rfl ?_
  refine g_getI fl_Gear_41 (Or.inr rfl) (dk_Gear_becomeAs 6 rfl) (c1.up hs4) ?_
  obtain ⟨c5, h⟩ := p_gdE h
  refine g_putB fl_Gear_41 (Or.inl rfl) (dk_Gear_becomeAs 7 rfl) (c2.up hs4) c5 ?_
  refine p_ltS (P := fun q => p_Go K l m_Gear_becomeAs 16 [(0, p_r v0), (1, p_r v1)] [] q _) (p_xZ _ _ _ _) ?_ h
  intro s6 hs7 h
  refine g_aload_n (i := 0) (j := 0) (dk_Gear_becomeAs 8 rfl) rfl rfl ?_
  refine g_aload_n (i := 1) (j := 1) (dk_Gear_becomeAs 9 rfl) rfl rfl ?_
  refine g_getI fl_Gear_45 (Or.inl rfl) (dk_Gear_becomeAs 10 rfl) (c1.up (hs4.trans hs7)) ?_
  refine g_putI fl_Gear_45 (Or.inl rfl) (dk_Gear_becomeAs 11 rfl) (c2.up (hs4.trans hs7)) ?_
  refine p_ltS (P := fun q => p_Go K l m_Gear_becomeAs 24 [(0, p_r v0), (1, p_r v1)] [] q _) (p_xZ _ _ _ _) ?_ h
  intro s8 hs9 h
  refine g_aload_n (i := 0) (j := 0) (dk_Gear_becomeAs 12 rfl) rfl rfl ?_
  refine g_aload_n (i := 1) (j := 1) (dk_Gear_becomeAs 13 rfl) rfl rfl ?_
  refine g_getI fl_Gear_48 (Or.inl rfl) (dk_Gear_becomeAs 14 rfl) (c1.up (hs4.trans (hs7.trans hs9))) ?_
  refine g_putI fl_Gear_48 (Or.inl rfl) (dk_Gear_becomeAs 15 rfl) (c2.up (hs4.trans (hs7.trans hs9))) ?_
  refine p_ltS (P := fun q => p_Go K l m_Gear_becomeAs 32 [(0, p_r v0), (1, p_r v1)] [] q _) (p_xZ _ _ _ _) ?_ h
  intro s10 hs11 h
  refine g_aload_n (i := 0) (j := 0) (dk_Gear_becomeAs 16 rfl) rfl rfl ?_
  refine g_aload_n (i := 1) (j := 1) (dk_Gear_becomeAs 17 rfl) rfl rfl ?_
  refine g_getI fl_Gear_51 (Or.inl rfl) (dk_Gear_becomeAs 18 rfl) (c1.up (hs4.trans (hs7.trans (hs9.trans hs11)))) ?_
  refine g_putI fl_Gear_51 (Or.inl rfl) (dk_Gear_becomeAs 19 rfl) (c2.up (hs4.trans (hs7.trans (hs9.trans hs11)))) ?_
  refine p_ltS (P := fun q => p_Go K l m_Gear_becomeAs 40 [(0, p_r v0), (1, p_r v1)] [] q _) (p_xZ _ _ _ _) ?_ h
  intro s12 hs13 h
  refine g_aload_n (i := 0) (j := 0) (dk_Gear_becomeAs 20 rfl) rfl rfl ?_
  refine g_aload_n (i := 1) (j := 1) (dk_Gear_becomeAs 21 rfl) rfl rfl ?_
  refine g_getI fl_Gear_54 (Or.inl rfl) (dk_Gear_becomeAs 22 rfl) (c1.up (hs4.trans (hs7.trans (hs9.trans (hs11.trans hs13))))) ?_
  refine g_putI fl_Gear_54 (Or.inl rfl) (dk_Gear_becomeAs 23 rfl) (c2.up (hs4.trans (hs7.trans (hs9.trans (hs11.trans hs13))))) ?_
  refine p_ltS (P := fun q => p_Go K l m_Gear_becomeAs 48 [(0, p_r v0), (1, p_r v1)] [] q _) (p_xZ _ _ _ _) ?_ h
  intro s14 hs15 h
  refine g_aload_n (i := 0) (j := 0) (dk_Gear_becomeAs 24 rfl) rfl rfl ?_
  refine g_aload_n (i := 1) (j := 1) (dk_Gear_becomeAs 25 rfl) rfl rfl ?_
  refine g_getI fl_Gear_57 (Or.inl rfl) (dk_Gear_becomeAs 26 rfl) (c1.up (hs4.trans (hs7.trans (hs9.trans (hs11.trans (hs13.trans hs15)))))) ?_
  refine g_putI fl_Gear_57 (Or.inl rfl) (dk_Gear_becomeAs 27 rfl) (c2.up (hs4.trans (hs7.trans (hs9.trans (hs11.trans (hs13.trans hs15)))))) ?_
  refine p_ltS (P := fun q => p_Go K l m_Gear_becomeAs 56 [(0, p_r v0), (1, p_r v1)] [] q _) (p_xZ _ _ _ _) ?_ h
  intro s16 hs17 h
  refine g_aload_n (i := 0) (j := 0) (dk_Gear_becomeAs 28 rfl) rfl rfl ?_
  refine g_aload_n (i := 1) (j := 1) (dk_Gear_becomeAs 29 rfl) rfl rfl ?_
  refine g_getI fl_Gear_60 (Or.inl rfl) (dk_Gear_becomeAs 30 rfl) (c1.up (hs4.trans (hs7.trans (hs9.trans (hs11.trans (hs13.trans (hs15.trans hs17))))))) ?_
  refine g_putI fl_Gear_60 (Or.inl rfl) (dk_Gear_becomeAs 31 rfl) (c2.up (hs4.trans (hs7.trans (hs9.trans (hs11.trans (hs13.trans (hs15.trans hs17))))))) ?_
  refine p_ltS (P := fun q => p_Go K l m_Gear_becomeAs 64 [(0, p_r v0), (1, p_r v1)] [] q _) (p_xZ _ _ _ _) ?_ h
  intro s18 hs19 h
  refine g_aload_n (i := 0) (j := 0) (dk_Gear_becomeAs 32 rfl) rfl rfl ?_
  refine g_aload_n (i := 1) (j := 1) (dk_Gear_becomeAs 33 rfl) rfl rfl ?_
  refine g_getI fl_Gear_63 (Or.inl rfl) (dk_Gear_becomeAs 34 rfl) (c1.up (hs4.trans (hs7.trans (hs9.trans (hs11.trans (hs13.trans (hs15.trans (hs17.trans hs19)))))))) ?_
  refine g_putI fl_Gear_63 (Or.inl rfl) (dk_Gear_becomeAs 35 rfl) (c2.up (hs4.trans (hs7.trans (hs9.trans (hs11.trans (hs13.trans (hs15.trans (hs17.trans hs19)))))))) ?_
  refine p_ltS (P := fun q => p_Go K l m_Gear_becomeAs 72 [(0, p_r v0), (1, p_r v1)] [] q _) (p_xZ _ _ _ _) ?_ h
  intro s20 hs21 h
  refine g_aload_n (i := 0) (j := 0) (dk_Gear_becomeAs 36 rfl) rfl rfl ?_
  refine g_aload_n (i := 1) (j := 1) (dk_Gear_becomeAs 37 rfl) rfl rfl ?_
  refine g_getI fl_Gear_9 (Or.inl rfl) (dk_Gear_becomeAs 38 rfl) (c1.up (hs4.trans (hs7.trans (hs9.trans (hs11.trans (hs13.trans (hs15.trans (hs17.trans (hs19.trans hs21))))))))) ?_
  refine g_putI fl_Gear_9 (Or.inl rfl) (dk_Gear_becomeAs 39 rfl) (c2.up (hs4.trans (hs7.trans (hs9.trans (hs11.trans (hs13.trans (hs15.trans (hs17.trans (hs19.trans hs21))))))))) ?_
  refine p_ltS (P := fun q => p_Go K l m_Gear_becomeAs 80 [(0, p_r v0), (1, p_r v1)] [] q _) (p_xZ _ _ _ _) ?_ h
  intro s22 hs23 h
  refine g_aload_n (i := 0) (j := 0) (dk_Gear_becomeAs 40 rfl) rfl rfl ?_
  refine g_aload_n (i := 1) (j := 1) (dk_Gear_becomeAs 41 rfl) rfl rfl ?_
  refine g_getI fl_Gear_66 (Or.inl rfl) (dk_Gear_becomeAs 42 rfl) (c1.up (hs4.trans (hs7.trans (hs9.trans (hs11.trans (hs13.trans (hs15.trans (hs17.trans (hs19.trans (hs21.trans hs23)))))))))) ?_
  refine g_putI fl_Gear_66 (Or.inl rfl) (dk_Gear_becomeAs 43 rfl) (c2.up (hs4.trans (hs7.trans (hs9.trans (hs11.trans (hs13.trans (hs15.trans (hs17.trans (hs19.trans (hs21.trans hs23)))))))))) ?_
  refine p_ltS (P := fun q => p_Go K l m_Gear_becomeAs 88 [(0, p_r v0), (1, p_r v1)] [] q _) (p_xZ _ _ _ _) ?_ h
  intro s24 hs25 h
  refine g_aload_n (i := 1) (j := 1) (dk_Gear_becomeAs 44 rfl) rfl rfl ?_
  refine g_getR fl_Gear_15 (Or.inr ⟨_, rfl⟩) (dk_Gear_becomeAs 45 rfl) (c1.up (hs4.trans (hs7.trans (hs9.trans (hs11.trans (hs13.trans (hs15.trans (hs17.trans (hs19.trans (hs21.trans (hs23.trans hs25))))))))))) ?_
  refine g_iconst (dk_Gear_becomeAs 46 rfl) (by decide) ?_
  refine g_aload_n (i := 0) (j := 0) (dk_Gear_becomeAs 47 rfl) rfl rfl ?_
  refine g_getR fl_Gear_15 (Or.inr ⟨_, rfl⟩) (dk_Gear_becomeAs 48 rfl) (c2.up (hs4.trans (hs7.trans (hs9.trans (hs11.trans (hs13.trans (hs15.trans (hs17.trans (hs19.trans (hs21.trans (hs23.trans hs25))))))))))) ?_
  refine g_iconst (dk_Gear_becomeAs 49 rfl) (by decide) ?_
  refine g_bipush (dk_Gear_becomeAs 50 rfl) rfl (by decide) ?_
  obtain ⟨c26, h⟩ := p_gdE h
  obtain ⟨c27, h⟩ := p_gdE h
  obtain ⟨c28, h⟩ := p_gdE h
  refine g_arraycopy tw_4_143 tw_3_165 tw_3_164 tw_1_15 (dk_Gear_becomeAs 51 rfl) (Nat.le_of_ble_eq_true rfl) (Nat.le_of_ble_eq_true rfl) c26 c27 c28.1 c28.2.1 c28.2.2.1 c28.2.2.2.1 c28.2.2.2.2 ?_
  refine p_ltS (P := fun q => p_Go K l m_Gear_becomeAs 103 [(0, p_r v0), (1, p_r v1)] [] q _) (p_xC _ _ _ _ _ _) ?_ h
  intro s29 hs30 h
  cases h
  exact g_ret rfl rfl (dk_Gear_becomeAs 52 rfl) (fun _ => rfl)
def m_Log_becomeAs : p_Me := (⟨"SortWorks$Log", "becomeAs", "(LSortWorks$Log;)V"⟩, prog_4_method_4_code, 2, none, 1, 60)
theorem mt_Log_becomeAs : p_Mt m_Log_becomeAs 1 := ⟨p_mem (p_tb4 (List.mem_of_getElem? (i := 153) rfl)) rfl, tw_1_4, by decide +kernel, by decide +kernel, by decide +kernel⟩
def dt_Log_becomeAs : List (Nat × Instr × Nat) := [(0, .aload_n 0, 1), (1, .aload_n 1, 1), (2, .getfield 22, 3), (5, .putfield 22, 3), (8, .aload_n 1, 1), (9, .getfield 18, 3), (12, .iconst 0, 1), (13, .aload_n 0, 1), (14, .getfield 18, 3), (17, .iconst 0, 1), (18, .aload_n 0, 1), (19, .getfield 18, 3), (22, .arraylength, 1), (23, .invokestatic 25, 3), (26, .return_, 1)]
theorem dk_Log_becomeAs (i : Nat) {pc : Nat} {ins : Instr} {len : Nat} (h : dt_Log_becomeAs[i]? = some (pc, ins, len)) : decode m_Log_becomeAs.2.1 pc = .ok (ins, len) := p_dk (b := m_Log_becomeAs.2.1) (t := dt_Log_becomeAs) (by decide +kernel) i h
def F_Log_becomeAs (v0 : Nat) (v1 : Nat) (s0 : p_Hp) : Option p_Hp :=
  p_gd (p_is s0 v1 2) <|
  p_gd (p_is s0 v0 2) <|
  p_bi (p_wZ s0 v0 3 (p_Z s0 v1 3)) fun s3 =>
  p_gd (p_is s3 (p_R s3 v0 2) 100) <|
  p_gd (p_is s3 (p_R s3 v1 2) 100) <|
  p_gd (0 ≤ 0 ∧ 0 ≤ 0 ∧ 0 ≤ (p_L s3 (p_R s3 v0 2) : Int) ∧ 0 + (p_L s3 (p_R s3 v0 2) : Int) ≤ (p_L s3 (p_R s3 v1 2) : Int) ∧ 0 + (p_L s3 (p_R s3 v0 2) : Int) ≤ (p_L s3 (p_R s3 v0 2) : Int)) <|
  p_bi (p_cp s3 (p_R s3 v1 2) (0 : Int).toNat (p_R s3 v0 2) (0 : Int).toNat ((p_L s3 (p_R s3 v0 2) : Int) : Int).toNat) fun s8 =>
  some s8
set_option maxRecDepth 100000 in
set_option maxHeartbeats 4000000 in
theorem tF_Log_becomeAs (K : p_K) (l : Launch) (v0 : Nat) (v1 : Nat) (s0 : p_Hp) (r : p_Hp) (h : F_Log_becomeAs v0 v1 s0 = some r) : p_Ct K l m_Log_becomeAs [p_r v0, p_r v1] s0 (none, r) := by
  refine p_Ct.of (by decide) (Nat.le_of_ble_eq_true rfl) ?_
  unfold F_Log_becomeAs at h
  show p_Go K l m_Log_becomeAs 0 [(0, p_r v0), (1, p_r v1)] [] s0 _
  refine g_aload_n (i := 0) (j := 0) (dk_Log_becomeAs 0 rfl) rfl rfl ?_
  refine g_aload_n (i := 1) (j := 1) (dk_Log_becomeAs 1 rfl) rfl rfl ?_
  obtain ⟨c1, h⟩ := p_gdE h
  refine g_getI fl_Log_22 (Or.inl rfl) (dk_Log_becomeAs 2 rfl) c1 ?_
  obtain ⟨c2, h⟩ := p_gdE h
  refine g_putI fl_Log_22 (Or.inl rfl) (dk_Log_becomeAs 3 rfl) c2 ?_
  refine p_ltS (P := fun q => p_Go K l m_Log_becomeAs 8 [(0, p_r v0), (1, p_r v1)] [] q _) (p_xZ _ _ _ _) ?_ h
  intro s3 hs4 h
  refine g_aload_n (i := 1) (j := 1) (dk_Log_becomeAs 4 rfl) rfl rfl ?_
  refine g_getR fl_Log_18 (Or.inr ⟨_, rfl⟩) (dk_Log_becomeAs 5 rfl) (c1.up hs4) ?_
  refine g_iconst (dk_Log_becomeAs 6 rfl) (by decide) ?_
  refine g_aload_n (i := 0) (j := 0) (dk_Log_becomeAs 7 rfl) rfl rfl ?_
  refine g_getR fl_Log_18 (Or.inr ⟨_, rfl⟩) (dk_Log_becomeAs 8 rfl) (c2.up hs4) ?_
  refine g_iconst (dk_Log_becomeAs 9 rfl) (by decide) ?_
  refine g_aload_n (i := 0) (j := 0) (dk_Log_becomeAs 10 rfl) rfl rfl ?_
  refine g_getR fl_Log_18 (Or.inr ⟨_, rfl⟩) (dk_Log_becomeAs 11 rfl) (c2.up hs4) ?_
  obtain ⟨c5, h⟩ := p_gdE h
  refine g_alen (i := 0) rfl (dk_Log_becomeAs 12 rfl) c5 ?_
  obtain ⟨c6, h⟩ := p_gdE h
  obtain ⟨c7, h⟩ := p_gdE h
  refine g_arraycopy tw_4_154 tw_3_165 tw_3_164 tw_1_15 (dk_Log_becomeAs 13 rfl) (Nat.le_of_ble_eq_true rfl) (Nat.le_of_ble_eq_true rfl) c6 c5 c7.1 c7.2.1 c7.2.2.1 c7.2.2.2.1 c7.2.2.2.2 ?_
  refine p_ltS (P := fun q => p_Go K l m_Log_becomeAs 26 [(0, p_r v0), (1, p_r v1)] [] q _) (p_xC _ _ _ _ _ _) ?_ h
  intro s8 hs9 h
  cases h
  exact g_ret rfl rfl (dk_Log_becomeAs 14 rfl) (fun _ => rfl)
def m_Parcel_becomeAs : p_Me := (⟨"SortWorks$Parcel", "becomeAs", "(LSortWorks$Parcel;)V"⟩, prog_6_method_2_code, 2, none, 1, 60)
theorem mt_Parcel_becomeAs : p_Mt m_Parcel_becomeAs 1 := ⟨p_mem (p_tb4 (List.mem_of_getElem? (i := 147) rfl)) rfl, tw_1_6, by decide +kernel, by decide +kernel, by decide +kernel⟩
def dt_Parcel_becomeAs : List (Nat × Instr × Nat) := [(0, .aload_n 0, 1), (1, .aload_n 1, 1), (2, .getfield 22, 3), (5, .putfield 22, 3), (8, .aload_n 0, 1), (9, .aload_n 1, 1), (10, .getfield 25, 3), (13, .putfield 25, 3), (16, .aload_n 0, 1), (17, .aload_n 1, 1), (18, .getfield 28, 3), (21, .putfield 28, 3), (24, .aload_n 0, 1), (25, .aload_n 1, 1), (26, .getfield 31, 3), (29, .putfield 31, 3), (32, .aload_n 0, 1), (33, .aload_n 1, 1), (34, .getfield 34, 3), (37, .putfield 34, 3), (40, .aload_n 0, 1), (41, .aload_n 1, 1), (42, .getfield 37, 3), (45, .putfield 37, 3), (48, .aload_n 0, 1), (49, .aload_n 1, 1), (50, .getfield 40, 3), (53, .putfield 40, 3), (56, .aload_n 0, 1), (57, .aload_n 1, 1), (58, .getfield 44, 3), (61, .putfield 44, 3), (64, .aload_n 1, 1), (65, .getfield 9, 3), (68, .iconst 0, 1), (69, .aload_n 0, 1), (70, .getfield 9, 3), (73, .iconst 0, 1), (74, .bipush 16, 2), (76, .invokestatic 47, 3), (79, .aload_n 0, 1), (80, .aload_n 1, 1), (81, .getfield 53, 3), (84, .putfield 53, 3), (87, .aload_n 1, 1), (88, .getfield 15, 3), (91, .iconst 0, 1), (92, .aload_n 0, 1), (93, .getfield 15, 3), (96, .iconst 0, 1), (97, .bipush 12, 2), (99, .invokestatic 47, 3), (102, .return_, 1)]
theorem dk_Parcel_becomeAs (i : Nat) {pc : Nat} {ins : Instr} {len : Nat} (h : dt_Parcel_becomeAs[i]? = some (pc, ins, len)) : decode m_Parcel_becomeAs.2.1 pc = .ok (ins, len) := p_dk (b := m_Parcel_becomeAs.2.1) (t := dt_Parcel_becomeAs) (by decide +kernel) i h
def F_Parcel_becomeAs (v0 : Nat) (v1 : Nat) (s0 : p_Hp) : Option p_Hp :=
  p_gd (p_is s0 v1 4) <|
  p_gd (p_is s0 v0 4) <|
  p_bi (p_wZ s0 v0 1 (p_Z s0 v1 1)) fun s3 =>
  p_bi (p_wZ s3 v0 2 (p_Z s3 v1 2)) fun s5 =>
  p_bi (p_wZ s5 v0 3 (p_Z s5 v1 3)) fun s7 =>
  p_bi (p_wZ s7 v0 4 (p_Z s7 v1 4)) fun s9 =>
  p_bi (p_wZ s9 v0 5 (p_Z s9 v1 5)) fun s11 =>
  p_bi (p_wZ s11 v0 6 (p_Z s11 v1 6)) fun s13 =>
  p_gd ((p_Z s13 v1 7) = 0 ∨ (p_Z s13 v1 7) = 1) <|
  p_bi (p_wZ s13 v0 7 (p_Z s13 v1 7)) fun s16 =>
  p_bi (p_wZ s16 v0 9 (p_Z s16 v1 9)) fun s18 =>
  p_gd (p_is s18 (p_R s18 v1 10) 100) <|
  p_gd (p_is s18 (p_R s18 v0 10) 100) <|
  p_gd (0 ≤ 0 ∧ 0 ≤ 0 ∧ 0 ≤ 16 ∧ 0 + 16 ≤ (p_L s18 (p_R s18 v1 10) : Int) ∧ 0 + 16 ≤ (p_L s18 (p_R s18 v0 10) : Int)) <|
  p_bi (p_cp s18 (p_R s18 v1 10) (0 : Int).toNat (p_R s18 v0 10) (0 : Int).toNat (16 : Int).toNat) fun s23 =>
  p_bi (p_wZ s23 v0 11 (p_Z s23 v1 11)) fun s25 =>
  p_gd (p_is s25 (p_R s25 v1 12) 100) <|
  p_gd (p_is s25 (p_R s25 v0 12) 100) <|
  p_gd (0 ≤ 0 ∧ 0 ≤ 0 ∧ 0 ≤ 12 ∧ 0 + 12 ≤ (p_L s25 (p_R s25 v1 12) : Int) ∧ 0 + 12 ≤ (p_L s25 (p_R s25 v0 12) : Int)) <|
  p_bi (p_cp s25 (p_R s25 v1 12) (0 : Int).toNat (p_R s25 v0 12) (0 : Int).toNat (12 : Int).toNat) fun s30 =>
  some s30
set_option maxRecDepth 100000 in
set_option maxHeartbeats 4000000 in
theorem tF_Parcel_becomeAs (K : p_K) (l : Launch) (v0 : Nat) (v1 : Nat) (s0 : p_Hp) (r : p_Hp) (h : F_Parcel_becomeAs v0 v1 s0 = some r) : p_Ct K l m_Parcel_becomeAs [p_r v0, p_r v1] s0 (none, r) := by
  refine p_Ct.of (by decide) (Nat.le_of_ble_eq_true rfl) ?_
  unfold F_Parcel_becomeAs at h
  show p_Go K l m_Parcel_becomeAs 0 [(0, p_r v0), (1, p_r v1)] [] s0 _
  refine g_aload_n (i := 0) (j := 0) (dk_Parcel_becomeAs 0 rfl) rfl rfl ?_
  refine g_aload_n (i := 1) (j := 1) (dk_Parcel_becomeAs 1 rfl) rfl rfl ?_
  obtain ⟨c1, h⟩ := p_gdE h
  refine g_getI fl_Parcel_22 (Or.inl rfl) (dk_Parcel_becomeAs 2 rfl) c1 ?_
  obtain ⟨c2, h⟩ := p_gdE h
  refine g_putI fl_Parcel_22 (Or.inl rfl) (dk_Parcel_becomeAs 3 rfl) c2 ?_
  refine p_ltS (P := fun q => p_Go K l m_Parcel_becomeAs 8 [(0, p_r v0), (1, p_r v1)] [] q _) (p_xZ _ _ _ _) ?_ h
  intro s3 hs4 h
  refine g_aload_n (i := 0) (j := 0) (dk_Parcel_becomeAs 4 rfl) rfl rfl ?_
  refine g_aload_n (i := 1) (j := 1) (dk_Parcel_becomeAs 5 rfl) rfl rfl ?_
  refine g_getI fl_Parcel_25 (Or.inl rfl) (dk_Parcel_becomeAs 6 rfl) (c1.up hs4) ?_
  refine g_putI fl_Parcel_25 (Or.inl rfl) (dk_Parcel_becomeAs 7 rfl) (c2.up hs4) ?_
  refine p_ltS (P := fun q => p_Go K l m_Parcel_becomeAs 16 [(0, p_r v0), (1, p_r v1)] [] q _) (p_xZ _ _ _ _) ?_ h
  intro s5 hs6 h
  refine g_aload_n (i := 0) (j := 0) (dk_Parcel_becomeAs 8 rfl) rfl rfl ?_
  refine g_aload_n (i := 1) (j := 1) (dk_Parcel_becomeAs 9 rfl) rfl rfl ?_
  refine g_getI fl_Parcel_28 (Or.inl rfl) (dk_Parcel_becomeAs 10 rfl) (c1.up (hs4.trans hs6)) ?_
  refine g_putI fl_Parcel_28 (Or.inl rfl) (dk_Parcel_becomeAs 11 rfl) (c2.up (hs4.trans hs6)) ?_
  refine p_ltS (P := fun q => p_Go K l m_Parcel_becomeAs 24 [(0, p_r v0), (1, p_r v1)] [] q _) (p_xZ _ _ _ _) ?_ h
  intro s7 hs8 h
  refine g_aload_n (i := 0) (j := 0) (dk_Parcel_becomeAs 12 rfl) rfl rfl ?_
  refine g_aload_n (i := 1) (j := 1) (dk_Parcel_becomeAs 13 rfl) rfl rfl ?_
  refine g_getI fl_Parcel_31 (Or.inl rfl) (dk_Parcel_becomeAs 14 rfl) (c1.up (hs4.trans (hs6.trans hs8))) ?_
  refine g_putI fl_Parcel_31 (Or.inl rfl) (dk_Parcel_becomeAs 15 rfl) (c2.up (hs4.trans (hs6.trans hs8))) ?_
  refine p_ltS (P := fun q => p_Go K l m_Parcel_becomeAs 32 [(0, p_r v0), (1, p_r v1)] [] q _) (p_xZ _ _ _ _) ?_ h
  intro s9 hs10 h
  refine g_aload_n (i := 0) (j := 0) (dk_Parcel_becomeAs 16 rfl) rfl rfl ?_
  refine g_aload_n (i := 1) (j := 1) (dk_Parcel_becomeAs 17 rfl) rfl rfl ?_
  refine g_getI fl_Parcel_34 (Or.inl rfl) (dk_Parcel_becomeAs 18 rfl) (c1.up (hs4.trans (hs6.trans (hs8.trans hs10)))) ?_
  refine g_putI fl_Parcel_34 (Or.inl rfl) (dk_Parcel_becomeAs 19 rfl) (c2.up (hs4.trans (hs6.trans (hs8.trans hs10)))) ?_
  refine p_ltS (P := fun q => p_Go K l m_Parcel_becomeAs 40 [(0, p_r v0), (1, p_r v1)] [] q _) (p_xZ _ _ _ _) ?_ h
  intro s11 hs12 h
  refine g_aload_n (i := 0) (j := 0) (dk_Parcel_becomeAs 20 rfl) rfl rfl ?_
  refine g_aload_n (i := 1) (j := 1) (dk_Parcel_becomeAs 21 rfl) rfl rfl ?_
  refine g_getI fl_Parcel_37 (Or.inl rfl) (dk_Parcel_becomeAs 22 rfl) (c1.up (hs4.trans (hs6.trans (hs8.trans (hs10.trans hs12))))) ?_
  refine g_putI fl_Parcel_37 (Or.inl rfl) (dk_Parcel_becomeAs 23 rfl) (c2.up (hs4.trans (hs6.trans (hs8.trans (hs10.trans hs12))))) ?_
  refine p_ltS (P := fun q => p_Go K l m_Parcel_becomeAs 48 [(0, p_r v0), (1, p_r v1)] [] q _) (p_xZ _ _ _ _) ?_ h
  intro s13 hs14 h
  refine g_aload_n (i := 0) (j := 0) (dk_Parcel_becomeAs 24 rfl) rfl rfl ?_
  refine g_aload_n (i := 1) (j := 1) (dk_Parcel_becomeAs 25 rfl) rfl rfl ?_
  refine g_getI fl_Parcel_40 (Or.inr rfl) (dk_Parcel_becomeAs 26 rfl) (c1.up (hs4.trans (hs6.trans (hs8.trans (hs10.trans (hs12.trans hs14)))))) ?_
  obtain ⟨c15, h⟩ := p_gdE h
  refine g_putB fl_Parcel_40 (Or.inl rfl) (dk_Parcel_becomeAs 27 rfl) (c2.up (hs4.trans (hs6.trans (hs8.trans (hs10.trans (hs12.trans hs14)))))) c15 ?_
  refine p_ltS (P := fun q => p_Go K l m_Parcel_becomeAs 56 [(0, p_r v0), (1, p_r v1)] [] q _) (p_xZ _ _ _ _) ?_ h
  intro s16 hs17 h
  refine g_aload_n (i := 0) (j := 0) (dk_Parcel_becomeAs 28 rfl) rfl rfl ?_
  refine g_aload_n (i := 1) (j := 1) (dk_Parcel_becomeAs 29 rfl) rfl rfl ?_
  refine g_getI fl_Parcel_44 (Or.inl rfl) (dk_Parcel_becomeAs 30 rfl) (c1.up (hs4.trans (hs6.trans (hs8.trans (hs10.trans (hs12.trans (hs14.trans hs17))))))) ?_
  refine g_putI fl_Parcel_44 (Or.inl rfl) (dk_Parcel_becomeAs 31 rfl) (c2.up (hs4.trans (hs6.trans (hs8.trans (hs10.trans (hs12.trans (hs14.trans hs17))))))) ?_
  refine p_ltS (P := fun q => p_Go K l m_Parcel_becomeAs 64 [(0, p_r v0), (1, p_r v1)] [] q _) (p_xZ _ _ _ _) ?_ h
  intro s18 hs19 h
  refine g_aload_n (i := 1) (j := 1) (dk_Parcel_becomeAs 32 rfl) rfl rfl ?_
  refine g_getR fl_Parcel_9 (Or.inr ⟨_, rfl⟩) (dk_Parcel_becomeAs 33 rfl) (c1.up (hs4.trans (hs6.trans (hs8.trans (hs10.trans (hs12.trans (hs14.trans (hs17.trans hs19)))))))) ?_
  refine g_iconst (dk_Parcel_becomeAs 34 rfl) (by decide) ?_
  refine g_aload_n (i := 0) (j := 0) (dk_Parcel_becomeAs 35 rfl) rfl rfl ?_
  refine g_getR fl_Parcel_9 (Or.inr ⟨_, rfl⟩) (dk_Parcel_becomeAs 36 rfl) (c2.up (hs4.trans (hs6.trans (hs8.trans (hs10.trans (hs12.trans (hs14.trans (hs17.trans hs19)))))))) ?_
  refine g_iconst (dk_Parcel_becomeAs 37 rfl) (by decide) ?_
  refine g_bipush (dk_Parcel_becomeAs 38 rfl) rfl (by decide) ?_
  obtain ⟨c20, h⟩ := p_gdE h
  obtain ⟨c21, h⟩ := p_gdE h
  obtain ⟨c22, h⟩ := p_gdE h
  refine g_arraycopy tw_4_148 tw_3_165 tw_3_164 tw_1_15 (dk_Parcel_becomeAs 39 rfl) (Nat.le_of_ble_eq_true rfl) (Nat.le_of_ble_eq_true rfl) c20 c21 c22.1 c22.2.1 c22.2.2.1 c22.2.2.2.1 c22.2.2.2.2 ?_
  refine p_ltS (P := fun q => p_Go K l m_Parcel_becomeAs 79 [(0, p_r v0), (1, p_r v1)] [] q _) (p_xC _ _ _ _ _ _) ?_ h
  intro s23 hs24 h
  refine g_aload_n (i := 0) (j := 0) (dk_Parcel_becomeAs 40 rfl) rfl rfl ?_
  refine g_aload_n (i := 1) (j := 1) (dk_Parcel_becomeAs 41 rfl) rfl rfl ?_
  refine g_getI fl_Parcel_53 (Or.inl rfl) (dk_Parcel_becomeAs 42 rfl) (c1.up (hs4.trans (hs6.trans (hs8.trans (hs10.trans (hs12.trans (hs14.trans (hs17.trans (hs19.trans hs24))))))))) ?_
  refine g_putI fl_Parcel_53 (Or.inl rfl) (dk_Parcel_becomeAs 43 rfl) (c2.up (hs4.trans (hs6.trans (hs8.trans (hs10.trans (hs12.trans (hs14.trans (hs17.trans (hs19.trans hs24))))))))) ?_
  refine p_ltS (P := fun q => p_Go K l m_Parcel_becomeAs 87 [(0, p_r v0), (1, p_r v1)] [] q _) (p_xZ _ _ _ _) ?_ h
  intro s25 hs26 h
  refine g_aload_n (i := 1) (j := 1) (dk_Parcel_becomeAs 44 rfl) rfl rfl ?_
  refine g_getR fl_Parcel_15 (Or.inr ⟨_, rfl⟩) (dk_Parcel_becomeAs 45 rfl) (c1.up (hs4.trans (hs6.trans (hs8.trans (hs10.trans (hs12.trans (hs14.trans (hs17.trans (hs19.trans (hs24.trans hs26)))))))))) ?_
  refine g_iconst (dk_Parcel_becomeAs 46 rfl) (by decide) ?_
  refine g_aload_n (i := 0) (j := 0) (dk_Parcel_becomeAs 47 rfl) rfl rfl ?_
  refine g_getR fl_Parcel_15 (Or.inr ⟨_, rfl⟩) (dk_Parcel_becomeAs 48 rfl) (c2.up (hs4.trans (hs6.trans (hs8.trans (hs10.trans (hs12.trans (hs14.trans (hs17.trans (hs19.trans (hs24.trans hs26)))))))))) ?_
  refine g_iconst (dk_Parcel_becomeAs 49 rfl) (by decide) ?_
  refine g_bipush (dk_Parcel_becomeAs 50 rfl) rfl (by decide) ?_
  obtain ⟨c27, h⟩ := p_gdE h
  obtain ⟨c28, h⟩ := p_gdE h
  obtain ⟨c29, h⟩ := p_gdE h
  refine g_arraycopy tw_4_148 tw_3_165 tw_3_164 tw_1_15 (dk_Parcel_becomeAs 51 rfl) (Nat.le_of_ble_eq_true rfl) (Nat.le_of_ble_eq_true rfl) c27 c28 c29.1 c29.2.1 c29.2.2.1 c29.2.2.2.1 c29.2.2.2.2 ?_
  refine p_ltS (P := fun q => p_Go K l m_Parcel_becomeAs 102 [(0, p_r v0), (1, p_r v1)] [] q _) (p_xC _ _ _ _ _ _) ?_ h
  intro s30 hs31 h
  cases h
  exact g_ret rfl rfl (dk_Parcel_becomeAs 52 rfl) (fun _ => rfl)
def m_State_becomeAs : p_Me := (⟨"SortWorks$State", "becomeAs", "(LSortWorks$State;I)V"⟩, prog_9_method_2_code, 4, none, 2, 81)
theorem mt_State_becomeAs : p_Mt m_State_becomeAs 2 := ⟨p_mem (p_tb4 (List.mem_of_getElem? (i := 138) rfl)) rfl, tw_1_3, by decide +kernel, by decide +kernel, by decide +kernel⟩
def dt_State_becomeAs : List (Nat × Instr × Nat) := [(0, .aload_n 0, 1), (1, .aload_n 1, 1), (2, .getfield 43, 3), (5, .putfield 43, 3), (8, .aload_n 0, 1), (9, .aload_n 1, 1), (10, .getfield 47, 3), (13, .putfield 47, 3), (16, .aload_n 0, 1), (17, .aload_n 1, 1), (18, .getfield 50, 3), (21, .putfield 50, 3), (24, .aload_n 0, 1), (25, .aload_n 1, 1), (26, .getfield 53, 3), (29, .putfield 53, 3), (32, .iconst 0, 1), (33, .istore_n 3, 1), (34, .iload_n 3, 1), (35, .iload_n 2, 1), (36, .if_icmp .ge 24, 3), (39, .aload_n 0, 1), (40, .getfield 11, 3), (43, .iload_n 3, 1), (44, .aaload, 1), (45, .aload_n 1, 1), (46, .getfield 11, 3), (49, .iload_n 3, 1), (50, .aaload, 1), (51, .invokevirtual 56, 3), (54, .iinc 3 1, 3), (57, .goto (-23), 3), (60, .iconst 1, 1), (61, .istore_n 3, 1), (62, .iload_n 3, 1), (63, .bipush 30, 2), (65, .if_icmp .gt 49, 3), (68, .aload_n 1, 1), (69, .getfield 19, 3), (72, .iload_n 3, 1), (73, .aaload, 1), (74, .getfield 60, 3), (77, .ifCond .ne 16, 3), (80, .aload_n 0, 1), (81, .getfield 19, 3), (84, .iload_n 3, 1), (85, .aaload, 1), (86, .iconst 0, 1), (87, .putfield 60, 3), (90, .goto 18, 3), (93, .aload_n 0, 1), (94, .getfield 19, 3), (97, .iload_n 3, 1), (98, .aaload, 1), (99, .aload_n 1, 1), (100, .getfield 19, 3), (103, .iload_n 3, 1), (104, .aaload, 1), (105, .invokevirtual 63, 3), (108, .iinc 3 1, 3), (111, .goto (-49), 3), (114, .aload_n 1, 1), (115, .getfield 23, 3), (118, .iconst 0, 1), (119, .aload_n 0, 1), (120, .getfield 23, 3), (123, .iconst 0, 1), (124, .bipush 12, 2), (126, .invokestatic 66, 3), (129, .aload_n 0, 1), (130, .getfield 32, 3), (133, .aload_n 1, 1), (134, .getfield 32, 3), (137, .invokevirtual 72, 3), (140, .aload_n 0, 1), (141, .getfield 36, 3), (144, .aload_n 1, 1), (145, .getfield 36, 3), (148, .invokevirtual 72, 3), (151, .return_, 1)]
theorem dk_State_becomeAs (i : Nat) {pc : Nat} {ins : Instr} {len : Nat} (h : dt_State_becomeAs[i]? = some (pc, ins, len)) : decode m_State_becomeAs.2.1 pc = .ok (ins, len) := p_dk (b := m_State_becomeAs.2.1) (t := dt_State_becomeAs) (by decide +kernel) i h
def B_State_becomeAs_108 (k62 : Nat → Nat → Int → p_Hp → Option p_Hp) (v0 : Nat) (v1 : Nat) (v3 : Int) (s0 : p_Hp) : Option p_Hp :=
  p_bi (p_w (v3 + 1)) fun x1 =>
  k62 v0 v1 x1 s0
def L_State_becomeAs_62 (k62 : Nat → Nat → Int → p_Hp → Option p_Hp) (v0 : Nat) (v1 : Nat) (v3 : Int) (s0 : p_Hp) : Option p_Hp :=
  if 30 < v3 then
    p_gd (p_is s0 v1 7) <|
    p_gd (p_is s0 v0 7) <|
    p_gd (p_is s0 (p_R s0 v1 6) 100) <|
    p_gd (p_is s0 (p_R s0 v0 6) 100) <|
    p_gd (0 ≤ 0 ∧ 0 ≤ 0 ∧ 0 ≤ 12 ∧ 0 + 12 ≤ (p_L s0 (p_R s0 v1 6) : Int) ∧ 0 + 12 ≤ (p_L s0 (p_R s0 v0 6) : Int)) <|
    p_bi (p_cp s0 (p_R s0 v1 6) (0 : Int).toNat (p_R s0 v0 6) (0 : Int).toNat (12 : Int).toNat) fun s7 =>
    p_gd (p_is s7 (p_R s7 v0 7) 2) <|
    p_bv (F_Log_becomeAs (p_R s7 v0 7) (p_R s7 v1 7) s7) fun s10 =>
    p_gd (p_is s10 (p_R s10 v0 8) 2) <|
    p_bv (F_Log_becomeAs (p_R s10 v0 8) (p_R s10 v1 8) s10) fun s15 =>
    some s15
  else
    p_gd (p_is s0 v1 7) <|
    p_gd (p_is s0 (p_R s0 v1 5) 107) <|
    p_gd (0 ≤ v3 ∧ v3 < (p_L s0 (p_R s0 v1 5) : Int)) <|
    p_gd (p_is s0 (p_R s0 (p_R s0 v1 5) (v3).toNat) 4) <|
    if (p_Z s0 (p_R s0 (p_R s0 v1 5) (v3).toNat) 1) ≠ 0 then
      p_gd (p_is s0 v0 7) <|
      p_gd (p_is s0 (p_R s0 v0 5) 107) <|
      p_gd (0 ≤ v3 ∧ v3 < (p_L s0 (p_R s0 v0 5) : Int)) <|
      p_gd (0 ≤ v3 ∧ v3 < (p_L s0 (p_R s0 v1 5) : Int)) <|
      p_gd (p_is s0 (p_R s0 (p_R s0 v0 5) (v3).toNat) 4) <|
      p_bv (F_Parcel_becomeAs (p_R s0 (p_R s0 v0 5) (v3).toNat) (p_R s0 (p_R s0 v1 5) (v3).toNat) s0) fun s29 =>
      B_State_becomeAs_108 k62 v0 v1 v3 s29
    else
      p_gd (p_is s0 v0 7) <|
      p_gd (p_is s0 (p_R s0 v0 5) 107) <|
      p_gd (0 ≤ v3 ∧ v3 < (p_L s0 (p_R s0 v0 5) : Int)) <|
      p_gd (p_is s0 (p_R s0 (p_R s0 v0 5) (v3).toNat) 4) <|
      p_bi (p_wZ s0 (p_R s0 (p_R s0 v0 5) (v3).toNat) 1 0) fun s37 =>
      B_State_becomeAs_108 k62 v0 v1 v3 s37
def O_State_becomeAs_62  : Nat → Nat → Nat → Int → p_Hp → Option p_Hp
  | 0 => fun _ _ _ _ => none
  | n + 1 => L_State_becomeAs_62 (O_State_becomeAs_62 n)
def L_State_becomeAs_34 (k34 : Nat → Nat → Int → Int → p_Hp → Option p_Hp) (v0 : Nat) (v1 : Nat) (v2 : Int) (v3 : Int) (s0 : p_Hp) : Option p_Hp :=
  if v2 ≤ v3 then
    O_State_becomeAs_62 3000 v0 v1 1 s0
  else
    p_gd (p_is s0 v0 7) <|
    p_gd (p_is s0 (p_R s0 v0 4) 106) <|
    p_gd (0 ≤ v3 ∧ v3 < (p_L s0 (p_R s0 v0 4) : Int)) <|
    p_gd (p_is s0 v1 7) <|
    p_gd (p_is s0 (p_R s0 v1 4) 106) <|
    p_gd (0 ≤ v3 ∧ v3 < (p_L s0 (p_R s0 v1 4) : Int)) <|
    p_gd (p_is s0 (p_R s0 (p_R s0 v0 4) (v3).toNat) 0) <|
    p_bv (F_Gear_becomeAs (p_R s0 (p_R s0 v0 4) (v3).toNat) (p_R s0 (p_R s0 v1 4) (v3).toNat) s0) fun s9 =>
    p_bi (p_w (v3 + 1)) fun x13 =>
    k34 v0 v1 v2 x13 s9
def O_State_becomeAs_34  : Nat → Nat → Nat → Int → Int → p_Hp → Option p_Hp
  | 0 => fun _ _ _ _ _ => none
  | n + 1 => L_State_becomeAs_34 (O_State_becomeAs_34 n)
def F_State_becomeAs (v0 : Nat) (v1 : Nat) (v2 : Int) (s0 : p_Hp) : Option p_Hp :=
  p_gd (p_is s0 v1 7) <|
  p_gd (p_is s0 v0 7) <|
  p_bi (p_wZ s0 v0 0 (p_Z s0 v1 0)) fun s3 =>
  p_bi (p_wZ s3 v0 1 (p_Z s3 v1 1)) fun s5 =>
  p_bi (p_wZ s5 v0 2 (p_Z s5 v1 2)) fun s7 =>
  p_bi (p_wZ s7 v0 3 (p_Z s7 v1 3)) fun s9 =>
  O_State_becomeAs_34 3000 v0 v1 v2 0 s9
set_option maxRecDepth 100000 in
set_option maxHeartbeats 4000000 in
theorem tB_State_becomeAs_108 (K : p_K) (l : Launch) (k62 : Nat → Nat → Int → p_Hp → Option p_Hp) (hk62 : ∀ (v0 : Nat) (v1 : Nat) (v3 : Int)  (s0 : p_Hp) (r : p_Hp), k62 v0 v1 v3 s0 = some r → p_Go K l m_State_becomeAs 62 [(0, p_r v0), (1, p_r v1), (3, p_i v3)] [] s0 (none, r)) (v0 : Nat) (v1 : Nat) (v3 : Int) (s0 : p_Hp) (r : p_Hp) (h : B_State_becomeAs_108 k62 v0 v1 v3 s0 = some r) : p_Go K l m_State_becomeAs 108 [(0, p_r v0), (1, p_r v1), (3, p_i v3)] [] s0 (none, r) := by
  unfold B_State_becomeAs_108 at h
  refine g_iinc (j := 2) [(3, p_i (p_w (v3 + 1))), (0, p_r v0), (1, p_r v1)] (dk_State_becomeAs 59 rfl) rfl (by decide) rfl ?_
  refine p_ltG (P := fun q => p_Go K l m_State_becomeAs 111 [(3, p_i q), (0, p_r v0), (1, p_r v1)] [] s0 _) ?_ h
  intro x1 h
  refine g_goto 62 (dk_State_becomeAs 60 rfl) (by decide) ?_
  refine g_sub [(0, p_r v0), (1, p_r v1), (3, p_i x1)] [1, 2, 0] rfl ?_
  exact hk62 v0 v1 x1 s0 _ h
set_option maxRecDepth 100000 in
set_option maxHeartbeats 4000000 in
theorem tL_State_becomeAs_62 (K : p_K) (l : Launch) (k62 : Nat → Nat → Int → p_Hp → Option p_Hp) (hk62 : ∀ (v0 : Nat) (v1 : Nat) (v3 : Int)  (s0 : p_Hp) (r : p_Hp), k62 v0 v1 v3 s0 = some r → p_Go K l m_State_becomeAs 62 [(0, p_r v0), (1, p_r v1), (3, p_i v3)] [] s0 (none, r)) (v0 : Nat) (v1 : Nat) (v3 : Int) (s0 : p_Hp) (r : p_Hp) (h : L_State_becomeAs_62 k62 v0 v1 v3 s0 = some r) : p_Go K l m_State_becomeAs 62 [(0, p_r v0), (1, p_r v1), (3, p_i v3)] [] s0 (none, r) := by
  unfold L_State_becomeAs_62 at h
  refine g_iload_n (i := 3) (j := 2) (dk_State_becomeAs 34 rfl) rfl rfl ?_
  refine g_bipush (dk_State_becomeAs 35 rfl) rfl (by decide) ?_
  refine g_icmp_gt 114 (dk_State_becomeAs 36 rfl) (by decide) (fun b1 => ?_) (fun b1 => ?_)
  · have h := p_ifT b1 h
    refine g_aload_n (i := 1) (j := 1) (dk_State_becomeAs 61 rfl) rfl rfl ?_
    obtain ⟨c2, h⟩ := p_gdE h
    refine g_getR fl_State_23 (Or.inr ⟨_, rfl⟩) (dk_State_becomeAs 62 rfl) c2 ?_
    refine g_iconst (dk_State_becomeAs 63 rfl) (by decide) ?_
    refine g_aload_n (i := 0) (j := 0) (dk_State_becomeAs 64 rfl) rfl rfl ?_
    obtain ⟨c3, h⟩ := p_gdE h
    refine g_getR fl_State_23 (Or.inr ⟨_, rfl⟩) (dk_State_becomeAs 65 rfl) c3 ?_
    refine g_iconst (dk_State_becomeAs 66 rfl) (by decide) ?_
    refine g_bipush (dk_State_becomeAs 67 rfl) rfl (by decide) ?_
    obtain ⟨c4, h⟩ := p_gdE h
    obtain ⟨c5, h⟩ := p_gdE h
    obtain ⟨c6, h⟩ := p_gdE h
    refine g_arraycopy tw_4_149 tw_3_165 tw_3_164 tw_1_15 (dk_State_becomeAs 68 rfl) (Nat.le_of_ble_eq_true rfl) (Nat.le_of_ble_eq_true rfl) c4 c5 c6.1 c6.2.1 c6.2.2.1 c6.2.2.2.1 c6.2.2.2.2 ?_
    refine p_ltS (P := fun q => p_Go K l m_State_becomeAs 129 [(0, p_r v0), (1, p_r v1), (3, p_i v3)] [] q _) (p_xC _ _ _ _ _ _) ?_ h
    intro s7 hs8 h
    refine g_aload_n (i := 0) (j := 0) (dk_State_becomeAs 69 rfl) rfl rfl ?_
    refine g_getR fl_State_32 (Or.inl ⟨_, rfl⟩) (dk_State_becomeAs 70 rfl) (c3.up hs8) ?_
    refine g_aload_n (i := 1) (j := 1) (dk_State_becomeAs 71 rfl) rfl rfl ?_
    refine g_getR fl_State_32 (Or.inl ⟨_, rfl⟩) (dk_State_becomeAs 72 rfl) (c2.up hs8) ?_
    obtain ⟨c9, h⟩ := p_gdE h
    obtain ⟨s10, q11, h⟩ := p_bvE h
    have t12 := tF_Log_becomeAs K l (p_R s7 v0 7) (p_R s7 v1 7) s7 _ q11
    refine g_callV (a := (p_R s7 v0 7)) (ci := 2) (q0 := (RX2, TX2, 4)) (As := [p_r (p_R s7 v1 7)]) (rest := []) [] mt_Log_becomeAs rfl rfl tw_4_151 tw_4_152 tw_4_150 ⟨Nat.le_of_ble_eq_true rfl, Nat.le_of_ble_eq_true rfl⟩ rfl (Nat.le_of_ble_eq_true rfl) (dk_State_becomeAs 73 rfl) rfl c9 rfl t12 ?_
    have hs13 : p_x s7 s10 := t12.1
    show p_Go K l m_State_becomeAs 140 [(0, p_r v0), (1, p_r v1), (3, p_i v3)] [] s10 _
    refine g_aload_n (i := 0) (j := 0) (dk_State_becomeAs 74 rfl) rfl rfl ?_
    refine g_getR fl_State_36 (Or.inl ⟨_, rfl⟩) (dk_State_becomeAs 75 rfl) (c3.up (hs8.trans hs13)) ?_
    refine g_aload_n (i := 1) (j := 1) (dk_State_becomeAs 76 rfl) rfl rfl ?_
    refine g_getR fl_State_36 (Or.inl ⟨_, rfl⟩) (dk_State_becomeAs 77 rfl) (c2.up (hs8.trans hs13)) ?_
    obtain ⟨c14, h⟩ := p_gdE h
    obtain ⟨s15, q16, h⟩ := p_bvE h
    have t17 := tF_Log_becomeAs K l (p_R s10 v0 8) (p_R s10 v1 8) s10 _ q16
    refine g_callV (a := (p_R s10 v0 8)) (ci := 2) (q0 := (RX2, TX2, 4)) (As := [p_r (p_R s10 v1 8)]) (rest := []) [] mt_Log_becomeAs rfl rfl tw_4_151 tw_4_152 tw_4_150 ⟨Nat.le_of_ble_eq_true rfl, Nat.le_of_ble_eq_true rfl⟩ rfl (Nat.le_of_ble_eq_true rfl) (dk_State_becomeAs 78 rfl) rfl c14 rfl t17 ?_
    have hs18 : p_x s10 s15 := t17.1
    show p_Go K l m_State_becomeAs 151 [(0, p_r v0), (1, p_r v1), (3, p_i v3)] [] s15 _
    cases h
    exact g_ret rfl rfl (dk_State_becomeAs 79 rfl) (fun _ => rfl)
  · have h := p_ifF b1 h
    refine g_aload_n (i := 1) (j := 1) (dk_State_becomeAs 37 rfl) rfl rfl ?_
    obtain ⟨c19, h⟩ := p_gdE h
    refine g_getR fl_State_19 (Or.inr ⟨_, rfl⟩) (dk_State_becomeAs 38 rfl) c19 ?_
    refine g_iload_n (i := 3) (j := 2) (dk_State_becomeAs 39 rfl) rfl rfl ?_
    obtain ⟨c20, h⟩ := p_gdE h
    obtain ⟨c21, h⟩ := p_gdE h
    refine g_aaload (i := 7) rfl (Or.inl ⟨_, rfl⟩) (dk_State_becomeAs 40 rfl) c20 c21.1 c21.2 ?_
    obtain ⟨c22, h⟩ := p_gdE h
    refine g_getI fl_State_60 (Or.inl rfl) (dk_State_becomeAs 41 rfl) c22 ?_
    refine g_if_ne 93 (dk_State_becomeAs 42 rfl) (by decide) (fun b23 => ?_) (fun b23 => ?_)
    · have h := p_ifT b23 h
      refine g_aload_n (i := 0) (j := 0) (dk_State_becomeAs 50 rfl) rfl rfl ?_
      obtain ⟨c24, h⟩ := p_gdE h
      refine g_getR fl_State_19 (Or.inr ⟨_, rfl⟩) (dk_State_becomeAs 51 rfl) c24 ?_
      refine g_iload_n (i := 3) (j := 2) (dk_State_becomeAs 52 rfl) rfl rfl ?_
      obtain ⟨c25, h⟩ := p_gdE h
      obtain ⟨c26, h⟩ := p_gdE h
      refine g_aaload (i := 7) rfl (Or.inl ⟨_, rfl⟩) (dk_State_becomeAs 53 rfl) c25 c26.1 c26.2 ?_
      refine g_aload_n (i := 1) (j := 1) (dk_State_becomeAs 54 rfl) rfl rfl ?_
      refine g_getR fl_State_19 (Or.inr ⟨_, rfl⟩) (dk_State_becomeAs 55 rfl) c19 ?_
      refine g_iload_n (i := 3) (j := 2) (dk_State_becomeAs 56 rfl) rfl rfl ?_
      obtain ⟨c27, h⟩ := p_gdE h
      refine g_aaload (i := 7) rfl (Or.inl ⟨_, rfl⟩) (dk_State_becomeAs 57 rfl) c20 c27.1 c27.2 ?_
      obtain ⟨c28, h⟩ := p_gdE h
      obtain ⟨s29, q30, h⟩ := p_bvE h
      have t31 := tF_Parcel_becomeAs K l (p_R s0 (p_R s0 v0 5) (v3).toNat) (p_R s0 (p_R s0 v1 5) (v3).toNat) s0 _ q30
      refine g_callV (a := (p_R s0 (p_R s0 v0 5) (v3).toNat)) (ci := 4) (q0 := (RX4, TX4, 13)) (As := [p_r (p_R s0 (p_R s0 v1 5) (v3).toNat)]) (rest := []) [] mt_Parcel_becomeAs rfl rfl tw_4_145 tw_4_146 tw_4_144 ⟨Nat.le_of_ble_eq_true rfl, Nat.le_of_ble_eq_true rfl⟩ rfl (Nat.le_of_ble_eq_true rfl) (dk_State_becomeAs 58 rfl) rfl c28 rfl t31 ?_
      have hs32 : p_x s0 s29 := t31.1
      show p_Go K l m_State_becomeAs 108 [(0, p_r v0), (1, p_r v1), (3, p_i v3)] [] s29 _
      exact tB_State_becomeAs_108 K l k62 hk62 v0 v1 v3 s29 _ h
    · have h := p_ifF b23 h
      refine g_aload_n (i := 0) (j := 0) (dk_State_becomeAs 43 rfl) rfl rfl ?_
      obtain ⟨c33, h⟩ := p_gdE h
      refine g_getR fl_State_19 (Or.inr ⟨_, rfl⟩) (dk_State_becomeAs 44 rfl) c33 ?_
      refine g_iload_n (i := 3) (j := 2) (dk_State_becomeAs 45 rfl) rfl rfl ?_
      obtain ⟨c34, h⟩ := p_gdE h
      obtain ⟨c35, h⟩ := p_gdE h
      refine g_aaload (i := 7) rfl (Or.inl ⟨_, rfl⟩) (dk_State_becomeAs 46 rfl) c34 c35.1 c35.2 ?_
      refine g_iconst (dk_State_becomeAs 47 rfl) (by decide) ?_
      obtain ⟨c36, h⟩ := p_gdE h
      refine g_putI fl_State_60 (Or.inl rfl) (dk_State_becomeAs 48 rfl) c36 ?_
      refine p_ltS (P := fun q => p_Go K l m_State_becomeAs 90 [(0, p_r v0), (1, p_r v1), (3, p_i v3)] [] q _) (p_xZ _ _ _ _) ?_ h
      intro s37 hs38 h
      refine g_goto 108 (dk_State_becomeAs 49 rfl) (by decide) ?_
      exact tB_State_becomeAs_108 K l k62 hk62 v0 v1 v3 s37 _ h
set_option maxRecDepth 100000 in
set_option maxHeartbeats 4000000 in
theorem tO_State_becomeAs_62 (K : p_K) (l : Launch)  : ∀ (n : Nat) (v0 : Nat) (v1 : Nat) (v3 : Int) (s0 : p_Hp) (r : p_Hp), O_State_becomeAs_62 n v0 v1 v3 s0 = some r → p_Go K l m_State_becomeAs 62 [(0, p_r v0), (1, p_r v1), (3, p_i v3)] [] s0 (none, r) := by
  intro n
  induction n with
  | zero => intro v0 v1 v3 s0 r h; cases (show (none : Option p_Hp) = some r from h)
  | succ n ih => intro v0 v1 v3 s0 r h; exact tL_State_becomeAs_62 K l _ ih v0 v1 v3 s0 r h
set_option maxRecDepth 100000 in
set_option maxHeartbeats 4000000 in
theorem tL_State_becomeAs_34 (K : p_K) (l : Launch) (k34 : Nat → Nat → Int → Int → p_Hp → Option p_Hp) (hk34 : ∀ (v0 : Nat) (v1 : Nat) (v2 : Int) (v3 : Int)  (s0 : p_Hp) (r : p_Hp), k34 v0 v1 v2 v3 s0 = some r → p_Go K l m_State_becomeAs 34 [(0, p_r v0), (1, p_r v1), (2, p_i v2), (3, p_i v3)] [] s0 (none, r)) (v0 : Nat) (v1 : Nat) (v2 : Int) (v3 : Int) (s0 : p_Hp) (r : p_Hp) (h : L_State_becomeAs_34 k34 v0 v1 v2 v3 s0 = some r) : p_Go K l m_State_becomeAs 34 [(0, p_r v0), (1, p_r v1), (2, p_i v2), (3, p_i v3)] [] s0 (none, r) := by
  unfold L_State_becomeAs_34 at h
  refine g_iload_n (i := 3) (j := 3) (dk_State_becomeAs 18 rfl) rfl rfl ?_
  refine g_iload_n (i := 2) (j := 2) (dk_State_becomeAs 19 rfl) rfl rfl ?_
  refine g_icmp_ge 60 (dk_State_becomeAs 20 rfl) (by decide) (fun b1 => ?_) (fun b1 => ?_)
  · have h := p_ifT b1 h
    refine g_iconst (dk_State_becomeAs 32 rfl) (by decide) ?_
    refine g_istore_n (i := 3) [(3, p_i 1), (0, p_r v0), (1, p_r v1), (2, p_i v2)] (dk_State_becomeAs 33 rfl) rfl (by decide) rfl ?_
    refine g_sub [(0, p_r v0), (1, p_r v1), (3, p_i 1)] [1, 2, 0] rfl ?_
    exact tO_State_becomeAs_62 K l 3000 v0 v1 1 s0 _ h
  · have h := p_ifF b1 h
    refine g_aload_n (i := 0) (j := 0) (dk_State_becomeAs 21 rfl) rfl rfl ?_
    obtain ⟨c2, h⟩ := p_gdE h
    refine g_getR fl_State_11 (Or.inr ⟨_, rfl⟩) (dk_State_becomeAs 22 rfl) c2 ?_
    refine g_iload_n (i := 3) (j := 3) (dk_State_becomeAs 23 rfl) rfl rfl ?_
    obtain ⟨c3, h⟩ := p_gdE h
    obtain ⟨c4, h⟩ := p_gdE h
    refine g_aaload (i := 6) rfl (Or.inl ⟨_, rfl⟩) (dk_State_becomeAs 24 rfl) c3 c4.1 c4.2 ?_
    refine g_aload_n (i := 1) (j := 1) (dk_State_becomeAs 25 rfl) rfl rfl ?_
    obtain ⟨c5, h⟩ := p_gdE h
    refine g_getR fl_State_11 (Or.inr ⟨_, rfl⟩) (dk_State_becomeAs 26 rfl) c5 ?_
    refine g_iload_n (i := 3) (j := 3) (dk_State_becomeAs 27 rfl) rfl rfl ?_
    obtain ⟨c6, h⟩ := p_gdE h
    obtain ⟨c7, h⟩ := p_gdE h
    refine g_aaload (i := 6) rfl (Or.inl ⟨_, rfl⟩) (dk_State_becomeAs 28 rfl) c6 c7.1 c7.2 ?_
    obtain ⟨c8, h⟩ := p_gdE h
    obtain ⟨s9, q10, h⟩ := p_bvE h
    have t11 := tF_Gear_becomeAs K l (p_R s0 (p_R s0 v0 4) (v3).toNat) (p_R s0 (p_R s0 v1 4) (v3).toNat) s0 _ q10
    refine g_callV (a := (p_R s0 (p_R s0 v0 4) (v3).toNat)) (ci := 0) (q0 := (RX0, TX0, 19)) (As := [p_r (p_R s0 (p_R s0 v1 4) (v3).toNat)]) (rest := []) [] mt_Gear_becomeAs rfl rfl tw_4_140 tw_4_141 tw_4_139 ⟨Nat.le_of_ble_eq_true rfl, Nat.le_of_ble_eq_true rfl⟩ rfl (Nat.le_of_ble_eq_true rfl) (dk_State_becomeAs 29 rfl) rfl c8 rfl t11 ?_
    have hs12 : p_x s0 s9 := t11.1
    show p_Go K l m_State_becomeAs 54 [(0, p_r v0), (1, p_r v1), (2, p_i v2), (3, p_i v3)] [] s9 _
    refine g_iinc (j := 3) [(3, p_i (p_w (v3 + 1))), (0, p_r v0), (1, p_r v1), (2, p_i v2)] (dk_State_becomeAs 30 rfl) rfl (by decide) rfl ?_
    refine p_ltG (P := fun q => p_Go K l m_State_becomeAs 57 [(3, p_i q), (0, p_r v0), (1, p_r v1), (2, p_i v2)] [] s9 _) ?_ h
    intro x13 h
    refine g_goto 34 (dk_State_becomeAs 31 rfl) (by decide) ?_
    refine g_sub [(0, p_r v0), (1, p_r v1), (2, p_i v2), (3, p_i x13)] [1, 2, 3, 0] rfl ?_
    exact hk34 v0 v1 v2 x13 s9 _ h
set_option maxRecDepth 100000 in
set_option maxHeartbeats 4000000 in
theorem tO_State_becomeAs_34 (K : p_K) (l : Launch)  : ∀ (n : Nat) (v0 : Nat) (v1 : Nat) (v2 : Int) (v3 : Int) (s0 : p_Hp) (r : p_Hp), O_State_becomeAs_34 n v0 v1 v2 v3 s0 = some r → p_Go K l m_State_becomeAs 34 [(0, p_r v0), (1, p_r v1), (2, p_i v2), (3, p_i v3)] [] s0 (none, r) := by
  intro n
  induction n with
  | zero => intro v0 v1 v2 v3 s0 r h; cases (show (none : Option p_Hp) = some r from h)
  | succ n ih => intro v0 v1 v2 v3 s0 r h; exact tL_State_becomeAs_34 K l _ ih v0 v1 v2 v3 s0 r h
set_option maxRecDepth 100000 in
set_option maxHeartbeats 4000000 in
theorem tF_State_becomeAs (K : p_K) (l : Launch) (v0 : Nat) (v1 : Nat) (v2 : Int) (s0 : p_Hp) (r : p_Hp) (h : F_State_becomeAs v0 v1 v2 s0 = some r) : p_Ct K l m_State_becomeAs [p_r v0, p_r v1, p_i v2] s0 (none, r) := by
  refine p_Ct.of (by decide) (Nat.le_of_ble_eq_true rfl) ?_
  unfold F_State_becomeAs at h
  show p_Go K l m_State_becomeAs 0 [(0, p_r v0), (1, p_r v1), (2, p_i v2)] [] s0 _
  refine g_aload_n (i := 0) (j := 0) (dk_State_becomeAs 0 rfl) rfl rfl ?_
  refine g_aload_n (i := 1) (j := 1) (dk_State_becomeAs 1 rfl) rfl rfl ?_
  obtain ⟨c1, h⟩ := p_gdE h
  refine g_getI fl_State_43 (Or.inl rfl) (dk_State_becomeAs 2 rfl) c1 ?_
  obtain ⟨c2, h⟩ := p_gdE h
  refine g_putI fl_State_43 (Or.inl rfl) (dk_State_becomeAs 3 rfl) c2 ?_
  refine p_ltS (P := fun q => p_Go K l m_State_becomeAs 8 [(0, p_r v0), (1, p_r v1), (2, p_i v2)] [] q _) (p_xZ _ _ _ _) ?_ h
  intro s3 hs4 h
  refine g_aload_n (i := 0) (j := 0) (dk_State_becomeAs 4 rfl) rfl rfl ?_
  refine g_aload_n (i := 1) (j := 1) (dk_State_becomeAs 5 rfl) rfl rfl ?_
  refine g_getI fl_State_47 (Or.inl rfl) (dk_State_becomeAs 6 rfl) (c1.up hs4) ?_
  refine g_putI fl_State_47 (Or.inl rfl) (dk_State_becomeAs 7 rfl) (c2.up hs4) ?_
  refine p_ltS (P := fun q => p_Go K l m_State_becomeAs 16 [(0, p_r v0), (1, p_r v1), (2, p_i v2)] [] q _) (p_xZ _ _ _ _) ?_ h
  intro s5 hs6 h
  refine g_aload_n (i := 0) (j := 0) (dk_State_becomeAs 8 rfl) rfl rfl ?_
  refine g_aload_n (i := 1) (j := 1) (dk_State_becomeAs 9 rfl) rfl rfl ?_
  refine g_getI fl_State_50 (Or.inl rfl) (dk_State_becomeAs 10 rfl) (c1.up (hs4.trans hs6)) ?_
  refine g_putI fl_State_50 (Or.inl rfl) (dk_State_becomeAs 11 rfl) (c2.up (hs4.trans hs6)) ?_
  refine p_ltS (P := fun q => p_Go K l m_State_becomeAs 24 [(0, p_r v0), (1, p_r v1), (2, p_i v2)] [] q _) (p_xZ _ _ _ _) ?_ h
  intro s7 hs8 h
  refine g_aload_n (i := 0) (j := 0) (dk_State_becomeAs 12 rfl) rfl rfl ?_
  refine g_aload_n (i := 1) (j := 1) (dk_State_becomeAs 13 rfl) rfl rfl ?_
  refine g_getI fl_State_53 (Or.inl rfl) (dk_State_becomeAs 14 rfl) (c1.up (hs4.trans (hs6.trans hs8))) ?_
  refine g_putI fl_State_53 (Or.inl rfl) (dk_State_becomeAs 15 rfl) (c2.up (hs4.trans (hs6.trans hs8))) ?_
  refine p_ltS (P := fun q => p_Go K l m_State_becomeAs 32 [(0, p_r v0), (1, p_r v1), (2, p_i v2)] [] q _) (p_xZ _ _ _ _) ?_ h
  intro s9 hs10 h
  refine g_iconst (dk_State_becomeAs 16 rfl) (by decide) ?_
  refine g_istore_n (i := 3) [(3, p_i 0), (0, p_r v0), (1, p_r v1), (2, p_i v2)] (dk_State_becomeAs 17 rfl) rfl (by decide) rfl ?_
  refine g_sub [(0, p_r v0), (1, p_r v1), (2, p_i v2), (3, p_i 0)] [1, 2, 3, 0] rfl ?_
  exact tO_State_becomeAs_34 K l 3000 v0 v1 v2 0 s9 _ h
